/-! TAPENAME, BIND, VALUE of the reference -/
theorem cmp_asym {a b : Int64} (h : b < a) : ¬ a < b := fun h2 => by
  have e1 := Int64.lt_iff_toInt_lt.mp h
  have e2 := Int64.lt_iff_toInt_lt.mp h2
  omega
theorem cmp_neq {a b : Int64} (h : b < a) : a ≠ b := fun e => by
  have e1 := Int64.lt_iff_toInt_lt.mp h
  rw [e] at e1
  omega
theorem cmp_ge {a b : Int64} (h : ¬ a < b) : ¬ lg_cmp a b < 0 := by
  unfold lg_cmp
  by_cases h1 : a > b
  · rw [if_pos h1]; decide
  · have e : a = b := by
      apply Int64.toInt_inj.mp
      have e1 : ¬ a.toInt < b.toInt := fun c => h (Int64.lt_iff_toInt_lt.mpr c)
      have e2 : ¬ b.toInt < a.toInt := fun c => h1 (Int64.lt_iff_toInt_lt.mpr c)
      omega
    rw [if_neg h1, if_pos e]; decide
theorem cmp_gt {a b : Int64} (h : b < a) : 0 < lg_cmp a b := by
  unfold lg_cmp
  rw [if_pos h]
  decide
theorem cmp_lt {a b : Int64} (h : a < b) : lg_cmp a b < 0 := by
  unfold lg_cmp
  rw [if_neg (cmp_asym h), if_neg (fun e => cmp_neq h e.symm)]
  decide
theorem dc_425_0 : decode (sm_cc 425) 0 = .ok (.aload_n 0, 1) := by decide +kernel
theorem dc_425_1 : decode (sm_cc 425) 1 = .ok (.getfield 854, 3) := by decide +kernel
theorem fr_425_854 : sm_at mt_f (sm_ow 425) 854 = some (854, 14, 75, 0, 2148) := by decide +kernel
theorem dc_425_4 : decode (sm_cc 425) 4 = .ok (.istore_n 1, 1) := by decide +kernel
theorem ml_425 : sm_ml 425 = 3 := by decide +kernel
theorem dc_425_5 : decode (sm_cc 425) 5 = .ok (.aload_n 0, 1) := by decide +kernel
theorem dc_425_6 : decode (sm_cc 425) 6 = .ok (.iconst 0, 1) := by decide +kernel
theorem dc_425_7 : decode (sm_cc 425) 7 = .ok (.putfield 854, 3) := by decide +kernel
theorem dc_425_10 : decode (sm_cc 425) 10 = .ok (.iload_n 1, 1) := by decide +kernel
theorem dc_425_11 : decode (sm_cc 425) 11 = .ok (.i2l, 1) := by decide +kernel
theorem dc_425_12 : decode (sm_cc 425) 12 = .ok (.lconst 1, 1) := by decide +kernel
theorem dc_425_13 : decode (sm_cc 425) 13 = .ok (.ldc2_w 871, 3) := by decide +kernel
theorem cj_425_871 : sm_at mt_cj (sm_ow 425) 871 = some (871, (12), 3040) := by decide +kernel
theorem dc_425_16 : decode (sm_cc 425) 16 = .ok (.invokestatic 680, 3) := by decide +kernel
theorem kr_425_680 : sm_at mt_k (sm_ow 425) 680 = some (680, 2, 284, 0, 2313) := by decide +kernel
theorem dc_425_19 : decode (sm_cc 425) 19 = .ok (.ifCond .eq (27), 3) := by decide +kernel
theorem dc_425_46 : decode (sm_cc 425) 46 = .ok (.iconst (-1), 1) := by decide +kernel
theorem dc_425_47 : decode (sm_cc 425) 47 = .ok (.ireturn, 1) := by decide +kernel
theorem rt_425 : sm_rt 425 = some .int := by decide +kernel
theorem dc_425_22 : decode (sm_cc 425) 22 = .ok (.aload_n 0, 1) := by decide +kernel
theorem dc_425_23 : decode (sm_cc 425) 23 = .ok (.getfield 851, 3) := by decide +kernel
theorem fr_425_851 : sm_at mt_f (sm_ow 425) 851 = some (851, 14, 74, 0, 2147) := by decide +kernel
theorem dc_425_26 : decode (sm_cc 425) 26 = .ok (.iconst 0, 1) := by decide +kernel
theorem dc_425_27 : decode (sm_cc 425) 27 = .ok (.baload, 1) := by decide +kernel
theorem dc_425_28 : decode (sm_cc 425) 28 = .ok (.invokestatic 155, 3) := by decide +kernel
theorem kr_425_155 : sm_at mt_k (sm_ow 425) 155 = some (155, 2, 289, 0, 2333) := by decide +kernel
theorem np_289 : sm_np 289 = 1 := by decide +kernel
theorem dc_425_31 : decode (sm_cc 425) 31 = .ok (.ifCond .eq (15), 3) := by decide +kernel
theorem dc_425_34 : decode (sm_cc 425) 34 = .ok (.aload_n 0, 1) := by decide +kernel
theorem dc_425_35 : decode (sm_cc 425) 35 = .ok (.getfield 851, 3) := by decide +kernel
theorem dc_425_38 : decode (sm_cc 425) 38 = .ok (.iconst 0, 1) := by decide +kernel
theorem dc_425_39 : decode (sm_cc 425) 39 = .ok (.iload_n 1, 1) := by decide +kernel
theorem dc_425_40 : decode (sm_cc 425) 40 = .ok (.invokestatic 162, 3) := by decide +kernel
theorem kr_425_162 : sm_at mt_k (sm_ow 425) 162 = some (162, 2, 291, 0, 2339) := by decide +kernel
theorem np_291 : sm_np 291 = 3 := by decide +kernel
theorem dc_425_43 : decode (sm_cc 425) 43 = .ok (.ifCond .lt (5), 3) := by decide +kernel
theorem dc_425_48 : decode (sm_cc 425) 48 = .ok (.iconst 0, 1) := by decide +kernel
theorem dc_425_49 : decode (sm_cc 425) 49 = .ok (.istore_n 2, 1) := by decide +kernel
theorem dc_425_50 : decode (sm_cc 425) 50 = .ok (.iload_n 2, 1) := by decide +kernel
theorem dc_425_51 : decode (sm_cc 425) 51 = .ok (.iload_n 1, 1) := by decide +kernel
theorem dc_425_52 : decode (sm_cc 425) 52 = .ok (.if_icmp .ge (35), 3) := by decide +kernel
theorem dc_425_55 : decode (sm_cc 425) 55 = .ok (.aload_n 0, 1) := by decide +kernel
theorem dc_425_56 : decode (sm_cc 425) 56 = .ok (.getfield 851, 3) := by decide +kernel
theorem dc_425_59 : decode (sm_cc 425) 59 = .ok (.iload_n 2, 1) := by decide +kernel
theorem dc_425_60 : decode (sm_cc 425) 60 = .ok (.baload, 1) := by decide +kernel
theorem dc_425_61 : decode (sm_cc 425) 61 = .ok (.invokestatic 155, 3) := by decide +kernel
theorem dc_425_64 : decode (sm_cc 425) 64 = .ok (.ifCond .ne (17), 3) := by decide +kernel
theorem dc_425_81 : decode (sm_cc 425) 81 = .ok (.iinc 2 (1), 3) := by decide +kernel
theorem dc_425_84 : decode (sm_cc 425) 84 = .ok (.goto (-34), 3) := by decide +kernel
theorem dc_425_67 : decode (sm_cc 425) 67 = .ok (.aload_n 0, 1) := by decide +kernel
theorem dc_425_68 : decode (sm_cc 425) 68 = .ok (.getfield 851, 3) := by decide +kernel
theorem dc_425_71 : decode (sm_cc 425) 71 = .ok (.iload_n 2, 1) := by decide +kernel
theorem dc_425_72 : decode (sm_cc 425) 72 = .ok (.baload, 1) := by decide +kernel
theorem dc_425_73 : decode (sm_cc 425) 73 = .ok (.invokestatic 159, 3) := by decide +kernel
theorem kr_425_159 : sm_at mt_k (sm_ow 425) 159 = some (159, 2, 290, 0, 2336) := by decide +kernel
theorem np_290 : sm_np 290 = 1 := by decide +kernel
theorem dc_425_76 : decode (sm_cc 425) 76 = .ok (.ifCond .ne (5), 3) := by decide +kernel
theorem dc_425_79 : decode (sm_cc 425) 79 = .ok (.iconst (-1), 1) := by decide +kernel
theorem dc_425_80 : decode (sm_cc 425) 80 = .ok (.ireturn, 1) := by decide +kernel
theorem dc_425_87 : decode (sm_cc 425) 87 = .ok (.aload_n 0, 1) := by decide +kernel
theorem dc_425_88 : decode (sm_cc 425) 88 = .ok (.aload_n 0, 1) := by decide +kernel
theorem dc_425_89 : decode (sm_cc 425) 89 = .ok (.getfield 851, 3) := by decide +kernel
theorem dc_425_92 : decode (sm_cc 425) 92 = .ok (.iconst 0, 1) := by decide +kernel
theorem dc_425_93 : decode (sm_cc 425) 93 = .ok (.iload_n 1, 1) := by decide +kernel
theorem dc_425_94 : decode (sm_cc 425) 94 = .ok (.invokevirtual 166, 3) := by decide +kernel
theorem ow_294 : 14 = sm_ow 294 := by decide +kernel
theorem kr_425_166 : sm_at mt_k (sm_ow 425) 166 = some (166, 0, 294, 0, 2375) := by decide +kernel
theorem np_294 : sm_np 294 = 3 := by decide +kernel
theorem dc_425_97 : decode (sm_cc 425) 97 = .ok (.ireturn, 1) := by decide +kernel
theorem dc_424_0 : decode (sm_cc 424) 0 = .ok (.aload_n 0, 1) := by decide +kernel
theorem dc_424_1 : decode (sm_cc 424) 1 = .ok (.invokevirtual 873, 3) := by decide +kernel
theorem ow_425 : 14 = sm_ow 425 := by decide +kernel
theorem kr_424_873 : sm_at mt_k (sm_ow 424) 873 = some (873, 0, 425, 0, 3036) := by decide +kernel
theorem np_425 : sm_np 425 = 0 := by decide +kernel
theorem dc_424_4 : decode (sm_cc 424) 4 = .ok (.istore_n 3, 1) := by decide +kernel
theorem ml_424 : sm_ml 424 = 4 := by decide +kernel
theorem dc_424_5 : decode (sm_cc 424) 5 = .ok (.iload_n 3, 1) := by decide +kernel
theorem dc_424_6 : decode (sm_cc 424) 6 = .ok (.ifCond .ge (5), 3) := by decide +kernel
theorem dc_424_11 : decode (sm_cc 424) 11 = .ok (.aload_n 0, 1) := by decide +kernel
theorem dc_424_12 : decode (sm_cc 424) 12 = .ok (.getfield 24, 3) := by decide +kernel
theorem fr_424_24 : sm_at mt_f (sm_ow 424) 24 = some (24, 14, 3, 0, 2076) := by decide +kernel
theorem dc_424_15 : decode (sm_cc 424) 15 = .ok (.iload_n 3, 1) := by decide +kernel
theorem dc_424_16 : decode (sm_cc 424) 16 = .ok (.iconst 1, 1) := by decide +kernel
theorem dc_424_17 : decode (sm_cc 424) 17 = .ok (.iastore, 1) := by decide +kernel
theorem dc_424_18 : decode (sm_cc 424) 18 = .ok (.aload_n 0, 1) := by decide +kernel
theorem dc_424_19 : decode (sm_cc 424) 19 = .ok (.getfield 27, 3) := by decide +kernel
theorem fr_424_27 : sm_at mt_f (sm_ow 424) 27 = some (27, 14, 4, 0, 2077) := by decide +kernel
theorem dc_424_22 : decode (sm_cc 424) 22 = .ok (.iload_n 3, 1) := by decide +kernel
theorem dc_424_23 : decode (sm_cc 424) 23 = .ok (.lload_n 1, 1) := by decide +kernel
theorem dc_424_24 : decode (sm_cc 424) 24 = .ok (.lastore, 1) := by decide +kernel
theorem dc_424_25 : decode (sm_cc 424) 25 = .ok (.iconst 0, 1) := by decide +kernel
theorem dc_424_26 : decode (sm_cc 424) 26 = .ok (.ireturn, 1) := by decide +kernel
theorem rt_424 : sm_rt 424 = some .int := by decide +kernel
theorem dc_426_0 : decode (sm_cc 426) 0 = .ok (.aload_n 0, 1) := by decide +kernel
theorem dc_426_1 : decode (sm_cc 426) 1 = .ok (.invokevirtual 873, 3) := by decide +kernel
theorem kr_426_873 : sm_at mt_k (sm_ow 426) 873 = some (873, 0, 425, 0, 3036) := by decide +kernel
theorem dc_426_4 : decode (sm_cc 426) 4 = .ok (.istore_n 1, 1) := by decide +kernel
theorem ml_426 : sm_ml 426 = 2 := by decide +kernel
theorem dc_426_5 : decode (sm_cc 426) 5 = .ok (.iload_n 1, 1) := by decide +kernel
theorem dc_426_6 : decode (sm_cc 426) 6 = .ok (.ifCond .lt (13), 3) := by decide +kernel
theorem dc_426_9 : decode (sm_cc 426) 9 = .ok (.aload_n 0, 1) := by decide +kernel
theorem dc_426_10 : decode (sm_cc 426) 10 = .ok (.getfield 24, 3) := by decide +kernel
theorem fr_426_24 : sm_at mt_f (sm_ow 426) 24 = some (24, 14, 3, 0, 2076) := by decide +kernel
theorem dc_426_13 : decode (sm_cc 426) 13 = .ok (.iload_n 1, 1) := by decide +kernel
theorem dc_426_14 : decode (sm_cc 426) 14 = .ok (.iaload, 1) := by decide +kernel
theorem dc_426_15 : decode (sm_cc 426) 15 = .ok (.iconst (-1), 1) := by decide +kernel
theorem dc_426_16 : decode (sm_cc 426) 16 = .ok (.if_icmp .ne (7), 3) := by decide +kernel
theorem dc_426_19 : decode (sm_cc 426) 19 = .ok (.ldc2_w 876, 3) := by decide +kernel
theorem cj_426_876 : sm_at mt_cj (sm_ow 426) 876 = some (876, (4611686018427387905), 3045) := by decide +kernel
theorem dc_426_22 : decode (sm_cc 426) 22 = .ok (.lreturn, 1) := by decide +kernel
theorem rt_426 : sm_rt 426 = some .long := by decide +kernel
theorem dc_426_23 : decode (sm_cc 426) 23 = .ok (.aload_n 0, 1) := by decide +kernel
theorem dc_426_24 : decode (sm_cc 426) 24 = .ok (.getfield 24, 3) := by decide +kernel
theorem dc_426_27 : decode (sm_cc 426) 27 = .ok (.iload_n 1, 1) := by decide +kernel
theorem dc_426_28 : decode (sm_cc 426) 28 = .ok (.iaload, 1) := by decide +kernel
theorem dc_426_29 : decode (sm_cc 426) 29 = .ok (.iconst 1, 1) := by decide +kernel
theorem dc_426_30 : decode (sm_cc 426) 30 = .ok (.if_icmp .ne (12), 3) := by decide +kernel
theorem dc_426_33 : decode (sm_cc 426) 33 = .ok (.aload_n 0, 1) := by decide +kernel
theorem dc_426_34 : decode (sm_cc 426) 34 = .ok (.getfield 27, 3) := by decide +kernel
theorem fr_426_27 : sm_at mt_f (sm_ow 426) 27 = some (27, 14, 4, 0, 2077) := by decide +kernel
theorem dc_426_37 : decode (sm_cc 426) 37 = .ok (.iload_n 1, 1) := by decide +kernel
theorem dc_426_38 : decode (sm_cc 426) 38 = .ok (.laload, 1) := by decide +kernel
theorem dc_426_39 : decode (sm_cc 426) 39 = .ok (.goto (6), 3) := by decide +kernel
theorem dc_426_45 : decode (sm_cc 426) 45 = .ok (.lreturn, 1) := by decide +kernel
theorem dc_426_42 : decode (sm_cc 426) 42 = .ok (.ldc2_w 878, 3) := by decide +kernel
theorem cj_426_878 : sm_at mt_cj (sm_ow 426) 878 = some (878, (4611686018427387904), 3046) := by decide +kernel
theorem dc_424_9 : decode (sm_cc 424) 9 = .ok (.iconst (-1), 1) := by decide +kernel
theorem dc_424_10 : decode (sm_cc 424) 10 = .ok (.ireturn, 1) := by decide +kernel
theorem neg_lt {x : Int32} {n : Nat} (h : x < 0) (hn : n < 2 ^ 31) : x < nI n := by
  rw [Int32.lt_iff_toInt_lt] at h ⊢
  rw [nI_toInt hn]
  rw [show (0 : Int32).toInt = 0 by decide] at h
  omega
theorem neg_ne {x : Int32} {n : Nat} (h : x < 0) (hn : n < 2 ^ 31) : x ≠ nI n := fun e => by
  rw [e] at h
  exact nI_pos hn h
/-- a byte without its sign -/
def ub (x : Int32) : Nat := gN (x &&& nI 255)
theorem ub_neg : ∀ k : Nat, k < 128 → (Int32.ofInt (-(k : Int) - 1) &&& nI 255) = nI (255 - k) := by decide +kernel
theorem ub_pos : ∀ k : Nat, k < 128 → (nI k &&& nI 255) = nI k := by decide +kernel
theorem byte_or {x : Int32} (h : fits .byte (.int x) = true) : (∃ b, b < 128 ∧ x = nI b ∧ x &&& nI 255 = nI b ∧ ub x = b) ∨ (x < 0 ∧ ∃ b, 128 ≤ b ∧ b < 256 ∧ x &&& nI 255 = nI b ∧ ub x = b) := by
  have h2 : -128 ≤ x ∧ x ≤ 127 := by
    have : (decide (-128 ≤ x) && decide (x ≤ 127)) = true := h
    simpa using this
  have h3 := Int32.le_iff_toInt_le.mp h2.1
  have h4 := Int32.le_iff_toInt_le.mp h2.2
  rw [show (-128 : Int32).toInt = -128 by decide] at h3
  rw [show (127 : Int32).toInt = 127 by decide] at h4
  by_cases hn : x < 0
  · refine Or.inr ⟨hn, ?_⟩
    have h5 := Int32.lt_iff_toInt_lt.mp hn
    rw [show (0 : Int32).toInt = 0 by decide] at h5
    have hx : x = Int32.ofInt (-(((-x.toInt - 1).toNat : Nat) : Int) - 1) := by
      have : -(((-x.toInt - 1).toNat : Nat) : Int) - 1 = x.toInt := by omega
      rw [this, Int32.ofInt_toInt]
    have hk : (-x.toInt - 1).toNat < 128 := by omega
    generalize (-x.toInt - 1).toNat = k at hx hk
    refine ⟨255 - k, by omega, by omega, ?_, ?_⟩
    · rw [hx, ub_neg k hk]
    · unfold ub
      rw [hx, ub_neg k hk, gN_nI (by omega)]
  · obtain ⟨b, hb1, hb2⟩ := nI_of hn
    subst hb2
    rw [nI_toInt hb1] at h4
    refine Or.inl ⟨b, by omega, rfl, ub_pos b (by omega), ?_⟩
    unfold ub
    rw [ub_pos b (by omega), gN_nI (by omega)]
theorem let_hi {b : Nat} (h : 128 ≤ b) : c_let b = false ∧ c_dig b = false := by
  constructor
  · have h2 : ¬ c_let b = true := by
      intro hc
      unfold c_let at hc
      simp only [Bool.or_eq_true, Bool.and_eq_true, Nat.ble_eq, Nat.beq_eq] at hc
      omega
    cases hc : c_let b with
    | true => exact absurd hc h2
    | false => rfl
  · have h2 : ¬ c_dig b = true := by
      intro hc
      unfold c_dig at hc
      simp only [Bool.and_eq_true, Nat.ble_eq] at hc
      omega
    cases hc : c_dig b with
    | true => exact absurd hc h2
    | false => rfl
theorem rLetter_neg {d : Nat} {S : cS} {x : Int32} (h : x < 0) : Ans (d + 1) 289 [.int x] S (some (.int 0)) (S) := by
  refine Ans.of (by rw [ml_289]; exact Nat.le_of_ble_eq_true rfl) ?_
  refine Bod.go dc_289_0 rfl ?_
  refine Bod.bip 97 (by decide) dc_289_1 ?_
  refine Bod.icT dc_289_3 rfl (if_pos (neg_lt h (by decide))) ?_
  refine Bod.go dc_289_12 rfl ?_
  refine Bod.bip 65 (by decide) dc_289_13 ?_
  refine Bod.icT dc_289_15 rfl (if_pos (neg_lt h (by decide))) ?_
  refine Bod.go dc_289_24 rfl ?_
  refine Bod.bip 95 (by decide) dc_289_25 ?_
  refine Bod.icT dc_289_27 rfl (k2_ne_T (neg_ne h (by decide))) ?_
  refine Bod.ic 0 (by decide) dc_289_34 ?_
  exact Bod.retZ dc_289_35 rt_289 (Or.inl rfl)
theorem rDigit_neg {d : Nat} {S : cS} {x : Int32} (h : x < 0) : Ans (d + 1) 290 [.int x] S (some (.int 0)) (S) := by
  refine Ans.of (by rw [ml_290]; exact Nat.le_of_ble_eq_true rfl) ?_
  refine Bod.go dc_290_0 rfl ?_
  refine Bod.bip 48 (by decide) dc_290_1 ?_
  refine Bod.icT dc_290_3 rfl (if_pos (neg_lt h (by decide))) ?_
  refine Bod.ic 0 (by decide) dc_290_16 ?_
  exact Bod.retZ dc_290_17 rt_290 (Or.inl rfl)
theorem rLet_T {d : Nat} {S : cS} {x : Int32} (hf : fits .byte (.int x) = true) (h : c_let (ub x) = true) : Ans (d + 1) 289 [.int x] S (some (.int 1)) S := by
  rcases byte_or hf with ⟨b, hb, e, _, eu⟩ | ⟨hn, b, h1, h2, _, eu⟩
  · rw [eu] at h; rw [e]; exact rLetter_T h
  · rw [eu, (let_hi h1).1] at h; cases h
theorem rLet_F {d : Nat} {S : cS} {x : Int32} (hf : fits .byte (.int x) = true) (h : c_let (ub x) = false) : Ans (d + 1) 289 [.int x] S (some (.int 0)) S := by
  rcases byte_or hf with ⟨b, hb, e, _, eu⟩ | ⟨hn, b, h1, h2, _, eu⟩
  · rw [eu] at h; rw [e]; exact rLetter_F (by omega) h
  · exact rLetter_neg hn
theorem rDig_T {d : Nat} {S : cS} {x : Int32} (hf : fits .byte (.int x) = true) (h : c_dig (ub x) = true) : Ans (d + 1) 290 [.int x] S (some (.int 1)) S := by
  rcases byte_or hf with ⟨b, hb, e, _, eu⟩ | ⟨hn, b, h1, h2, _, eu⟩
  · rw [eu] at h; rw [e]; exact rDigit_T h
  · rw [eu, (let_hi h1).2] at h; cases h
theorem rDig_F {d : Nat} {S : cS} {x : Int32} (hf : fits .byte (.int x) = true) (h : c_dig (ub x) = false) : Ans (d + 1) 290 [.int x] S (some (.int 0)) S := by
  rcases byte_or hf with ⟨b, hb, e, _, eu⟩ | ⟨hn, b, h1, h2, _, eu⟩
  · rw [eu] at h; rw [e]; exact rDigit_F (by omega) h
  · exact rDigit_neg hn
theorem in_no_lo {d : Nat} {S : cS} {a b c : Int64} (h1 : a < b) : Ans (d + 1) 284 [.long a, .long b, .long c] S (some (.int 0)) S := by
  refine Ans.of (by rw [ml_284]; exact Nat.le_of_ble_eq_true rfl) ?_
  refine Bod.go dc_284_0 rfl ?_
  refine Bod.go dc_284_1 rfl ?_
  refine Bod.go dc_284_2 rfl ?_
  refine Bod.ifT dc_284_3 rfl (if_pos (cmp_lt h1)) ?_
  refine Bod.ic 0 (by decide) dc_284_17 ?_
  exact Bod.retZ dc_284_18 rt_284 (Or.inl rfl)
theorem in_no_hi {d : Nat} {S : cS} {a b c : Int64} (h1 : ¬ a < b) (h2 : c < a) : Ans (d + 1) 284 [.long a, .long b, .long c] S (some (.int 0)) S := by
  refine Ans.of (by rw [ml_284]; exact Nat.le_of_ble_eq_true rfl) ?_
  refine Bod.go dc_284_0 rfl ?_
  refine Bod.go dc_284_1 rfl ?_
  refine Bod.go dc_284_2 rfl ?_
  refine Bod.ifF dc_284_3 rfl (if_neg (cmp_ge h1)) ?_
  refine Bod.go dc_284_6 rfl ?_
  refine Bod.go dc_284_7 rfl ?_
  refine Bod.go dc_284_9 rfl ?_
  refine Bod.ifT dc_284_10 rfl (if_pos (cmp_gt h2)) ?_
  refine Bod.ic 0 (by decide) dc_284_17 ?_
  exact Bod.retZ dc_284_18 rt_284 (Or.inl rfl)
theorem rT_0 {d : Nat} {S : cS} {n : Nat} (hn : sI S 6175 = nI n) (h0 : n = 0) : Ans (d + 2) 425 [.ref 61] S (some (.int (Int32.ofInt (-1)))) (wI 6175 (nI 0) S) := by
  refine Ans.of (by rw [ml_425]; exact Nat.le_of_ble_eq_true rfl) ?_
  refine Bod.go dc_425_0 rfl ?_
  refine Bod.get dc_425_1 fr_425_854 (mk_61 _) rfl ?_
  refine Bod.eqI (nI n) (by first | assumption | rfl | exact congrArg nI (by omega) | (simp (disch := omega) only [rI, rIe, rA, rIA, rLA, rJA, rVI, rQI, rVA, rQA, upd_at,  rAI, rLI, rJI, nI_add, pk_sub, kc_0, kc_1, kc_2, kc_3, kc_4, kc_5, reduceIte, Nat.reduceEqDiff, Nat.add_zero, rI_hold, rI_hold, rL_hold, hn]; done)) ?_
  refine Bod.istn dc_425_4 (by rw [ml_425]; exact Nat.le_of_ble_eq_true rfl) ?_
  refine Bod.go dc_425_5 rfl ?_
  refine Bod.ic 0 (by decide) dc_425_6 ?_
  refine Bod.put dc_425_7 fr_425_854 (mk_61 _) (Nat.le_of_ble_eq_true rfl) pf_14_75 (st_6175 _ _) (mu_I _ _ _) ?_
  refine Bod.go dc_425_10 rfl ?_
  refine Bod.go dc_425_11 rfl ?_
  refine Bod.go dc_425_12 rfl ?_
  refine Bod.ldc2 dc_425_13 cj_425_871 ?_
  refine Bod.stat (r := []) dc_425_16 kr_425_680 (Or.inl rfl) (by rw [np_284]; rfl) (by rw [np_284]; rfl) (by rw [np_284]; exact Nat.le_of_ble_eq_true rfl) (Nat.le_of_ble_eq_true rfl) (in_no_lo  (by rw [h0]; decide)) ?_
  show Bod _ _ _ _ [_] _ _ _
  refine Bod.ifT dc_425_19 rfl (k1_eq_T (k_eq 0 0 rfl rfl (by omega))) ?_
  refine Bod.go dc_425_46 rfl ?_
  exact Bod.retI dc_425_47 rt_425
theorem rT_13 {d : Nat} {S : cS} {n : Nat} (hn : sI S 6175 = nI n) (hM : n ≤ 3000) (h0 : 12 < n) : Ans (d + 2) 425 [.ref 61] S (some (.int (Int32.ofInt (-1)))) (wI 6175 (nI 0) S) := by
  refine Ans.of (by rw [ml_425]; exact Nat.le_of_ble_eq_true rfl) ?_
  refine Bod.go dc_425_0 rfl ?_
  refine Bod.get dc_425_1 fr_425_854 (mk_61 _) rfl ?_
  refine Bod.eqI (nI n) (by first | assumption | rfl | exact congrArg nI (by omega) | (simp (disch := omega) only [rI, rIe, rA, rIA, rLA, rJA, rVI, rQI, rVA, rQA, upd_at,  rAI, rLI, rJI, nI_add, pk_sub, kc_0, kc_1, kc_2, kc_3, kc_4, kc_5, reduceIte, Nat.reduceEqDiff, Nat.add_zero, rI_hold, rI_hold, rL_hold, hn]; done)) ?_
  refine Bod.istn dc_425_4 (by rw [ml_425]; exact Nat.le_of_ble_eq_true rfl) ?_
  refine Bod.go dc_425_5 rfl ?_
  refine Bod.ic 0 (by decide) dc_425_6 ?_
  refine Bod.put dc_425_7 fr_425_854 (mk_61 _) (Nat.le_of_ble_eq_true rfl) pf_14_75 (st_6175 _ _) (mu_I _ _ _) ?_
  refine Bod.go dc_425_10 rfl ?_
  refine Bod.go dc_425_11 rfl ?_
  refine Bod.go dc_425_12 rfl ?_
  refine Bod.ldc2 dc_425_13 cj_425_871 ?_
  refine Bod.stat (r := []) dc_425_16 kr_425_680 (Or.inl rfl) (by rw [np_284]; rfl) (by rw [np_284]; rfl) (by rw [np_284]; exact Nat.le_of_ble_eq_true rfl) (Nat.le_of_ble_eq_true rfl) (in_no_hi  (fun h => absurd ((lN_lt (a := n) (b := 1) (by omega) (by decide)).mp (by rw [← nI_l (by omega)]; exact h)) (by omega)) (by rw [nI_l (by omega)]; exact (lN_lt (a := 12) (b := n) (by decide) (by omega)).mpr (by omega))) ?_
  show Bod _ _ _ _ [_] _ _ _
  refine Bod.ifT dc_425_19 rfl (k1_eq_T (k_eq 0 0 rfl rfl (by omega))) ?_
  refine Bod.go dc_425_46 rfl ?_
  exact Bod.retI dc_425_47 rt_425
theorem rT_let {d : Nat} {S : cS} {n : Nat} (hn : sI S 6175 = nI n) (h1 : 1 ≤ n) (h2 : n ≤ 12) (hb : ∀ i, i < 3000 → fits .byte (.int (sA S 107 i)) = true) (hl : c_let (ub (sA S 107 0)) = false) : Ans (d + 2) 425 [.ref 61] S (some (.int (Int32.ofInt (-1)))) (wI 6175 (nI 0) S) := by
  refine Ans.of (by rw [ml_425]; exact Nat.le_of_ble_eq_true rfl) ?_
  refine Bod.go dc_425_0 rfl ?_
  refine Bod.get dc_425_1 fr_425_854 (mk_61 _) rfl ?_
  refine Bod.eqI (nI n) (by first | assumption | rfl | exact congrArg nI (by omega) | (simp (disch := omega) only [rI, rIe, rA, rIA, rLA, rJA, rVI, rQI, rVA, rQA, upd_at,  rAI, rLI, rJI, nI_add, pk_sub, kc_0, kc_1, kc_2, kc_3, kc_4, kc_5, reduceIte, Nat.reduceEqDiff, Nat.add_zero, rI_hold, rI_hold, rL_hold, hn]; done)) ?_
  refine Bod.istn dc_425_4 (by rw [ml_425]; exact Nat.le_of_ble_eq_true rfl) ?_
  refine Bod.go dc_425_5 rfl ?_
  refine Bod.ic 0 (by decide) dc_425_6 ?_
  refine Bod.put dc_425_7 fr_425_854 (mk_61 _) (Nat.le_of_ble_eq_true rfl) pf_14_75 (st_6175 _ _) (mu_I _ _ _) ?_
  refine Bod.go dc_425_10 rfl ?_
  refine Bod.go dc_425_11 rfl ?_
  refine Bod.go dc_425_12 rfl ?_
  refine Bod.ldc2 dc_425_13 cj_425_871 ?_
  refine Bod.stat (r := []) dc_425_16 kr_425_680 (Or.inl rfl) (by rw [np_284]; rfl) (by rw [np_284]; rfl) (by rw [np_284]; exact Nat.le_of_ble_eq_true rfl) (Nat.le_of_ble_eq_true rfl) (in_yesA  (fun h => absurd ((lN_lt (a := n) (b := 1) (by omega) (by decide)).mp (by rw [← nI_l (by omega)]; exact h)) (by omega)) (fun h => absurd ((lN_lt (a := 12) (b := n) (by decide) (by omega)).mp (by rw [← nI_l (n := n) (by omega)]; exact h)) (by omega))) ?_
  show Bod _ _ _ _ [_] _ _ _
  refine Bod.ifF dc_425_19 rfl (k1_eq_F (k_ne 1 0 rfl rfl (by omega) (by omega) (by omega))) ?_
  refine Bod.go dc_425_22 rfl ?_
  refine Bod.get dc_425_23 fr_425_851 (mk_61 _) rfl ?_
  refine Bod.ic 0 (by decide) dc_425_26 ?_
  refine Bod.baldN 0 rfl (by omega) (by omega) dc_425_27 (mk_107 _) (Or.inl rfl) ?_
  refine Bod.stat (r := []) dc_425_28 kr_425_155 (Or.inl rfl) (by rw [np_289]; rfl) (by rw [np_289]; rfl) (by rw [np_289]; exact Nat.le_of_ble_eq_true rfl) (Nat.le_of_ble_eq_true rfl) (rLet_F (x := (sA S 107 0)) (hb 0 (by omega)) hl) ?_
  show Bod _ _ _ _ [_] _ _ _
  refine Bod.ifT dc_425_31 rfl (k1_eq_T (k_eq 0 0 rfl rfl (by omega))) ?_
  refine Bod.go dc_425_46 rfl ?_
  exact Bod.retI dc_425_47 rt_425
theorem rT_word {d : Nat} {S : cS} {n : Nat} {q : Nat} (hn : sI S 6175 = nI n) (h1 : 1 ≤ n) (h2 : n ≤ 12) (hb : ∀ i, i < 3000 → fits .byte (.int (sA S 107 i)) = true) (hl : c_let (ub (sA S 107 0)) = true) (hq : q < 24) (hW : Ans (d + 6) 291 [.ref 107, .int (nI 0), .int (nI n)] (wI 6175 (nI 0) S) (some (.int (nI q))) (wI 6175 (nI 0) S)) : Ans (d + 7) 425 [.ref 61] S (some (.int (Int32.ofInt (-1)))) (wI 6175 (nI 0) S) := by
  refine Ans.of (by rw [ml_425]; exact Nat.le_of_ble_eq_true rfl) ?_
  refine Bod.go dc_425_0 rfl ?_
  refine Bod.get dc_425_1 fr_425_854 (mk_61 _) rfl ?_
  refine Bod.eqI (nI n) (by first | assumption | rfl | exact congrArg nI (by omega) | (simp (disch := omega) only [rI, rIe, rA, rIA, rLA, rJA, rVI, rQI, rVA, rQA, upd_at,  rAI, rLI, rJI, nI_add, pk_sub, kc_0, kc_1, kc_2, kc_3, kc_4, kc_5, reduceIte, Nat.reduceEqDiff, Nat.add_zero, rI_hold, rI_hold, rL_hold, hn]; done)) ?_
  refine Bod.istn dc_425_4 (by rw [ml_425]; exact Nat.le_of_ble_eq_true rfl) ?_
  refine Bod.go dc_425_5 rfl ?_
  refine Bod.ic 0 (by decide) dc_425_6 ?_
  refine Bod.put dc_425_7 fr_425_854 (mk_61 _) (Nat.le_of_ble_eq_true rfl) pf_14_75 (st_6175 _ _) (mu_I _ _ _) ?_
  refine Bod.go dc_425_10 rfl ?_
  refine Bod.go dc_425_11 rfl ?_
  refine Bod.go dc_425_12 rfl ?_
  refine Bod.ldc2 dc_425_13 cj_425_871 ?_
  refine Bod.stat (r := []) dc_425_16 kr_425_680 (Or.inl rfl) (by rw [np_284]; rfl) (by rw [np_284]; rfl) (by rw [np_284]; exact Nat.le_of_ble_eq_true rfl) (Nat.le_of_ble_eq_true rfl) (in_yesA  (fun h => absurd ((lN_lt (a := n) (b := 1) (by omega) (by decide)).mp (by rw [← nI_l (by omega)]; exact h)) (by omega)) (fun h => absurd ((lN_lt (a := 12) (b := n) (by decide) (by omega)).mp (by rw [← nI_l (n := n) (by omega)]; exact h)) (by omega))) ?_
  show Bod _ _ _ _ [_] _ _ _
  refine Bod.ifF dc_425_19 rfl (k1_eq_F (k_ne 1 0 rfl rfl (by omega) (by omega) (by omega))) ?_
  refine Bod.go dc_425_22 rfl ?_
  refine Bod.get dc_425_23 fr_425_851 (mk_61 _) rfl ?_
  refine Bod.ic 0 (by decide) dc_425_26 ?_
  refine Bod.baldN 0 rfl (by omega) (by omega) dc_425_27 (mk_107 _) (Or.inl rfl) ?_
  refine Bod.stat (r := []) dc_425_28 kr_425_155 (Or.inl rfl) (by rw [np_289]; rfl) (by rw [np_289]; rfl) (by rw [np_289]; exact Nat.le_of_ble_eq_true rfl) (Nat.le_of_ble_eq_true rfl) (rLet_T (x := (sA S 107 0)) (hb 0 (by omega)) hl) ?_
  show Bod _ _ _ _ [_] _ _ _
  refine Bod.ifF dc_425_31 rfl (k1_eq_F (k_ne 1 0 rfl rfl (by omega) (by omega) (by omega))) ?_
  refine Bod.go dc_425_34 rfl ?_
  refine Bod.get dc_425_35 fr_425_851 (mk_61 _) rfl ?_
  refine Bod.ic 0 (by decide) dc_425_38 ?_
  refine Bod.go dc_425_39 rfl ?_
  refine Bod.stat (r := []) dc_425_40 kr_425_162 (Or.inl rfl) (by rw [np_291]; rfl) (by rw [np_291]; rfl) (by rw [np_291]; exact Nat.le_of_ble_eq_true rfl) (Nat.le_of_ble_eq_true rfl) (hW  ) ?_
  show Bod _ _ _ _ [_] _ _ _
  refine Bod.ifF dc_425_43 rfl (k1_lt_F q rfl (by omega)) ?_
  refine Bod.go dc_425_46 rfl ?_
  exact Bod.retI dc_425_47 rt_425
theorem rT_in {d n : Nat} {S Sf : cS} {v : Option Value} (hn : sI S 6175 = nI n) (h1 : 1 ≤ n) (h2 : n ≤ 12) (hb : ∀ i, i < 3000 → fits .byte (.int (sA S 107 i)) = true) (hl : c_let (ub (sA S 107 0)) = true) (hW : Ans (d + 6) 291 [.ref 107, .int (nI 0), .int (nI n)] (wI 6175 (nI 0) S) (some (.int (Int32.ofInt (-1)))) (wI 6175 (nI 0) S)) (hx : Bod (d + 6) 425 50 (sm_p1 (sm_p1 (lv_args 0 [.ref 61]) 1 (.int (nI n))) 2 (.int (nI 0))) [] (wI 6175 (nI 0) S) v Sf) : Ans (d + 7) 425 [.ref 61] S v Sf := by
  refine Ans.of (by rw [ml_425]; exact Nat.le_of_ble_eq_true rfl) ?_
  refine Bod.go dc_425_0 rfl ?_
  refine Bod.get dc_425_1 fr_425_854 (mk_61 _) rfl ?_
  refine Bod.eqI (nI n) (by first | assumption | rfl | exact congrArg nI (by omega) | (simp (disch := omega) only [rI, rIe, rA, rIA, rLA, rJA, rVI, rQI, rVA, rQA, upd_at,  rAI, rLI, rJI, nI_add, pk_sub, kc_0, kc_1, kc_2, kc_3, kc_4, kc_5, reduceIte, Nat.reduceEqDiff, Nat.add_zero, rI_hold, rI_hold, rL_hold, hn]; done)) ?_
  refine Bod.istn dc_425_4 (by rw [ml_425]; exact Nat.le_of_ble_eq_true rfl) ?_
  refine Bod.go dc_425_5 rfl ?_
  refine Bod.ic 0 (by decide) dc_425_6 ?_
  refine Bod.put dc_425_7 fr_425_854 (mk_61 _) (Nat.le_of_ble_eq_true rfl) pf_14_75 (st_6175 _ _) (mu_I _ _ _) ?_
  refine Bod.go dc_425_10 rfl ?_
  refine Bod.go dc_425_11 rfl ?_
  refine Bod.go dc_425_12 rfl ?_
  refine Bod.ldc2 dc_425_13 cj_425_871 ?_
  refine Bod.stat (r := []) dc_425_16 kr_425_680 (Or.inl rfl) (by rw [np_284]; rfl) (by rw [np_284]; rfl) (by rw [np_284]; exact Nat.le_of_ble_eq_true rfl) (Nat.le_of_ble_eq_true rfl) (in_yesA  (fun h => absurd ((lN_lt (a := n) (b := 1) (by omega) (by decide)).mp (by rw [← nI_l (by omega)]; exact h)) (by omega)) (fun h => absurd ((lN_lt (a := 12) (b := n) (by decide) (by omega)).mp (by rw [← nI_l (n := n) (by omega)]; exact h)) (by omega))) ?_
  show Bod _ _ _ _ [_] _ _ _
  refine Bod.ifF dc_425_19 rfl (k1_eq_F (k_ne 1 0 rfl rfl (by omega) (by omega) (by omega))) ?_
  refine Bod.go dc_425_22 rfl ?_
  refine Bod.get dc_425_23 fr_425_851 (mk_61 _) rfl ?_
  refine Bod.ic 0 (by decide) dc_425_26 ?_
  refine Bod.baldN 0 rfl (by omega) (by omega) dc_425_27 (mk_107 _) (Or.inl rfl) ?_
  refine Bod.stat (r := []) dc_425_28 kr_425_155 (Or.inl rfl) (by rw [np_289]; rfl) (by rw [np_289]; rfl) (by rw [np_289]; exact Nat.le_of_ble_eq_true rfl) (Nat.le_of_ble_eq_true rfl) (rLet_T (x := (sA S 107 0)) (hb 0 (by omega)) hl) ?_
  show Bod _ _ _ _ [_] _ _ _
  refine Bod.ifF dc_425_31 rfl (k1_eq_F (k_ne 1 0 rfl rfl (by omega) (by omega) (by omega))) ?_
  refine Bod.go dc_425_34 rfl ?_
  refine Bod.get dc_425_35 fr_425_851 (mk_61 _) rfl ?_
  refine Bod.ic 0 (by decide) dc_425_38 ?_
  refine Bod.go dc_425_39 rfl ?_
  refine Bod.stat (r := []) dc_425_40 kr_425_162 (Or.inl rfl) (by rw [np_291]; rfl) (by rw [np_291]; rfl) (by rw [np_291]; exact Nat.le_of_ble_eq_true rfl) (Nat.le_of_ble_eq_true rfl) (hW  ) ?_
  show Bod _ _ _ _ [_] _ _ _
  refine Bod.ifT dc_425_43 rfl (by decide) ?_
  refine Bod.ic 0 (by decide) dc_425_48 ?_
  refine Bod.istn dc_425_49 (by rw [ml_425]; exact Nat.le_of_ble_eq_true rfl) ?_
  exact hx
theorem rT_nl {d n k : Nat} {S Sf : cS} {v : Option Value} (hk : k < n) (hn : n ≤ 12) (hb : ∀ i, i < 3000 → fits .byte (.int (sA S 107 i)) = true) (h : c_let (ub (sA S 107 k)) = true) (hx : Bod (d + 1) 425 50 (sm_p1 (sm_p1 (lv_args 0 [.ref 61]) 1 (.int (nI n))) 2 (.int (nI (k + 1)))) [] S v Sf) : Bod (d + 1) 425 50 (sm_p1 (sm_p1 (lv_args 0 [.ref 61]) 1 (.int (nI n))) 2 (.int (nI k))) [] S v Sf := by
  refine Bod.go dc_425_50 rfl ?_
  refine Bod.go dc_425_51 rfl ?_
  refine Bod.icF dc_425_52 rfl (k2_ge_F k n rfl rfl (by omega) (by omega)) ?_
  refine Bod.go dc_425_55 rfl ?_
  refine Bod.get dc_425_56 fr_425_851 (mk_61 _) rfl ?_
  refine Bod.go dc_425_59 rfl ?_
  refine Bod.baldN k rfl (by omega) (by omega) dc_425_60 (mk_107 _) (Or.inl rfl) ?_
  refine Bod.stat (r := []) dc_425_61 kr_425_155 (Or.inl rfl) (by rw [np_289]; rfl) (by rw [np_289]; rfl) (by rw [np_289]; exact Nat.le_of_ble_eq_true rfl) (Nat.le_of_ble_eq_true rfl) (rLet_T (x := (sA S 107 k)) (hb k (by omega)) h) ?_
  show Bod _ _ _ _ [_] _ _ _
  refine Bod.ifT dc_425_64 rfl (k1_ne_T (k_ne 1 0 rfl rfl (by omega) (by omega) (by omega))) ?_
  refine Bod.incN (k + 1) (by rw [kc_1, nI_add]) dc_425_81 (by rw [ml_425]; exact Nat.le_of_ble_eq_true rfl) rfl ?_
  refine Bod.go dc_425_84 rfl ?_
  exact Bod.lv (sm_p1_p1 _ 2 _ _) hx
theorem rT_nd {d n k : Nat} {S Sf : cS} {v : Option Value} (hk : k < n) (hn : n ≤ 12) (hb : ∀ i, i < 3000 → fits .byte (.int (sA S 107 i)) = true) (h0 : c_let (ub (sA S 107 k)) = false) (h : c_dig (ub (sA S 107 k)) = true) (hx : Bod (d + 1) 425 50 (sm_p1 (sm_p1 (lv_args 0 [.ref 61]) 1 (.int (nI n))) 2 (.int (nI (k + 1)))) [] S v Sf) : Bod (d + 1) 425 50 (sm_p1 (sm_p1 (lv_args 0 [.ref 61]) 1 (.int (nI n))) 2 (.int (nI k))) [] S v Sf := by
  refine Bod.go dc_425_50 rfl ?_
  refine Bod.go dc_425_51 rfl ?_
  refine Bod.icF dc_425_52 rfl (k2_ge_F k n rfl rfl (by omega) (by omega)) ?_
  refine Bod.go dc_425_55 rfl ?_
  refine Bod.get dc_425_56 fr_425_851 (mk_61 _) rfl ?_
  refine Bod.go dc_425_59 rfl ?_
  refine Bod.baldN k rfl (by omega) (by omega) dc_425_60 (mk_107 _) (Or.inl rfl) ?_
  refine Bod.stat (r := []) dc_425_61 kr_425_155 (Or.inl rfl) (by rw [np_289]; rfl) (by rw [np_289]; rfl) (by rw [np_289]; exact Nat.le_of_ble_eq_true rfl) (Nat.le_of_ble_eq_true rfl) (rLet_F (x := (sA S 107 k)) (hb k (by omega)) h0) ?_
  show Bod _ _ _ _ [_] _ _ _
  refine Bod.ifF dc_425_64 rfl (k1_ne_F (k_eq 0 0 rfl rfl (by omega))) ?_
  refine Bod.go dc_425_67 rfl ?_
  refine Bod.get dc_425_68 fr_425_851 (mk_61 _) rfl ?_
  refine Bod.go dc_425_71 rfl ?_
  refine Bod.baldN k rfl (by omega) (by omega) dc_425_72 (mk_107 _) (Or.inl rfl) ?_
  refine Bod.stat (r := []) dc_425_73 kr_425_159 (Or.inl rfl) (by rw [np_290]; rfl) (by rw [np_290]; rfl) (by rw [np_290]; exact Nat.le_of_ble_eq_true rfl) (Nat.le_of_ble_eq_true rfl) (rDig_T (x := (sA S 107 k)) (hb k (by omega)) h) ?_
  show Bod _ _ _ _ [_] _ _ _
  refine Bod.ifT dc_425_76 rfl (k1_ne_T (k_ne 1 0 rfl rfl (by omega) (by omega) (by omega))) ?_
  refine Bod.incN (k + 1) (by rw [kc_1, nI_add]) dc_425_81 (by rw [ml_425]; exact Nat.le_of_ble_eq_true rfl) rfl ?_
  refine Bod.go dc_425_84 rfl ?_
  exact Bod.lv (sm_p1_p1 _ 2 _ _) hx
theorem rT_bad {d n k : Nat} {S : cS} (hk : k < n) (hn : n ≤ 12) (hb : ∀ i, i < 3000 → fits .byte (.int (sA S 107 i)) = true) (h0 : c_let (ub (sA S 107 k)) = false) (h : c_dig (ub (sA S 107 k)) = false) : Bod (d + 1) 425 50 (sm_p1 (sm_p1 (lv_args 0 [.ref 61]) 1 (.int (nI n))) 2 (.int (nI k))) [] S (some (.int (Int32.ofInt (-1)))) S := by
  refine Bod.go dc_425_50 rfl ?_
  refine Bod.go dc_425_51 rfl ?_
  refine Bod.icF dc_425_52 rfl (k2_ge_F k n rfl rfl (by omega) (by omega)) ?_
  refine Bod.go dc_425_55 rfl ?_
  refine Bod.get dc_425_56 fr_425_851 (mk_61 _) rfl ?_
  refine Bod.go dc_425_59 rfl ?_
  refine Bod.baldN k rfl (by omega) (by omega) dc_425_60 (mk_107 _) (Or.inl rfl) ?_
  refine Bod.stat (r := []) dc_425_61 kr_425_155 (Or.inl rfl) (by rw [np_289]; rfl) (by rw [np_289]; rfl) (by rw [np_289]; exact Nat.le_of_ble_eq_true rfl) (Nat.le_of_ble_eq_true rfl) (rLet_F (x := (sA S 107 k)) (hb k (by omega)) h0) ?_
  show Bod _ _ _ _ [_] _ _ _
  refine Bod.ifF dc_425_64 rfl (k1_ne_F (k_eq 0 0 rfl rfl (by omega))) ?_
  refine Bod.go dc_425_67 rfl ?_
  refine Bod.get dc_425_68 fr_425_851 (mk_61 _) rfl ?_
  refine Bod.go dc_425_71 rfl ?_
  refine Bod.baldN k rfl (by omega) (by omega) dc_425_72 (mk_107 _) (Or.inl rfl) ?_
  refine Bod.stat (r := []) dc_425_73 kr_425_159 (Or.inl rfl) (by rw [np_290]; rfl) (by rw [np_290]; rfl) (by rw [np_290]; exact Nat.le_of_ble_eq_true rfl) (Nat.le_of_ble_eq_true rfl) (rDig_F (x := (sA S 107 k)) (hb k (by omega)) h) ?_
  show Bod _ _ _ _ [_] _ _ _
  refine Bod.ifF dc_425_76 rfl (k1_ne_F (k_eq 0 0 rfl rfl (by omega))) ?_
  refine Bod.go dc_425_79 rfl ?_
  exact Bod.retI dc_425_80 rt_425
theorem rT_end {d n k : Nat} {x : Int32} {S S2 : cS} (hk : k = n) (hn : n ≤ 12) (hN : Ans d 294 [.ref 61, .ref 107, .int (nI 0), .int (nI n)] S (some (.int x)) S2) : Bod d 425 50 (sm_p1 (sm_p1 (lv_args 0 [.ref 61]) 1 (.int (nI n))) 2 (.int (nI k))) [] S (some (.int x)) S2 := by
  refine Bod.go dc_425_50 rfl ?_
  refine Bod.go dc_425_51 rfl ?_
  refine Bod.icT dc_425_52 rfl (k2_ge_T k n rfl rfl (by omega) (by omega)) ?_
  refine Bod.go dc_425_87 rfl ?_
  refine Bod.go dc_425_88 rfl ?_
  refine Bod.get dc_425_89 fr_425_851 (mk_61 _) rfl ?_
  refine Bod.ic 0 (by decide) dc_425_92 ?_
  refine Bod.go dc_425_93 rfl ?_
  refine Bod.virt (r := []) dc_425_94 kr_425_166 ⟨Or.inl rfl, ow_294, cl_14⟩ (by rw [np_294]; rfl) (by rw [np_294]; rfl) (ob_of (mk_61 _)) (Nat.le_of_ble_eq_true rfl) (hN  ) ?_
  show Bod _ _ _ _ [_] _ _ _
  exact Bod.retI dc_425_97 rt_425
/-- the bytes that are names: letters and digits -/
def r_al (S : cS) (k : Nat) : Prop := c_let (ub (sA S 107 k)) = true ∨ c_dig (ub (sA S 107 k)) = true
theorem rT_loop {d n : Nat} {x : Int32} {S S2 : cS} (hn : n ≤ 12) (hb : ∀ i, i < 3000 → fits .byte (.int (sA S 107 i)) = true) (ha : ∀ k, k < n → r_al S k) (hN : Ans (d + 1) 294 [.ref 61, .ref 107, .int (nI 0), .int (nI n)] S (some (.int x)) S2) : ∀ (r k : Nat), k + r = n → Bod (d + 1) 425 50 (sm_p1 (sm_p1 (lv_args 0 [.ref 61]) 1 (.int (nI n))) 2 (.int (nI k))) [] S (some (.int x)) S2 := by
  intro r
  induction r with
  | zero => intro k hk; exact rT_end (by omega) hn hN
  | succ r ih =>
    intro k hk
    by_cases hl : c_let (ub (sA S 107 k)) = true
    · exact rT_nl (by omega) hn hb hl (ih (k + 1) (by omega))
    · exact rT_nd (by omega) hn hb (by cases h : c_let (ub (sA S 107 k)) with | true => exact absurd h hl | false => rfl) ((ha k (by omega)).resolve_left hl) (ih (k + 1) (by omega))
theorem rT_loopb {d n M : Nat} {S : cS} (hn : n ≤ 12) (hb : ∀ i, i < 3000 → fits .byte (.int (sA S 107 i)) = true) (ha : ∀ k, k < M → r_al S k) (hM : M < n) (hno : ¬ r_al S M) : ∀ (r k : Nat), k + r = M → Bod (d + 1) 425 50 (sm_p1 (sm_p1 (lv_args 0 [.ref 61]) 1 (.int (nI n))) 2 (.int (nI k))) [] S (some (.int (Int32.ofInt (-1)))) S := by
  intro r
  induction r with
  | zero =>
    intro k hk
    obtain rfl : k = M := by omega
    exact rT_bad hM hn hb (by cases h : c_let (ub (sA S 107 k)) with | true => exact absurd (Or.inl h) hno | false => rfl) (by cases h : c_dig (ub (sA S 107 k)) with | true => exact absurd (Or.inr h) hno | false => rfl)
  | succ r ih =>
    intro k hk
    by_cases hl : c_let (ub (sA S 107 k)) = true
    · exact rT_nl (by omega) hn hb hl (ih (k + 1) (by omega))
    · exact rT_nd (by omega) hn hb (by cases h : c_let (ub (sA S 107 k)) with | true => exact absurd h hl | false => rfl) ((ha k (by omega)).resolve_left hl) (ih (k + 1) (by omega))
theorem bind_r {d q gn g3 g4 : Nat} {v : Int64} {S S1 : cS} (hT : Ans d 425 [.ref 61] S (some (.int (nI q))) S1) (hq : q < gn) (hgn : gn < 2 ^ 20) (hv3 : sV S1 6103 = .ref g3) (hv4 : sV S1 6104 = .ref g4) (hg3 : isK S1 g3 0 gn) (hg4 : isK S1 g4 1 gn) : Ans (d + 1) 424 [.ref 61, .long v] S (some (.int (nI 0))) (wL g4 q v (wA g3 q (nI 1) S1)) := by
  refine Ans.of (by rw [ml_424]; exact Nat.le_of_ble_eq_true rfl) ?_
  refine Bod.go dc_424_0 rfl ?_
  refine Bod.virt (r := []) dc_424_1 kr_424_873 ⟨Or.inl rfl, ow_425, cl_14⟩ (by rw [np_425]; rfl) (by rw [np_425]; rfl) (ob_of (mk_61 _)) (Nat.le_of_ble_eq_true rfl) (hT  ) ?_
  show Bod _ _ _ _ [_] _ _ _
  refine Bod.istn dc_424_4 (by rw [ml_424]; exact Nat.le_of_ble_eq_true rfl) ?_
  refine Bod.go dc_424_5 rfl ?_
  refine Bod.ifT dc_424_6 rfl (k1_ge_T q rfl (by omega)) ?_
  refine Bod.go dc_424_11 rfl ?_
  refine Bod.get dc_424_12 fr_424_24 (mk_61 _) rfl ?_
  refine Bod.eqV (.ref g3) (by first | exact hv3 | (simp only [rIV, rJV, rAV, rLV, rQV]; exact hv3)) ?_
  refine Bod.go dc_424_15 rfl ?_
  refine Bod.ic 1 (by decide) dc_424_16 ?_
  refine Bod.iastN (N := gn) q rfl (by omega) (by omega) dc_424_17 (mk_isI (by first | exact hg3 | exact isK_S (by simp only [rIS, rJS, rAS, rLS, rVS, rQS, rS_hold]) hg3)) (sa_isI (by first | exact hg3 | exact isK_S (by simp only [rIS, rJS, rAS, rLS, rVS, rQS, rS_hold]) hg3)) (mu_A _ _ _ _) ?_
  refine Bod.go dc_424_18 rfl ?_
  refine Bod.get dc_424_19 fr_424_27 (mk_61 _) rfl ?_
  refine Bod.eqV (.ref g4) (by first | exact hv4 | (simp only [rIV, rJV, rAV, rLV, rQV]; exact hv4)) ?_
  refine Bod.go dc_424_22 rfl ?_
  refine Bod.go dc_424_23 rfl ?_
  refine Bod.lastN (N := gn) q rfl (by omega) (by omega) dc_424_24 (mk_isL (by first | exact hg4 | exact isK_S (by simp only [rIS, rJS, rAS, rLS, rVS, rQS, rS_hold]) hg4)) (sa_isL (by first | exact hg4 | exact isK_S (by simp only [rIS, rJS, rAS, rLS, rVS, rQS, rS_hold]) hg4)) (mu_L _ _ _ _) ?_
  refine Bod.ic 0 (by decide) dc_424_25 ?_
  exact Bod.retI dc_424_26 rt_424
theorem value_r0 {d q gn g3 g4 : Nat} {S S1 : cS} (hT : Ans d 425 [.ref 61] S (some (.int (nI q))) S1) (hq : q < gn) (hgn : gn < 2 ^ 20) (hv3 : sV S1 6103 = .ref g3) (hv4 : sV S1 6104 = .ref g4) (hg3 : isK S1 g3 0 gn) (hg4 : isK S1 g4 1 gn) (hc : sA S1 g3 q = Int32.ofInt (-1)) : Ans (d + 1) 426 [.ref 61] S (some (.long ((4611686018427387905)))) S1 := by
  refine Ans.of (by rw [ml_426]; exact Nat.le_of_ble_eq_true rfl) ?_
  refine Bod.go dc_426_0 rfl ?_
  refine Bod.virt (r := []) dc_426_1 kr_426_873 ⟨Or.inl rfl, ow_425, cl_14⟩ (by rw [np_425]; rfl) (by rw [np_425]; rfl) (ob_of (mk_61 _)) (Nat.le_of_ble_eq_true rfl) (hT  ) ?_
  show Bod _ _ _ _ [_] _ _ _
  refine Bod.istn dc_426_4 (by rw [ml_426]; exact Nat.le_of_ble_eq_true rfl) ?_
  refine Bod.go dc_426_5 rfl ?_
  refine Bod.ifF dc_426_6 rfl (k1_lt_F q rfl (by omega)) ?_
  refine Bod.go dc_426_9 rfl ?_
  refine Bod.get dc_426_10 fr_426_24 (mk_61 _) rfl ?_
  refine Bod.eqV (.ref g3) (by first | exact hv3 | (simp only [rIV, rJV, rAV, rLV, rQV]; exact hv3)) ?_
  refine Bod.go dc_426_13 rfl ?_
  refine Bod.ialdN (N := gn) q rfl (by omega) (by omega) dc_426_14 (mk_isI (by first | exact hg3 | exact isK_S (by simp only [rIS, rJS, rAS, rLS, rVS, rQS, rS_hold]) hg3)) ?_
  refine Bod.go dc_426_15 rfl ?_
  refine Bod.icF dc_426_16 rfl (k2_ne_F hc) ?_
  refine Bod.ldc2 dc_426_19 cj_426_876 ?_
  exact Bod.retJ dc_426_22 rt_426
theorem value_ri {d q gn g3 g4 : Nat} {S S1 : cS} (hT : Ans d 425 [.ref 61] S (some (.int (nI q))) S1) (hq : q < gn) (hgn : gn < 2 ^ 20) (hv3 : sV S1 6103 = .ref g3) (hv4 : sV S1 6104 = .ref g4) (hg3 : isK S1 g3 0 gn) (hg4 : isK S1 g4 1 gn) (hc : sA S1 g3 q = nI 1) : Ans (d + 1) 426 [.ref 61] S (some (.long (sL S1 g4 q))) S1 := by
  refine Ans.of (by rw [ml_426]; exact Nat.le_of_ble_eq_true rfl) ?_
  refine Bod.go dc_426_0 rfl ?_
  refine Bod.virt (r := []) dc_426_1 kr_426_873 ⟨Or.inl rfl, ow_425, cl_14⟩ (by rw [np_425]; rfl) (by rw [np_425]; rfl) (ob_of (mk_61 _)) (Nat.le_of_ble_eq_true rfl) (hT  ) ?_
  show Bod _ _ _ _ [_] _ _ _
  refine Bod.istn dc_426_4 (by rw [ml_426]; exact Nat.le_of_ble_eq_true rfl) ?_
  refine Bod.go dc_426_5 rfl ?_
  refine Bod.ifF dc_426_6 rfl (k1_lt_F q rfl (by omega)) ?_
  refine Bod.go dc_426_9 rfl ?_
  refine Bod.get dc_426_10 fr_426_24 (mk_61 _) rfl ?_
  refine Bod.eqV (.ref g3) (by first | exact hv3 | (simp only [rIV, rJV, rAV, rLV, rQV]; exact hv3)) ?_
  refine Bod.go dc_426_13 rfl ?_
  refine Bod.ialdN (N := gn) q rfl (by omega) (by omega) dc_426_14 (mk_isI (by first | exact hg3 | exact isK_S (by simp only [rIS, rJS, rAS, rLS, rVS, rQS, rS_hold]) hg3)) ?_
  refine Bod.go dc_426_15 rfl ?_
  refine Bod.icT dc_426_16 rfl (k2_ne_T (by rw [hc]; decide)) ?_
  refine Bod.go dc_426_23 rfl ?_
  refine Bod.get dc_426_24 fr_426_24 (mk_61 _) rfl ?_
  refine Bod.eqV (.ref g3) (by first | exact hv3 | (simp only [rIV, rJV, rAV, rLV, rQV]; exact hv3)) ?_
  refine Bod.go dc_426_27 rfl ?_
  refine Bod.ialdN (N := gn) q rfl (by omega) (by omega) dc_426_28 (mk_isI (by first | exact hg3 | exact isK_S (by simp only [rIS, rJS, rAS, rLS, rVS, rQS, rS_hold]) hg3)) ?_
  refine Bod.ic 1 (by decide) dc_426_29 ?_
  refine Bod.icF dc_426_30 rfl (k2_ne_F hc) ?_
  refine Bod.go dc_426_33 rfl ?_
  refine Bod.get dc_426_34 fr_426_27 (mk_61 _) rfl ?_
  refine Bod.eqV (.ref g4) (by first | exact hv4 | (simp only [rIV, rJV, rAV, rLV, rQV]; exact hv4)) ?_
  refine Bod.go dc_426_37 rfl ?_
  refine Bod.laldN (N := gn) q rfl (by omega) (by omega) dc_426_38 (mk_isL (by first | exact hg4 | exact isK_S (by simp only [rIS, rJS, rAS, rLS, rVS, rQS, rS_hold]) hg4)) ?_
  refine Bod.go dc_426_39 rfl ?_
  exact Bod.retJ dc_426_45 rt_426
theorem value_ro {d q gn g3 g4 : Nat} {S S1 : cS} (hT : Ans d 425 [.ref 61] S (some (.int (nI q))) S1) (hq : q < gn) (hgn : gn < 2 ^ 20) (hv3 : sV S1 6103 = .ref g3) (hv4 : sV S1 6104 = .ref g4) (hg3 : isK S1 g3 0 gn) (hg4 : isK S1 g4 1 gn) (hc0 : sA S1 g3 q ≠ Int32.ofInt (-1)) (hc : sA S1 g3 q ≠ nI 1) : Ans (d + 1) 426 [.ref 61] S (some (.long ((4611686018427387904)))) S1 := by
  refine Ans.of (by rw [ml_426]; exact Nat.le_of_ble_eq_true rfl) ?_
  refine Bod.go dc_426_0 rfl ?_
  refine Bod.virt (r := []) dc_426_1 kr_426_873 ⟨Or.inl rfl, ow_425, cl_14⟩ (by rw [np_425]; rfl) (by rw [np_425]; rfl) (ob_of (mk_61 _)) (Nat.le_of_ble_eq_true rfl) (hT  ) ?_
  show Bod _ _ _ _ [_] _ _ _
  refine Bod.istn dc_426_4 (by rw [ml_426]; exact Nat.le_of_ble_eq_true rfl) ?_
  refine Bod.go dc_426_5 rfl ?_
  refine Bod.ifF dc_426_6 rfl (k1_lt_F q rfl (by omega)) ?_
  refine Bod.go dc_426_9 rfl ?_
  refine Bod.get dc_426_10 fr_426_24 (mk_61 _) rfl ?_
  refine Bod.eqV (.ref g3) (by first | exact hv3 | (simp only [rIV, rJV, rAV, rLV, rQV]; exact hv3)) ?_
  refine Bod.go dc_426_13 rfl ?_
  refine Bod.ialdN (N := gn) q rfl (by omega) (by omega) dc_426_14 (mk_isI (by first | exact hg3 | exact isK_S (by simp only [rIS, rJS, rAS, rLS, rVS, rQS, rS_hold]) hg3)) ?_
  refine Bod.go dc_426_15 rfl ?_
  refine Bod.icT dc_426_16 rfl (k2_ne_T hc0) ?_
  refine Bod.go dc_426_23 rfl ?_
  refine Bod.get dc_426_24 fr_426_24 (mk_61 _) rfl ?_
  refine Bod.eqV (.ref g3) (by first | exact hv3 | (simp only [rIV, rJV, rAV, rLV, rQV]; exact hv3)) ?_
  refine Bod.go dc_426_27 rfl ?_
  refine Bod.ialdN (N := gn) q rfl (by omega) (by omega) dc_426_28 (mk_isI (by first | exact hg3 | exact isK_S (by simp only [rIS, rJS, rAS, rLS, rVS, rQS, rS_hold]) hg3)) ?_
  refine Bod.ic 1 (by decide) dc_426_29 ?_
  refine Bod.icT dc_426_30 rfl (k2_ne_T hc) ?_
  refine Bod.ldc2 dc_426_42 cj_426_878 ?_
  exact Bod.retJ dc_426_45 rt_426
theorem bind_rn {d : Nat} {v : Int64} {S S1 : cS} (hT : Ans d 425 [.ref 61] S (some (.int (Int32.ofInt (-1)))) S1) : Ans (d + 1) 424 [.ref 61, .long v] S (some (.int (Int32.ofInt (-1)))) S1 := by
  refine Ans.of (by rw [ml_424]; exact Nat.le_of_ble_eq_true rfl) ?_
  refine Bod.go dc_424_0 rfl ?_
  refine Bod.virt (r := []) dc_424_1 kr_424_873 ⟨Or.inl rfl, ow_425, cl_14⟩ (by rw [np_425]; rfl) (by rw [np_425]; rfl) (ob_of (mk_61 _)) (Nat.le_of_ble_eq_true rfl) (hT  ) ?_
  show Bod _ _ _ _ [_] _ _ _
  refine Bod.istn dc_424_4 (by rw [ml_424]; exact Nat.le_of_ble_eq_true rfl) ?_
  refine Bod.go dc_424_5 rfl ?_
  refine Bod.ifF dc_424_6 rfl (by decide) ?_
  refine Bod.go dc_424_9 rfl ?_
  exact Bod.retI dc_424_10 rt_424
theorem value_rn {d : Nat} {S S1 : cS} (hT : Ans d 425 [.ref 61] S (some (.int (Int32.ofInt (-1)))) S1) : Ans (d + 1) 426 [.ref 61] S (some (.long ((4611686018427387905)))) S1 := by
  refine Ans.of (by rw [ml_426]; exact Nat.le_of_ble_eq_true rfl) ?_
  refine Bod.go dc_426_0 rfl ?_
  refine Bod.virt (r := []) dc_426_1 kr_426_873 ⟨Or.inl rfl, ow_425, cl_14⟩ (by rw [np_425]; rfl) (by rw [np_425]; rfl) (ob_of (mk_61 _)) (Nat.le_of_ble_eq_true rfl) (hT  ) ?_
  show Bod _ _ _ _ [_] _ _ _
  refine Bod.istn dc_426_4 (by rw [ml_426]; exact Nat.le_of_ble_eq_true rfl) ?_
  refine Bod.go dc_426_5 rfl ?_
  refine Bod.ifT dc_426_6 rfl (by decide) ?_
  refine Bod.ldc2 dc_426_19 cj_426_876 ?_
  exact Bod.retJ dc_426_22 rt_426
