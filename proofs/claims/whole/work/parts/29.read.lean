/-! READING A NAME -/
theorem dc_42_16 : decode (sm_cc 42) 16 = .ok (.aload_n 0, 1) := by decide +kernel
theorem dc_42_17 : decode (sm_cc 42) 17 = .ok (.getfield 23, 3) := by decide +kernel
theorem fr_42_23 : sm_at mt_f (sm_ow 42) 23 = some (23, 3, 3, 0, 593) := by decide +kernel
theorem dc_42_20 : decode (sm_cc 42) 20 = .ok (.aload_n 0, 1) := by decide +kernel
theorem dc_42_21 : decode (sm_cc 42) 21 = .ok (.getfield 19, 3) := by decide +kernel
theorem fr_42_19 : sm_at mt_f (sm_ow 42) 19 = some (19, 3, 2, 0, 592) := by decide +kernel
theorem dc_42_24 : decode (sm_cc 42) 24 = .ok (.if_icmp .ge (76), 3) := by decide +kernel
theorem dc_42_27 : decode (sm_cc 42) 27 = .ok (.iload 5, 2) := by decide +kernel
theorem dc_42_29 : decode (sm_cc 42) 29 = .ok (.invokestatic 63, 3) := by decide +kernel
theorem kr_42_63 : sm_at mt_k (sm_ow 42) 63 = some (63, 3, 41, 1, 981) := by decide +kernel
theorem np_41 : sm_np 41 = 1 := by decide +kernel
theorem dc_42_32 : decode (sm_cc 42) 32 = .ok (.ifCond .ne (11), 3) := by decide +kernel
theorem dc_42_43 : decode (sm_cc 42) 43 = .ok (.aload_n 0, 1) := by decide +kernel
theorem dc_42_44 : decode (sm_cc 42) 44 = .ok (.getfield 23, 3) := by decide +kernel
theorem dc_42_47 : decode (sm_cc 42) 47 = .ok (.aload_n 0, 1) := by decide +kernel
theorem dc_42_48 : decode (sm_cc 42) 48 = .ok (.getfield 60, 3) := by decide +kernel
theorem fr_42_60 : sm_at mt_f (sm_ow 42) 60 = some (60, 3, 4, 0, 595) := by decide +kernel
theorem dc_42_51 : decode (sm_cc 42) 51 = .ok (.isub, 1) := by decide +kernel
theorem dc_42_52 : decode (sm_cc 42) 52 = .ok (.bipush (12), 2) := by decide +kernel
theorem dc_42_54 : decode (sm_cc 42) 54 = .ok (.if_icmp .lt (8), 3) := by decide +kernel
theorem dc_42_62 : decode (sm_cc 42) 62 = .ok (.lload_n 1, 1) := by decide +kernel
theorem dc_42_63 : decode (sm_cc 42) 63 = .ok (.lload_n 3, 1) := by decide +kernel
theorem dc_42_64 : decode (sm_cc 42) 64 = .ok (.iload 5, 2) := by decide +kernel
theorem dc_42_66 : decode (sm_cc 42) 66 = .ok (.invokestatic 85, 3) := by decide +kernel
theorem kr_42_85 : sm_at mt_k (sm_ow 42) 85 = some (85, 3, 16, 1, 996) := by decide +kernel
theorem np_16 : sm_np 16 = 3 := by decide +kernel
theorem dc_42_69 : decode (sm_cc 42) 69 = .ok (.lstore_n 3, 1) := by decide +kernel
theorem ml_42 : sm_ml 42 = 6 := by decide +kernel
theorem dc_42_70 : decode (sm_cc 42) 70 = .ok (.lload_n 1, 1) := by decide +kernel
theorem dc_42_71 : decode (sm_cc 42) 71 = .ok (.iload 5, 2) := by decide +kernel
theorem dc_42_73 : decode (sm_cc 42) 73 = .ok (.invokestatic 89, 3) := by decide +kernel
theorem kr_42_89 : sm_at mt_k (sm_ow 42) 89 = some (89, 3, 17, 1, 997) := by decide +kernel
theorem np_17 : sm_np 17 = 2 := by decide +kernel
theorem dc_42_76 : decode (sm_cc 42) 76 = .ok (.lstore_n 1, 1) := by decide +kernel
theorem dc_42_77 : decode (sm_cc 42) 77 = .ok (.aload_n 0, 1) := by decide +kernel
theorem dc_42_78 : decode (sm_cc 42) 78 = .ok (.dup, 1) := by decide +kernel
theorem dc_42_79 : decode (sm_cc 42) 79 = .ok (.getfield 23, 3) := by decide +kernel
theorem dc_42_82 : decode (sm_cc 42) 82 = .ok (.iconst 1, 1) := by decide +kernel
theorem dc_42_83 : decode (sm_cc 42) 83 = .ok (.iadd, 1) := by decide +kernel
theorem dc_42_84 : decode (sm_cc 42) 84 = .ok (.putfield 23, 3) := by decide +kernel
theorem dc_42_87 : decode (sm_cc 42) 87 = .ok (.aload_n 0, 1) := by decide +kernel
theorem dc_42_88 : decode (sm_cc 42) 88 = .ok (.aload_n 0, 1) := by decide +kernel
theorem dc_42_89 : decode (sm_cc 42) 89 = .ok (.getfield 23, 3) := by decide +kernel
theorem dc_42_92 : decode (sm_cc 42) 92 = .ok (.invokevirtual 50, 3) := by decide +kernel
theorem kr_42_50 : sm_at mt_k (sm_ow 42) 50 = some (50, 0, 38, 0, 969) := by decide +kernel
theorem dc_42_95 : decode (sm_cc 42) 95 = .ok (.istore 5, 2) := by decide +kernel
theorem dc_42_97 : decode (sm_cc 42) 97 = .ok (.goto (-81), 3) := by decide +kernel
theorem dc_42_35 : decode (sm_cc 42) 35 = .ok (.iload 5, 2) := by decide +kernel
theorem dc_42_37 : decode (sm_cc 42) 37 = .ok (.invokestatic 70, 3) := by decide +kernel
theorem kr_42_70 : sm_at mt_k (sm_ow 42) 70 = some (70, 3, 43, 1, 989) := by decide +kernel
theorem np_43 : sm_np 43 = 1 := by decide +kernel
theorem dc_42_40 : decode (sm_cc 42) 40 = .ok (.ifCond .eq (60), 3) := by decide +kernel
theorem dc_42_0 : decode (sm_cc 42) 0 = .ok (.ldc2_w 83, 3) := by decide +kernel
theorem cj_42_83 : sm_at mt_cj (sm_ow 42) 83 = some (83, (3458764513820540928), 988) := by decide +kernel
theorem dc_42_3 : decode (sm_cc 42) 3 = .ok (.lstore_n 1, 1) := by decide +kernel
theorem dc_42_4 : decode (sm_cc 42) 4 = .ok (.lconst 0, 1) := by decide +kernel
theorem dc_42_5 : decode (sm_cc 42) 5 = .ok (.lstore_n 3, 1) := by decide +kernel
theorem dc_42_6 : decode (sm_cc 42) 6 = .ok (.aload_n 0, 1) := by decide +kernel
theorem dc_42_7 : decode (sm_cc 42) 7 = .ok (.aload_n 0, 1) := by decide +kernel
theorem dc_42_8 : decode (sm_cc 42) 8 = .ok (.getfield 23, 3) := by decide +kernel
theorem dc_42_11 : decode (sm_cc 42) 11 = .ok (.invokevirtual 50, 3) := by decide +kernel
theorem dc_42_14 : decode (sm_cc 42) 14 = .ok (.istore 5, 2) := by decide +kernel
theorem dc_42_100 : decode (sm_cc 42) 100 = .ok (.aload_n 0, 1) := by decide +kernel
theorem dc_42_101 : decode (sm_cc 42) 101 = .ok (.aload_n 0, 1) := by decide +kernel
theorem dc_42_102 : decode (sm_cc 42) 102 = .ok (.getfield 15, 3) := by decide +kernel
theorem fr_42_15 : sm_at mt_f (sm_ow 42) 15 = some (15, 3, 1, 0, 591) := by decide +kernel
theorem dc_42_105 : decode (sm_cc 42) 105 = .ok (.lload_n 1, 1) := by decide +kernel
theorem dc_42_106 : decode (sm_cc 42) 106 = .ok (.lload_n 3, 1) := by decide +kernel
theorem dc_42_107 : decode (sm_cc 42) 107 = .ok (.invokevirtual 93, 3) := by decide +kernel
theorem ow_15 : 5 = sm_ow 15 := by decide +kernel
theorem kr_42_93 : sm_at mt_k (sm_ow 42) 93 = some (93, 1, 15, 1, 998) := by decide +kernel
theorem np_15 : sm_np 15 = 2 := by decide +kernel
theorem dc_42_110 : decode (sm_cc 42) 110 = .ok (.putfield 99, 3) := by decide +kernel
theorem fr_42_99 : sm_at mt_f (sm_ow 42) 99 = some (99, 3, 9, 0, 605) := by decide +kernel
theorem dc_42_113 : decode (sm_cc 42) 113 = .ok (.aload_n 0, 1) := by decide +kernel
theorem dc_42_114 : decode (sm_cc 42) 114 = .ok (.aload_n 0, 1) := by decide +kernel
theorem dc_42_115 : decode (sm_cc 42) 115 = .ok (.getfield 99, 3) := by decide +kernel
theorem dc_42_118 : decode (sm_cc 42) 118 = .ok (.ifCond .lt (22), 3) := by decide +kernel
theorem dc_42_121 : decode (sm_cc 42) 121 = .ok (.aload_n 0, 1) := by decide +kernel
theorem dc_42_122 : decode (sm_cc 42) 122 = .ok (.getfield 99, 3) := by decide +kernel
theorem dc_42_125 : decode (sm_cc 42) 125 = .ok (.bipush (24), 2) := by decide +kernel
theorem dc_42_127 : decode (sm_cc 42) 127 = .ok (.if_icmp .ge (13), 3) := by decide +kernel
theorem dc_42_130 : decode (sm_cc 42) 130 = .ok (.bipush (40), 2) := by decide +kernel
theorem dc_42_132 : decode (sm_cc 42) 132 = .ok (.aload_n 0, 1) := by decide +kernel
theorem dc_42_133 : decode (sm_cc 42) 133 = .ok (.getfield 99, 3) := by decide +kernel
theorem dc_42_136 : decode (sm_cc 42) 136 = .ok (.iadd, 1) := by decide +kernel
theorem dc_42_137 : decode (sm_cc 42) 137 = .ok (.goto (4), 3) := by decide +kernel
theorem dc_42_141 : decode (sm_cc 42) 141 = .ok (.putfield 38, 3) := by decide +kernel
theorem fr_42_38 : sm_at mt_f (sm_ow 42) 38 = some (38, 3, 5, 0, 597) := by decide +kernel
theorem dc_42_144 : decode (sm_cc 42) 144 = .ok (.aload_n 0, 1) := by decide +kernel
theorem dc_42_145 : decode (sm_cc 42) 145 = .ok (.getfield 99, 3) := by decide +kernel
theorem dc_42_148 : decode (sm_cc 42) 148 = .ok (.ifCond .ge (7), 3) := by decide +kernel
theorem dc_42_155 : decode (sm_cc 42) 155 = .ok (.return_, 1) := by decide +kernel
theorem rt_42 : sm_rt 42 = none := by decide +kernel
theorem dc_42_140 : decode (sm_cc 42) 140 = .ok (.iconst 3, 1) := by decide +kernel
theorem c_len_lN {x : Nat} (hx : x < 2 ^ 64) : c_len (lN x) = x / 2 ^ 56 % 2 ^ 4 := by
  unfold c_len
  rw [wb_shr hx (by decide), lN_i, pk_andN (by omega) 4 (by decide), nI_clamp (by omega)]
theorem c_appHi_lN {x b : Nat} (hx : x < 2 ^ 64) (hn : x / 2 ^ 56 % 2 ^ 4 ≤ 14) (hb : b < 256) : ∃ y, y < 2 ^ 64 ∧ c_appHi (lN x) (nI b) = lN y ∧ y / 2 ^ 56 = x / 2 ^ 56 + 1 := by
  have h1 : lN x + 72057594037927936 = lN (x + 2 ^ 56) := by
    rw [show (72057594037927936 : Int64) = lN (2 ^ 56) from rfl, lN_add]
  have h3 : x + 2 ^ 56 < 2 ^ 64 := by omega
  have h4 : (x + 2 ^ 56) / 2 ^ 56 = x / 2 ^ 56 + 1 := by omega
  unfold c_appHi
  rw [c_len_lN hx]
  split
  · rename_i h7
    have hk : 48 - 8 * (x / 2 ^ 56 % 2 ^ 4) < 64 := by omega
    have h5 : b * 2 ^ (48 - 8 * (x / 2 ^ 56 % 2 ^ 4)) < 2 ^ 56 := by
      have h6 : 2 ^ (48 - 8 * (x / 2 ^ 56 % 2 ^ 4)) ≤ 2 ^ 48 := Nat.pow_le_pow_right (by decide) (by omega)
      calc b * 2 ^ (48 - 8 * (x / 2 ^ 56 % 2 ^ 4)) ≤ b * 2 ^ 48 := Nat.mul_le_mul_left _ h6
        _ < 256 * 2 ^ 48 := Nat.mul_lt_mul_of_pos_right hb (by decide)
        _ = 2 ^ 56 := by decide
    have h6 : 2 ^ 56 < 2 ^ 64 := by decide
    refine ⟨(x + 2 ^ 56) ||| (b * 2 ^ (48 - 8 * (x / 2 ^ 56 % 2 ^ 4))), Nat.or_lt_two_pow h3 (by omega), ?_, ?_⟩
    · rw [h1, nI_l (by omega), wb_shl b hk, wb_or h3 (by omega)]
    · generalize b * 2 ^ (48 - 8 * (x / 2 ^ 56 % 2 ^ 4)) = z at h5 ⊢
      rw [← h4, ← Nat.shiftRight_eq_div_pow, ← Nat.shiftRight_eq_div_pow, Nat.shiftRight_or_distrib, Nat.shiftRight_eq_div_pow z, Nat.div_eq_of_lt h5, Nat.or_zero]
  · exact ⟨x + 2 ^ 56, h3, h1, h4⟩
/-- the name that m bytes from p on are -/
def c_nmH (S : cS) (p : Nat) : Nat → Int64
  | 0 => 3458764513820540928
  | m + 1 => c_appHi (c_nmH S p m) (nI (c_byte S (p + m)))
def c_nmL (S : cS) (p : Nat) : Nat → Int64
  | 0 => 0
  | m + 1 => c_appLo (c_nmH S p m) (c_nmL S p m) (nI (c_byte S (p + m)))
theorem c_nmH_lN (S : cS) (p : Nat) : ∀ m, m ≤ 15 → ∃ x, x < 2 ^ 64 ∧ c_nmH S p m = lN x ∧ x / 2 ^ 56 = 48 + m := by
  intro m
  induction m with
  | zero => intro _; exact ⟨48 * 2 ^ 56, by decide, rfl, by decide⟩
  | succ m ih =>
    intro hm
    obtain ⟨x, hx, e, hd⟩ := ih (by omega)
    obtain ⟨y, hy, e2, hd2⟩ := c_appHi_lN (x := x) (b := c_byte S (p + m)) hx (by omega) (c_byte_eq S (p + m)).2
    refine ⟨y, hy, ?_, by omega⟩
    show c_appHi (c_nmH S p m) _ = _
    rw [e]
    exact e2
theorem c_nmH_len (S : cS) (p m : Nat) (hm : m ≤ 15) : c_len (c_nmH S p m) = m := by
  obtain ⟨x, hx, e, hd⟩ := c_nmH_lN S p m hm
  rw [e, c_len_lN hx, hd]
  omega
theorem c_nmH_I (k : Nat) (x : Int32) (S : cS) (p : Nat) : ∀ m, c_nmH (wI k x S) p m = c_nmH S p m := by
  intro m
  induction m with
  | zero => rfl
  | succ m ih =>
    unfold c_nmH
    rw [ih, c_byte_I]
theorem c_nmL_I (k : Nat) (x : Int32) (S : cS) (p : Nat) : ∀ m, c_nmL (wI k x S) p m = c_nmL S p m := by
  intro m
  induction m with
  | zero => rfl
  | succ m ih =>
    unfold c_nmL
    rw [ih, c_nmH_I, c_byte_I]
/-- what byteAt answers, in the tape or at its end -/
def c_b (S : cS) (n i : Nat) : Int32 := if i < n then nI (c_byte S i) else Int32.ofInt (-1)
theorem byteAt_b {d : Nat} {S : cS} {n i : Nat} (hn : sI S 3102 = nI n) (hi : i ≤ n) (hM : n ≤ 3000) : Ans (d + 1) 38 [.ref 31, .int (nI i)] S (some (.int (c_b S n i))) S := by
  unfold c_b
  split
  · rename_i h
    exact byteAt_ev hn h hM
  · rename_i h
    exact byteAt_F hn (by omega) (by omega)
/-- a letter or digit is at i -/
def c_al (S : cS) (n i : Nat) : Prop := i < n ∧ (c_let (c_byte S i) = true ∨ c_dig (c_byte S i) = true)
theorem readName_first {d n p m : Nat} {S : cS} {hi lo : Int64} {v : Option Value} {Sf : cS} (hM : n ≤ 3000) (hn : sI S 3102 = nI n) (hs : sI S 3104 = nI p) (hp : sI S 3103 = nI (p + m)) (hm : m < 12) (hal : c_al S n (p + m)) (hlen : c_len hi ≤ 14) (hB : Bod (d + 2) 42 16 [(5, .int (c_b (wI 3103 (nI (p + m + 1)) S) n (p + m + 1))), (1, .long (c_appHi hi (nI (c_byte S (p + m))))), (3, .long (c_appLo hi lo (nI (c_byte S (p + m))))), (0, .ref 31)] [] (wI 3103 (nI (p + m + 1)) S) v Sf) : Bod (d + 2) 42 16 [(5, .int (c_b S n (p + m))), (3, .long lo), (1, .long hi), (0, .ref 31)] [] S v Sf := by
  obtain ⟨hin, hLD⟩ := hal
  obtain ⟨b, hb⟩ : ∃ b, c_byte S (p + m) = b := ⟨_, rfl⟩
  have hb2 : b < 256 := by rw [← hb]; exact (c_byte_eq S (p + m)).2
  rw [hb] at hLD hB
  have hb5 : c_b S n (p + m) = nI b := by
    unfold c_b
    rw [if_pos hin, hb]
  cases hL : c_let b with
  | true =>
      refine Bod.go dc_42_16 rfl ?_
      refine Bod.get dc_42_17 fr_42_23 (mk_31 _) rfl ?_
      refine Bod.eqI (nI (p + m)) (by first | assumption | rfl | exact congrArg nI (by omega) | (simp (disch := omega) only [rI, rIe, rA, rIA, rLA, rJA, rVI, rQI, rVA, rQA, upd_at,  rAI, rLI, rJI, nI_add, pk_sub, kc_0, kc_1, kc_2, kc_3, kc_4, kc_5, reduceIte, Nat.reduceEqDiff, Nat.add_zero, rI_hold, rI_hold, rL_hold, hn, hs, hp]; done)) ?_
      refine Bod.go dc_42_20 rfl ?_
      refine Bod.get dc_42_21 fr_42_19 (mk_31 _) rfl ?_
      refine Bod.eqI (nI n) (by first | assumption | rfl | exact congrArg nI (by omega) | (simp (disch := omega) only [rI, rIe, rA, rIA, rLA, rJA, rVI, rQI, rVA, rQA, upd_at,  rAI, rLI, rJI, nI_add, pk_sub, kc_0, kc_1, kc_2, kc_3, kc_4, kc_5, reduceIte, Nat.reduceEqDiff, Nat.add_zero, rI_hold, rI_hold, rL_hold, hn, hs, hp]; done)) ?_
      refine Bod.icF dc_42_24 rfl (k2_ge_F (p + m) n rfl rfl (by omega) (by omega)) ?_
      refine Bod.go dc_42_27 rfl ?_
      refine Bod.eqI (nI b) hb5 ?_
      refine Bod.stat (r := []) dc_42_29 kr_42_63 (Or.inr rfl) (by rw [np_41]; rfl) (by rw [np_41]; rfl) (by rw [np_41]; exact Nat.le_of_ble_eq_true rfl) (Nat.le_of_ble_eq_true rfl) (isLetter_T (b := b) hL) ?_
      show Bod _ _ _ _ [_] _ _ _
      refine Bod.ifT dc_42_32 rfl (k1_ne_T (k_ne 1 0 rfl rfl (by omega) (by omega) (by omega))) ?_
      refine Bod.go dc_42_43 rfl ?_
      refine Bod.get dc_42_44 fr_42_23 (mk_31 _) rfl ?_
      refine Bod.eqI (nI (p + m)) (by first | assumption | rfl | exact congrArg nI (by omega) | (simp (disch := omega) only [rI, rIe, rA, rIA, rLA, rJA, rVI, rQI, rVA, rQA, upd_at,  rAI, rLI, rJI, nI_add, pk_sub, kc_0, kc_1, kc_2, kc_3, kc_4, kc_5, reduceIte, Nat.reduceEqDiff, Nat.add_zero, rI_hold, rI_hold, rL_hold, hn, hs, hp]; done)) ?_
      refine Bod.go dc_42_47 rfl ?_
      refine Bod.get dc_42_48 fr_42_60 (mk_31 _) rfl ?_
      refine Bod.eqI (nI p) (by first | assumption | rfl | exact congrArg nI (by omega) | (simp (disch := omega) only [rI, rIe, rA, rIA, rLA, rJA, rVI, rQI, rVA, rQA, upd_at,  rAI, rLI, rJI, nI_add, pk_sub, kc_0, kc_1, kc_2, kc_3, kc_4, kc_5, reduceIte, Nat.reduceEqDiff, Nat.add_zero, rI_hold, rI_hold, rL_hold, hn, hs, hp]; done)) ?_
      refine Bod.subN m (by omega) (by omega) dc_42_51 ?_
      refine Bod.bip 12 (by decide) dc_42_52 ?_
      refine Bod.icT dc_42_54 rfl (k2_lt_T m 12 rfl rfl (by omega) (by omega)) ?_
      refine Bod.go dc_42_62 rfl ?_
      refine Bod.go dc_42_63 rfl ?_
      refine Bod.go dc_42_64 rfl ?_
      refine Bod.eqI (nI b) hb5 ?_
      refine Bod.stat (r := []) dc_42_66 kr_42_85 (Or.inr rfl) (by rw [np_16]; rfl) (by rw [np_16]; rfl) (by rw [np_16]; exact Nat.le_of_ble_eq_true rfl) (Nat.le_of_ble_eq_true rfl) (appLo_ev (hi := hi) (lo := lo) (b := nI b) hlen) ?_
      show Bod _ _ _ _ [_] _ _ _
      refine Bod.lstn dc_42_69 (by rw [ml_42]; exact Nat.le_of_ble_eq_true rfl) ?_
      refine Bod.go dc_42_70 rfl ?_
      refine Bod.go dc_42_71 rfl ?_
      refine Bod.eqI (nI b) hb5 ?_
      refine Bod.stat (r := []) dc_42_73 kr_42_89 (Or.inr rfl) (by rw [np_17]; rfl) (by rw [np_17]; rfl) (by rw [np_17]; exact Nat.le_of_ble_eq_true rfl) (Nat.le_of_ble_eq_true rfl) (appHi_ev (hi := hi) (b := nI b) hlen) ?_
      show Bod _ _ _ _ [_] _ _ _
      refine Bod.lstn dc_42_76 (by rw [ml_42]; exact Nat.le_of_ble_eq_true rfl) ?_
      refine Bod.go dc_42_77 rfl ?_
      refine Bod.go dc_42_78 rfl ?_
      refine Bod.get dc_42_79 fr_42_23 (mk_31 _) rfl ?_
      refine Bod.eqI (nI (p + m)) (by first | assumption | rfl | exact congrArg nI (by omega) | (simp (disch := omega) only [rI, rIe, rA, rIA, rLA, rJA, rVI, rQI, rVA, rQA, upd_at,  rAI, rLI, rJI, nI_add, pk_sub, kc_0, kc_1, kc_2, kc_3, kc_4, kc_5, reduceIte, Nat.reduceEqDiff, Nat.add_zero, rI_hold, rI_hold, rL_hold, hn, hs, hp]; done)) ?_
      refine Bod.ic 1 (by decide) dc_42_82 ?_
      refine Bod.addN (p + m + 1) (by omega) dc_42_83 ?_
      refine Bod.put dc_42_84 fr_42_23 (mk_31 _) (Nat.le_of_ble_eq_true rfl) pf_3_3 (st_3103 _ _) (mu_I _ _ _) ?_
      refine Bod.go dc_42_87 rfl ?_
      refine Bod.go dc_42_88 rfl ?_
      refine Bod.get dc_42_89 fr_42_23 (mk_31 _) rfl ?_
      refine Bod.eqI (nI (p + m + 1)) (by first | (simp (disch := omega) only [rI, rIe, rA, rIA, rLA, rJA, rVI, rQI, rVA, rQA, upd_at,  rAI, rLI, rJI, nI_add, pk_sub, kc_0, kc_1, kc_2, kc_3, kc_4, kc_5, reduceIte, Nat.reduceEqDiff, Nat.add_zero, rI_hold, rI_hold, rL_hold, hn, hs, hp]; done) | (simp (disch := omega) only [rI, rIe, rA, rIA, rLA, rJA, rVI, rQI, rVA, rQA, upd_at,  rAI, rLI, rJI, nI_add, pk_sub, kc_0, kc_1, kc_2, kc_3, kc_4, kc_5, reduceIte, Nat.reduceEqDiff, Nat.add_zero, rI_hold, rI_hold, rL_hold, hn, hs, hp]; exact congrArg nI (by omega))) ?_
      refine Bod.virt (r := []) dc_42_92 kr_42_50 ⟨Or.inl rfl, ow_38, cl_3⟩ (by rw [np_38]; rfl) (by rw [np_38]; rfl) (ob_of (mk_31 _)) (Nat.le_of_ble_eq_true rfl) (byteAt_b (n := n) (i := p + m + 1) (S := wI 3103 (nI (p + m + 1)) S) (by first | (simp (disch := omega) only [rI, rIe, rA, rIA, rLA, rJA, rVI, rQI, rVA, rQA, upd_at,  rAI, rLI, rJI, nI_add, pk_sub, kc_0, kc_1, kc_2, kc_3, kc_4, kc_5, reduceIte, Nat.reduceEqDiff, Nat.add_zero, rI_hold, rI_hold, rL_hold, hn, hs, hp]; done) | (simp (disch := omega) only [rI, rIe, rA, rIA, rLA, rJA, rVI, rQI, rVA, rQA, upd_at,  rAI, rLI, rJI, nI_add, pk_sub, kc_0, kc_1, kc_2, kc_3, kc_4, kc_5, reduceIte, Nat.reduceEqDiff, Nat.add_zero, rI_hold, rI_hold, rL_hold, hn, hs, hp]; exact congrArg nI (by omega))) (by omega) (by omega)) ?_
      show Bod _ _ _ _ [_] _ _ _
      refine Bod.ist dc_42_95 (by rw [ml_42]; exact Nat.le_of_ble_eq_true rfl) ?_
      refine Bod.go dc_42_97 rfl ?_
      exact hB
  | false =>
      have hD : c_dig b = true := hLD.resolve_left (by rw [hL]; decide)
      refine Bod.go dc_42_16 rfl ?_
      refine Bod.get dc_42_17 fr_42_23 (mk_31 _) rfl ?_
      refine Bod.eqI (nI (p + m)) (by first | assumption | rfl | exact congrArg nI (by omega) | (simp (disch := omega) only [rI, rIe, rA, rIA, rLA, rJA, rVI, rQI, rVA, rQA, upd_at,  rAI, rLI, rJI, nI_add, pk_sub, kc_0, kc_1, kc_2, kc_3, kc_4, kc_5, reduceIte, Nat.reduceEqDiff, Nat.add_zero, rI_hold, rI_hold, rL_hold, hn, hs, hp]; done)) ?_
      refine Bod.go dc_42_20 rfl ?_
      refine Bod.get dc_42_21 fr_42_19 (mk_31 _) rfl ?_
      refine Bod.eqI (nI n) (by first | assumption | rfl | exact congrArg nI (by omega) | (simp (disch := omega) only [rI, rIe, rA, rIA, rLA, rJA, rVI, rQI, rVA, rQA, upd_at,  rAI, rLI, rJI, nI_add, pk_sub, kc_0, kc_1, kc_2, kc_3, kc_4, kc_5, reduceIte, Nat.reduceEqDiff, Nat.add_zero, rI_hold, rI_hold, rL_hold, hn, hs, hp]; done)) ?_
      refine Bod.icF dc_42_24 rfl (k2_ge_F (p + m) n rfl rfl (by omega) (by omega)) ?_
      refine Bod.go dc_42_27 rfl ?_
      refine Bod.eqI (nI b) hb5 ?_
      refine Bod.stat (r := []) dc_42_29 kr_42_63 (Or.inr rfl) (by rw [np_41]; rfl) (by rw [np_41]; rfl) (by rw [np_41]; exact Nat.le_of_ble_eq_true rfl) (Nat.le_of_ble_eq_true rfl) (isLetter_F (b := b) (by omega) hL) ?_
      show Bod _ _ _ _ [_] _ _ _
      refine Bod.ifF dc_42_32 rfl (k1_ne_F (k_eq 0 0 rfl rfl (by omega))) ?_
      refine Bod.go dc_42_35 rfl ?_
      refine Bod.eqI (nI b) hb5 ?_
      refine Bod.stat (r := []) dc_42_37 kr_42_70 (Or.inr rfl) (by rw [np_43]; rfl) (by rw [np_43]; rfl) (by rw [np_43]; exact Nat.le_of_ble_eq_true rfl) (Nat.le_of_ble_eq_true rfl) (isDigit_T (b := b) hD) ?_
      show Bod _ _ _ _ [_] _ _ _
      refine Bod.ifF dc_42_40 rfl (k1_eq_F (k_ne 1 0 rfl rfl (by omega) (by omega) (by omega))) ?_
      refine Bod.go dc_42_43 rfl ?_
      refine Bod.get dc_42_44 fr_42_23 (mk_31 _) rfl ?_
      refine Bod.eqI (nI (p + m)) (by first | assumption | rfl | exact congrArg nI (by omega) | (simp (disch := omega) only [rI, rIe, rA, rIA, rLA, rJA, rVI, rQI, rVA, rQA, upd_at,  rAI, rLI, rJI, nI_add, pk_sub, kc_0, kc_1, kc_2, kc_3, kc_4, kc_5, reduceIte, Nat.reduceEqDiff, Nat.add_zero, rI_hold, rI_hold, rL_hold, hn, hs, hp]; done)) ?_
      refine Bod.go dc_42_47 rfl ?_
      refine Bod.get dc_42_48 fr_42_60 (mk_31 _) rfl ?_
      refine Bod.eqI (nI p) (by first | assumption | rfl | exact congrArg nI (by omega) | (simp (disch := omega) only [rI, rIe, rA, rIA, rLA, rJA, rVI, rQI, rVA, rQA, upd_at,  rAI, rLI, rJI, nI_add, pk_sub, kc_0, kc_1, kc_2, kc_3, kc_4, kc_5, reduceIte, Nat.reduceEqDiff, Nat.add_zero, rI_hold, rI_hold, rL_hold, hn, hs, hp]; done)) ?_
      refine Bod.subN m (by omega) (by omega) dc_42_51 ?_
      refine Bod.bip 12 (by decide) dc_42_52 ?_
      refine Bod.icT dc_42_54 rfl (k2_lt_T m 12 rfl rfl (by omega) (by omega)) ?_
      refine Bod.go dc_42_62 rfl ?_
      refine Bod.go dc_42_63 rfl ?_
      refine Bod.go dc_42_64 rfl ?_
      refine Bod.eqI (nI b) hb5 ?_
      refine Bod.stat (r := []) dc_42_66 kr_42_85 (Or.inr rfl) (by rw [np_16]; rfl) (by rw [np_16]; rfl) (by rw [np_16]; exact Nat.le_of_ble_eq_true rfl) (Nat.le_of_ble_eq_true rfl) (appLo_ev (hi := hi) (lo := lo) (b := nI b) hlen) ?_
      show Bod _ _ _ _ [_] _ _ _
      refine Bod.lstn dc_42_69 (by rw [ml_42]; exact Nat.le_of_ble_eq_true rfl) ?_
      refine Bod.go dc_42_70 rfl ?_
      refine Bod.go dc_42_71 rfl ?_
      refine Bod.eqI (nI b) hb5 ?_
      refine Bod.stat (r := []) dc_42_73 kr_42_89 (Or.inr rfl) (by rw [np_17]; rfl) (by rw [np_17]; rfl) (by rw [np_17]; exact Nat.le_of_ble_eq_true rfl) (Nat.le_of_ble_eq_true rfl) (appHi_ev (hi := hi) (b := nI b) hlen) ?_
      show Bod _ _ _ _ [_] _ _ _
      refine Bod.lstn dc_42_76 (by rw [ml_42]; exact Nat.le_of_ble_eq_true rfl) ?_
      refine Bod.go dc_42_77 rfl ?_
      refine Bod.go dc_42_78 rfl ?_
      refine Bod.get dc_42_79 fr_42_23 (mk_31 _) rfl ?_
      refine Bod.eqI (nI (p + m)) (by first | assumption | rfl | exact congrArg nI (by omega) | (simp (disch := omega) only [rI, rIe, rA, rIA, rLA, rJA, rVI, rQI, rVA, rQA, upd_at,  rAI, rLI, rJI, nI_add, pk_sub, kc_0, kc_1, kc_2, kc_3, kc_4, kc_5, reduceIte, Nat.reduceEqDiff, Nat.add_zero, rI_hold, rI_hold, rL_hold, hn, hs, hp]; done)) ?_
      refine Bod.ic 1 (by decide) dc_42_82 ?_
      refine Bod.addN (p + m + 1) (by omega) dc_42_83 ?_
      refine Bod.put dc_42_84 fr_42_23 (mk_31 _) (Nat.le_of_ble_eq_true rfl) pf_3_3 (st_3103 _ _) (mu_I _ _ _) ?_
      refine Bod.go dc_42_87 rfl ?_
      refine Bod.go dc_42_88 rfl ?_
      refine Bod.get dc_42_89 fr_42_23 (mk_31 _) rfl ?_
      refine Bod.eqI (nI (p + m + 1)) (by first | (simp (disch := omega) only [rI, rIe, rA, rIA, rLA, rJA, rVI, rQI, rVA, rQA, upd_at,  rAI, rLI, rJI, nI_add, pk_sub, kc_0, kc_1, kc_2, kc_3, kc_4, kc_5, reduceIte, Nat.reduceEqDiff, Nat.add_zero, rI_hold, rI_hold, rL_hold, hn, hs, hp]; done) | (simp (disch := omega) only [rI, rIe, rA, rIA, rLA, rJA, rVI, rQI, rVA, rQA, upd_at,  rAI, rLI, rJI, nI_add, pk_sub, kc_0, kc_1, kc_2, kc_3, kc_4, kc_5, reduceIte, Nat.reduceEqDiff, Nat.add_zero, rI_hold, rI_hold, rL_hold, hn, hs, hp]; exact congrArg nI (by omega))) ?_
      refine Bod.virt (r := []) dc_42_92 kr_42_50 ⟨Or.inl rfl, ow_38, cl_3⟩ (by rw [np_38]; rfl) (by rw [np_38]; rfl) (ob_of (mk_31 _)) (Nat.le_of_ble_eq_true rfl) (byteAt_b (n := n) (i := p + m + 1) (S := wI 3103 (nI (p + m + 1)) S) (by first | (simp (disch := omega) only [rI, rIe, rA, rIA, rLA, rJA, rVI, rQI, rVA, rQA, upd_at,  rAI, rLI, rJI, nI_add, pk_sub, kc_0, kc_1, kc_2, kc_3, kc_4, kc_5, reduceIte, Nat.reduceEqDiff, Nat.add_zero, rI_hold, rI_hold, rL_hold, hn, hs, hp]; done) | (simp (disch := omega) only [rI, rIe, rA, rIA, rLA, rJA, rVI, rQI, rVA, rQA, upd_at,  rAI, rLI, rJI, nI_add, pk_sub, kc_0, kc_1, kc_2, kc_3, kc_4, kc_5, reduceIte, Nat.reduceEqDiff, Nat.add_zero, rI_hold, rI_hold, rL_hold, hn, hs, hp]; exact congrArg nI (by omega))) (by omega) (by omega)) ?_
      show Bod _ _ _ _ [_] _ _ _
      refine Bod.ist dc_42_95 (by rw [ml_42]; exact Nat.le_of_ble_eq_true rfl) ?_
      refine Bod.go dc_42_97 rfl ?_
      exact hB
theorem readName_next {d n p m : Nat} {S : cS} {hi lo : Int64} {v : Option Value} {Sf : cS} (hM : n ≤ 3000) (hn : sI S 3102 = nI n) (hs : sI S 3104 = nI p) (hp : sI S 3103 = nI (p + m)) (hm : m < 12) (hal : c_al S n (p + m)) (hlen : c_len hi ≤ 14) (hB : Bod (d + 2) 42 16 [(5, .int (c_b (wI 3103 (nI (p + m + 1)) S) n (p + m + 1))), (1, .long (c_appHi hi (nI (c_byte S (p + m))))), (3, .long (c_appLo hi lo (nI (c_byte S (p + m))))), (0, .ref 31)] [] (wI 3103 (nI (p + m + 1)) S) v Sf) : Bod (d + 2) 42 16 [(5, .int (c_b S n (p + m))), (1, .long hi), (3, .long lo), (0, .ref 31)] [] S v Sf := by
  obtain ⟨hin, hLD⟩ := hal
  obtain ⟨b, hb⟩ : ∃ b, c_byte S (p + m) = b := ⟨_, rfl⟩
  have hb2 : b < 256 := by rw [← hb]; exact (c_byte_eq S (p + m)).2
  rw [hb] at hLD hB
  have hb5 : c_b S n (p + m) = nI b := by
    unfold c_b
    rw [if_pos hin, hb]
  cases hL : c_let b with
  | true =>
      refine Bod.go dc_42_16 rfl ?_
      refine Bod.get dc_42_17 fr_42_23 (mk_31 _) rfl ?_
      refine Bod.eqI (nI (p + m)) (by first | assumption | rfl | exact congrArg nI (by omega) | (simp (disch := omega) only [rI, rIe, rA, rIA, rLA, rJA, rVI, rQI, rVA, rQA, upd_at,  rAI, rLI, rJI, nI_add, pk_sub, kc_0, kc_1, kc_2, kc_3, kc_4, kc_5, reduceIte, Nat.reduceEqDiff, Nat.add_zero, rI_hold, rI_hold, rL_hold, hn, hs, hp]; done)) ?_
      refine Bod.go dc_42_20 rfl ?_
      refine Bod.get dc_42_21 fr_42_19 (mk_31 _) rfl ?_
      refine Bod.eqI (nI n) (by first | assumption | rfl | exact congrArg nI (by omega) | (simp (disch := omega) only [rI, rIe, rA, rIA, rLA, rJA, rVI, rQI, rVA, rQA, upd_at,  rAI, rLI, rJI, nI_add, pk_sub, kc_0, kc_1, kc_2, kc_3, kc_4, kc_5, reduceIte, Nat.reduceEqDiff, Nat.add_zero, rI_hold, rI_hold, rL_hold, hn, hs, hp]; done)) ?_
      refine Bod.icF dc_42_24 rfl (k2_ge_F (p + m) n rfl rfl (by omega) (by omega)) ?_
      refine Bod.go dc_42_27 rfl ?_
      refine Bod.eqI (nI b) hb5 ?_
      refine Bod.stat (r := []) dc_42_29 kr_42_63 (Or.inr rfl) (by rw [np_41]; rfl) (by rw [np_41]; rfl) (by rw [np_41]; exact Nat.le_of_ble_eq_true rfl) (Nat.le_of_ble_eq_true rfl) (isLetter_T (b := b) hL) ?_
      show Bod _ _ _ _ [_] _ _ _
      refine Bod.ifT dc_42_32 rfl (k1_ne_T (k_ne 1 0 rfl rfl (by omega) (by omega) (by omega))) ?_
      refine Bod.go dc_42_43 rfl ?_
      refine Bod.get dc_42_44 fr_42_23 (mk_31 _) rfl ?_
      refine Bod.eqI (nI (p + m)) (by first | assumption | rfl | exact congrArg nI (by omega) | (simp (disch := omega) only [rI, rIe, rA, rIA, rLA, rJA, rVI, rQI, rVA, rQA, upd_at,  rAI, rLI, rJI, nI_add, pk_sub, kc_0, kc_1, kc_2, kc_3, kc_4, kc_5, reduceIte, Nat.reduceEqDiff, Nat.add_zero, rI_hold, rI_hold, rL_hold, hn, hs, hp]; done)) ?_
      refine Bod.go dc_42_47 rfl ?_
      refine Bod.get dc_42_48 fr_42_60 (mk_31 _) rfl ?_
      refine Bod.eqI (nI p) (by first | assumption | rfl | exact congrArg nI (by omega) | (simp (disch := omega) only [rI, rIe, rA, rIA, rLA, rJA, rVI, rQI, rVA, rQA, upd_at,  rAI, rLI, rJI, nI_add, pk_sub, kc_0, kc_1, kc_2, kc_3, kc_4, kc_5, reduceIte, Nat.reduceEqDiff, Nat.add_zero, rI_hold, rI_hold, rL_hold, hn, hs, hp]; done)) ?_
      refine Bod.subN m (by omega) (by omega) dc_42_51 ?_
      refine Bod.bip 12 (by decide) dc_42_52 ?_
      refine Bod.icT dc_42_54 rfl (k2_lt_T m 12 rfl rfl (by omega) (by omega)) ?_
      refine Bod.go dc_42_62 rfl ?_
      refine Bod.go dc_42_63 rfl ?_
      refine Bod.go dc_42_64 rfl ?_
      refine Bod.eqI (nI b) hb5 ?_
      refine Bod.stat (r := []) dc_42_66 kr_42_85 (Or.inr rfl) (by rw [np_16]; rfl) (by rw [np_16]; rfl) (by rw [np_16]; exact Nat.le_of_ble_eq_true rfl) (Nat.le_of_ble_eq_true rfl) (appLo_ev (hi := hi) (lo := lo) (b := nI b) hlen) ?_
      show Bod _ _ _ _ [_] _ _ _
      refine Bod.lstn dc_42_69 (by rw [ml_42]; exact Nat.le_of_ble_eq_true rfl) ?_
      refine Bod.go dc_42_70 rfl ?_
      refine Bod.go dc_42_71 rfl ?_
      refine Bod.eqI (nI b) hb5 ?_
      refine Bod.stat (r := []) dc_42_73 kr_42_89 (Or.inr rfl) (by rw [np_17]; rfl) (by rw [np_17]; rfl) (by rw [np_17]; exact Nat.le_of_ble_eq_true rfl) (Nat.le_of_ble_eq_true rfl) (appHi_ev (hi := hi) (b := nI b) hlen) ?_
      show Bod _ _ _ _ [_] _ _ _
      refine Bod.lstn dc_42_76 (by rw [ml_42]; exact Nat.le_of_ble_eq_true rfl) ?_
      refine Bod.go dc_42_77 rfl ?_
      refine Bod.go dc_42_78 rfl ?_
      refine Bod.get dc_42_79 fr_42_23 (mk_31 _) rfl ?_
      refine Bod.eqI (nI (p + m)) (by first | assumption | rfl | exact congrArg nI (by omega) | (simp (disch := omega) only [rI, rIe, rA, rIA, rLA, rJA, rVI, rQI, rVA, rQA, upd_at,  rAI, rLI, rJI, nI_add, pk_sub, kc_0, kc_1, kc_2, kc_3, kc_4, kc_5, reduceIte, Nat.reduceEqDiff, Nat.add_zero, rI_hold, rI_hold, rL_hold, hn, hs, hp]; done)) ?_
      refine Bod.ic 1 (by decide) dc_42_82 ?_
      refine Bod.addN (p + m + 1) (by omega) dc_42_83 ?_
      refine Bod.put dc_42_84 fr_42_23 (mk_31 _) (Nat.le_of_ble_eq_true rfl) pf_3_3 (st_3103 _ _) (mu_I _ _ _) ?_
      refine Bod.go dc_42_87 rfl ?_
      refine Bod.go dc_42_88 rfl ?_
      refine Bod.get dc_42_89 fr_42_23 (mk_31 _) rfl ?_
      refine Bod.eqI (nI (p + m + 1)) (by first | (simp (disch := omega) only [rI, rIe, rA, rIA, rLA, rJA, rVI, rQI, rVA, rQA, upd_at,  rAI, rLI, rJI, nI_add, pk_sub, kc_0, kc_1, kc_2, kc_3, kc_4, kc_5, reduceIte, Nat.reduceEqDiff, Nat.add_zero, rI_hold, rI_hold, rL_hold, hn, hs, hp]; done) | (simp (disch := omega) only [rI, rIe, rA, rIA, rLA, rJA, rVI, rQI, rVA, rQA, upd_at,  rAI, rLI, rJI, nI_add, pk_sub, kc_0, kc_1, kc_2, kc_3, kc_4, kc_5, reduceIte, Nat.reduceEqDiff, Nat.add_zero, rI_hold, rI_hold, rL_hold, hn, hs, hp]; exact congrArg nI (by omega))) ?_
      refine Bod.virt (r := []) dc_42_92 kr_42_50 ⟨Or.inl rfl, ow_38, cl_3⟩ (by rw [np_38]; rfl) (by rw [np_38]; rfl) (ob_of (mk_31 _)) (Nat.le_of_ble_eq_true rfl) (byteAt_b (n := n) (i := p + m + 1) (S := wI 3103 (nI (p + m + 1)) S) (by first | (simp (disch := omega) only [rI, rIe, rA, rIA, rLA, rJA, rVI, rQI, rVA, rQA, upd_at,  rAI, rLI, rJI, nI_add, pk_sub, kc_0, kc_1, kc_2, kc_3, kc_4, kc_5, reduceIte, Nat.reduceEqDiff, Nat.add_zero, rI_hold, rI_hold, rL_hold, hn, hs, hp]; done) | (simp (disch := omega) only [rI, rIe, rA, rIA, rLA, rJA, rVI, rQI, rVA, rQA, upd_at,  rAI, rLI, rJI, nI_add, pk_sub, kc_0, kc_1, kc_2, kc_3, kc_4, kc_5, reduceIte, Nat.reduceEqDiff, Nat.add_zero, rI_hold, rI_hold, rL_hold, hn, hs, hp]; exact congrArg nI (by omega))) (by omega) (by omega)) ?_
      show Bod _ _ _ _ [_] _ _ _
      refine Bod.ist dc_42_95 (by rw [ml_42]; exact Nat.le_of_ble_eq_true rfl) ?_
      refine Bod.go dc_42_97 rfl ?_
      exact hB
  | false =>
      have hD : c_dig b = true := hLD.resolve_left (by rw [hL]; decide)
      refine Bod.go dc_42_16 rfl ?_
      refine Bod.get dc_42_17 fr_42_23 (mk_31 _) rfl ?_
      refine Bod.eqI (nI (p + m)) (by first | assumption | rfl | exact congrArg nI (by omega) | (simp (disch := omega) only [rI, rIe, rA, rIA, rLA, rJA, rVI, rQI, rVA, rQA, upd_at,  rAI, rLI, rJI, nI_add, pk_sub, kc_0, kc_1, kc_2, kc_3, kc_4, kc_5, reduceIte, Nat.reduceEqDiff, Nat.add_zero, rI_hold, rI_hold, rL_hold, hn, hs, hp]; done)) ?_
      refine Bod.go dc_42_20 rfl ?_
      refine Bod.get dc_42_21 fr_42_19 (mk_31 _) rfl ?_
      refine Bod.eqI (nI n) (by first | assumption | rfl | exact congrArg nI (by omega) | (simp (disch := omega) only [rI, rIe, rA, rIA, rLA, rJA, rVI, rQI, rVA, rQA, upd_at,  rAI, rLI, rJI, nI_add, pk_sub, kc_0, kc_1, kc_2, kc_3, kc_4, kc_5, reduceIte, Nat.reduceEqDiff, Nat.add_zero, rI_hold, rI_hold, rL_hold, hn, hs, hp]; done)) ?_
      refine Bod.icF dc_42_24 rfl (k2_ge_F (p + m) n rfl rfl (by omega) (by omega)) ?_
      refine Bod.go dc_42_27 rfl ?_
      refine Bod.eqI (nI b) hb5 ?_
      refine Bod.stat (r := []) dc_42_29 kr_42_63 (Or.inr rfl) (by rw [np_41]; rfl) (by rw [np_41]; rfl) (by rw [np_41]; exact Nat.le_of_ble_eq_true rfl) (Nat.le_of_ble_eq_true rfl) (isLetter_F (b := b) (by omega) hL) ?_
      show Bod _ _ _ _ [_] _ _ _
      refine Bod.ifF dc_42_32 rfl (k1_ne_F (k_eq 0 0 rfl rfl (by omega))) ?_
      refine Bod.go dc_42_35 rfl ?_
      refine Bod.eqI (nI b) hb5 ?_
      refine Bod.stat (r := []) dc_42_37 kr_42_70 (Or.inr rfl) (by rw [np_43]; rfl) (by rw [np_43]; rfl) (by rw [np_43]; exact Nat.le_of_ble_eq_true rfl) (Nat.le_of_ble_eq_true rfl) (isDigit_T (b := b) hD) ?_
      show Bod _ _ _ _ [_] _ _ _
      refine Bod.ifF dc_42_40 rfl (k1_eq_F (k_ne 1 0 rfl rfl (by omega) (by omega) (by omega))) ?_
      refine Bod.go dc_42_43 rfl ?_
      refine Bod.get dc_42_44 fr_42_23 (mk_31 _) rfl ?_
      refine Bod.eqI (nI (p + m)) (by first | assumption | rfl | exact congrArg nI (by omega) | (simp (disch := omega) only [rI, rIe, rA, rIA, rLA, rJA, rVI, rQI, rVA, rQA, upd_at,  rAI, rLI, rJI, nI_add, pk_sub, kc_0, kc_1, kc_2, kc_3, kc_4, kc_5, reduceIte, Nat.reduceEqDiff, Nat.add_zero, rI_hold, rI_hold, rL_hold, hn, hs, hp]; done)) ?_
      refine Bod.go dc_42_47 rfl ?_
      refine Bod.get dc_42_48 fr_42_60 (mk_31 _) rfl ?_
      refine Bod.eqI (nI p) (by first | assumption | rfl | exact congrArg nI (by omega) | (simp (disch := omega) only [rI, rIe, rA, rIA, rLA, rJA, rVI, rQI, rVA, rQA, upd_at,  rAI, rLI, rJI, nI_add, pk_sub, kc_0, kc_1, kc_2, kc_3, kc_4, kc_5, reduceIte, Nat.reduceEqDiff, Nat.add_zero, rI_hold, rI_hold, rL_hold, hn, hs, hp]; done)) ?_
      refine Bod.subN m (by omega) (by omega) dc_42_51 ?_
      refine Bod.bip 12 (by decide) dc_42_52 ?_
      refine Bod.icT dc_42_54 rfl (k2_lt_T m 12 rfl rfl (by omega) (by omega)) ?_
      refine Bod.go dc_42_62 rfl ?_
      refine Bod.go dc_42_63 rfl ?_
      refine Bod.go dc_42_64 rfl ?_
      refine Bod.eqI (nI b) hb5 ?_
      refine Bod.stat (r := []) dc_42_66 kr_42_85 (Or.inr rfl) (by rw [np_16]; rfl) (by rw [np_16]; rfl) (by rw [np_16]; exact Nat.le_of_ble_eq_true rfl) (Nat.le_of_ble_eq_true rfl) (appLo_ev (hi := hi) (lo := lo) (b := nI b) hlen) ?_
      show Bod _ _ _ _ [_] _ _ _
      refine Bod.lstn dc_42_69 (by rw [ml_42]; exact Nat.le_of_ble_eq_true rfl) ?_
      refine Bod.go dc_42_70 rfl ?_
      refine Bod.go dc_42_71 rfl ?_
      refine Bod.eqI (nI b) hb5 ?_
      refine Bod.stat (r := []) dc_42_73 kr_42_89 (Or.inr rfl) (by rw [np_17]; rfl) (by rw [np_17]; rfl) (by rw [np_17]; exact Nat.le_of_ble_eq_true rfl) (Nat.le_of_ble_eq_true rfl) (appHi_ev (hi := hi) (b := nI b) hlen) ?_
      show Bod _ _ _ _ [_] _ _ _
      refine Bod.lstn dc_42_76 (by rw [ml_42]; exact Nat.le_of_ble_eq_true rfl) ?_
      refine Bod.go dc_42_77 rfl ?_
      refine Bod.go dc_42_78 rfl ?_
      refine Bod.get dc_42_79 fr_42_23 (mk_31 _) rfl ?_
      refine Bod.eqI (nI (p + m)) (by first | assumption | rfl | exact congrArg nI (by omega) | (simp (disch := omega) only [rI, rIe, rA, rIA, rLA, rJA, rVI, rQI, rVA, rQA, upd_at,  rAI, rLI, rJI, nI_add, pk_sub, kc_0, kc_1, kc_2, kc_3, kc_4, kc_5, reduceIte, Nat.reduceEqDiff, Nat.add_zero, rI_hold, rI_hold, rL_hold, hn, hs, hp]; done)) ?_
      refine Bod.ic 1 (by decide) dc_42_82 ?_
      refine Bod.addN (p + m + 1) (by omega) dc_42_83 ?_
      refine Bod.put dc_42_84 fr_42_23 (mk_31 _) (Nat.le_of_ble_eq_true rfl) pf_3_3 (st_3103 _ _) (mu_I _ _ _) ?_
      refine Bod.go dc_42_87 rfl ?_
      refine Bod.go dc_42_88 rfl ?_
      refine Bod.get dc_42_89 fr_42_23 (mk_31 _) rfl ?_
      refine Bod.eqI (nI (p + m + 1)) (by first | (simp (disch := omega) only [rI, rIe, rA, rIA, rLA, rJA, rVI, rQI, rVA, rQA, upd_at,  rAI, rLI, rJI, nI_add, pk_sub, kc_0, kc_1, kc_2, kc_3, kc_4, kc_5, reduceIte, Nat.reduceEqDiff, Nat.add_zero, rI_hold, rI_hold, rL_hold, hn, hs, hp]; done) | (simp (disch := omega) only [rI, rIe, rA, rIA, rLA, rJA, rVI, rQI, rVA, rQA, upd_at,  rAI, rLI, rJI, nI_add, pk_sub, kc_0, kc_1, kc_2, kc_3, kc_4, kc_5, reduceIte, Nat.reduceEqDiff, Nat.add_zero, rI_hold, rI_hold, rL_hold, hn, hs, hp]; exact congrArg nI (by omega))) ?_
      refine Bod.virt (r := []) dc_42_92 kr_42_50 ⟨Or.inl rfl, ow_38, cl_3⟩ (by rw [np_38]; rfl) (by rw [np_38]; rfl) (ob_of (mk_31 _)) (Nat.le_of_ble_eq_true rfl) (byteAt_b (n := n) (i := p + m + 1) (S := wI 3103 (nI (p + m + 1)) S) (by first | (simp (disch := omega) only [rI, rIe, rA, rIA, rLA, rJA, rVI, rQI, rVA, rQA, upd_at,  rAI, rLI, rJI, nI_add, pk_sub, kc_0, kc_1, kc_2, kc_3, kc_4, kc_5, reduceIte, Nat.reduceEqDiff, Nat.add_zero, rI_hold, rI_hold, rL_hold, hn, hs, hp]; done) | (simp (disch := omega) only [rI, rIe, rA, rIA, rLA, rJA, rVI, rQI, rVA, rQA, upd_at,  rAI, rLI, rJI, nI_add, pk_sub, kc_0, kc_1, kc_2, kc_3, kc_4, kc_5, reduceIte, Nat.reduceEqDiff, Nat.add_zero, rI_hold, rI_hold, rL_hold, hn, hs, hp]; exact congrArg nI (by omega))) (by omega) (by omega)) ?_
      show Bod _ _ _ _ [_] _ _ _
      refine Bod.ist dc_42_95 (by rw [ml_42]; exact Nat.le_of_ble_eq_true rfl) ?_
      refine Bod.go dc_42_97 rfl ?_
      exact hB
theorem c_b_I (k : Nat) (x : Int32) (S : cS) (n i : Nat) : c_b (wI k x S) n i = c_b S n i := rfl
theorem c_al_I (k : Nat) (x : Int32) (S : cS) (n i : Nat) : c_al (wI k x S) n i ↔ c_al S n i := Iff.rfl
theorem readName_loop {d n p M : Nat} {v : Option Value} {Sf : cS} (hM : n ≤ 3000) (hM2 : M ≤ 12) : ∀ (r m : Nat) (S : cS), m + r = M → sI S 3102 = nI n → sI S 3104 = nI p → sI S 3103 = nI (p + m) → p + M ≤ n → (∀ x, m ≤ x → x < M → c_al S n (p + x)) → ¬ c_al S n (p + M) → Bod (d + 2) 42 100 [(5, .int (c_b S n (p + M))), (1, .long (c_nmH S p M)), (3, .long (c_nmL S p M)), (0, .ref 31)] [] (wI 3103 (nI (p + M)) S) v Sf → Bod (d + 2) 42 16 [(5, .int (c_b S n (p + m))), (1, .long (c_nmH S p m)), (3, .long (c_nmL S p m)), (0, .ref 31)] [] S v Sf := by
  intro r
  induction r with
  | zero =>
    intro m S hm hn hs hp hpn _ he hB
    obtain rfl : m = M := by omega
    rw [wI_same hp] at hB
    by_cases hc : p + m < n
    · obtain ⟨b, hb⟩ : ∃ b, c_byte S (p + m) = b := ⟨_, rfl⟩
      have hb2 : b < 256 := by rw [← hb]; exact (c_byte_eq S (p + m)).2
      have hb5 : c_b S n (p + m) = nI b := by
        unfold c_b
        rw [if_pos hc, hb]
      have hL : c_let b = false := by
        cases h : c_let b with
        | false => rfl
        | true => exact absurd ⟨hc, Or.inl (by rw [hb]; exact h)⟩ he
      have hD : c_dig b = false := by
        cases h : c_dig b with
        | false => rfl
        | true => exact absurd ⟨hc, Or.inr (by rw [hb]; exact h)⟩ he
      refine Bod.go dc_42_16 rfl ?_
      refine Bod.get dc_42_17 fr_42_23 (mk_31 _) rfl ?_
      refine Bod.eqI (nI (p + m)) (by first | assumption | rfl | exact congrArg nI (by omega) | (simp (disch := omega) only [rI, rIe, rA, rIA, rLA, rJA, rVI, rQI, rVA, rQA, upd_at,  rAI, rLI, rJI, nI_add, pk_sub, kc_0, kc_1, kc_2, kc_3, kc_4, kc_5, reduceIte, Nat.reduceEqDiff, Nat.add_zero, rI_hold, rI_hold, rL_hold, hn, hp]; done)) ?_
      refine Bod.go dc_42_20 rfl ?_
      refine Bod.get dc_42_21 fr_42_19 (mk_31 _) rfl ?_
      refine Bod.eqI (nI n) (by first | assumption | rfl | exact congrArg nI (by omega) | (simp (disch := omega) only [rI, rIe, rA, rIA, rLA, rJA, rVI, rQI, rVA, rQA, upd_at,  rAI, rLI, rJI, nI_add, pk_sub, kc_0, kc_1, kc_2, kc_3, kc_4, kc_5, reduceIte, Nat.reduceEqDiff, Nat.add_zero, rI_hold, rI_hold, rL_hold, hn, hp]; done)) ?_
      refine Bod.icF dc_42_24 rfl (k2_ge_F (p + m) n rfl rfl (by omega) (by omega)) ?_
      refine Bod.go dc_42_27 rfl ?_
      refine Bod.eqI (nI b) hb5 ?_
      refine Bod.stat (r := []) dc_42_29 kr_42_63 (Or.inr rfl) (by rw [np_41]; rfl) (by rw [np_41]; rfl) (by rw [np_41]; exact Nat.le_of_ble_eq_true rfl) (Nat.le_of_ble_eq_true rfl) (isLetter_F (b := b) (by omega) hL) ?_
      show Bod _ _ _ _ [_] _ _ _
      refine Bod.ifF dc_42_32 rfl (k1_ne_F (k_eq 0 0 rfl rfl (by omega))) ?_
      refine Bod.go dc_42_35 rfl ?_
      refine Bod.eqI (nI b) hb5 ?_
      refine Bod.stat (r := []) dc_42_37 kr_42_70 (Or.inr rfl) (by rw [np_43]; rfl) (by rw [np_43]; rfl) (by rw [np_43]; exact Nat.le_of_ble_eq_true rfl) (Nat.le_of_ble_eq_true rfl) (isDigit_F (b := b) (by omega) hD) ?_
      show Bod _ _ _ _ [_] _ _ _
      refine Bod.ifT dc_42_40 rfl (k1_eq_T (k_eq 0 0 rfl rfl (by omega))) ?_
      exact hB
    · have hc2 : n ≤ p + m := by omega
      refine Bod.go dc_42_16 rfl ?_
      refine Bod.get dc_42_17 fr_42_23 (mk_31 _) rfl ?_
      refine Bod.eqI (nI (p + m)) (by first | assumption | rfl | exact congrArg nI (by omega) | (simp (disch := omega) only [rI, rIe, rA, rIA, rLA, rJA, rVI, rQI, rVA, rQA, upd_at,  rAI, rLI, rJI, nI_add, pk_sub, kc_0, kc_1, kc_2, kc_3, kc_4, kc_5, reduceIte, Nat.reduceEqDiff, Nat.add_zero, rI_hold, rI_hold, rL_hold, hn, hp]; done)) ?_
      refine Bod.go dc_42_20 rfl ?_
      refine Bod.get dc_42_21 fr_42_19 (mk_31 _) rfl ?_
      refine Bod.eqI (nI n) (by first | assumption | rfl | exact congrArg nI (by omega) | (simp (disch := omega) only [rI, rIe, rA, rIA, rLA, rJA, rVI, rQI, rVA, rQA, upd_at,  rAI, rLI, rJI, nI_add, pk_sub, kc_0, kc_1, kc_2, kc_3, kc_4, kc_5, reduceIte, Nat.reduceEqDiff, Nat.add_zero, rI_hold, rI_hold, rL_hold, hn, hp]; done)) ?_
      refine Bod.icT dc_42_24 rfl (k2_ge_T (p + m) n rfl rfl (by omega) (by omega)) ?_
      exact hB
  | succ r ih =>
    intro m S hm hn hs hp hpn ha he hB
    have h := ih (m + 1) (wI 3103 (nI (p + m + 1)) S) (by omega) hn hs (rIe _ _ _) hpn (fun x h1 h2 => (c_al_I _ _ _ _ _).mpr (ha x (by omega) h2)) (fun h => he ((c_al_I _ _ _ _ _).mp h)) (by rw [wI_wI, c_nmH_I, c_nmL_I, c_b_I]; exact hB)
    rw [c_nmH_I, c_nmL_I] at h
    exact readName_next hM hn hs hp (by omega) (ha m (Nat.le_refl _) (by omega)) (by rw [c_nmH_len S p m (by omega)]; omega) h
/-- a name of M bytes from p on: its bytes are read, then its number is looked up -/
theorem readName_to {d n p M : Nat} {S Sf : cS} {v : Option Value} (hM : n ≤ 3000) (hM1 : 1 ≤ M) (hM2 : M ≤ 12) (hn : sI S 3102 = nI n) (hs : sI S 3104 = nI p) (hp : sI S 3103 = nI p) (hpn : p + M ≤ n) (ha : ∀ x, x < M → c_al S n (p + x)) (he : ¬ c_al S n (p + M)) (hB : Bod (d + 2) 42 100 [(5, .int (c_b S n (p + M))), (1, .long (c_nmH S p M)), (3, .long (c_nmL S p M)), (0, .ref 31)] [] (wI 3103 (nI (p + M)) S) v Sf) : Ans (d + 3) 42 [.ref 31] S v Sf := by
  refine Ans.of (by rw [ml_42]; exact Nat.le_of_ble_eq_true rfl) ?_
  refine Bod.ldc2 dc_42_0 cj_42_83 ?_
  refine Bod.lstn dc_42_3 (by rw [ml_42]; exact Nat.le_of_ble_eq_true rfl) ?_
  refine Bod.go dc_42_4 rfl ?_
  refine Bod.lstn dc_42_5 (by rw [ml_42]; exact Nat.le_of_ble_eq_true rfl) ?_
  refine Bod.go dc_42_6 rfl ?_
  refine Bod.go dc_42_7 rfl ?_
  refine Bod.get dc_42_8 fr_42_23 (mk_31 _) rfl ?_
  refine Bod.eqI (nI p) (by first | assumption | rfl | exact congrArg nI (by omega) | (simp (disch := omega) only [rI, rIe, rA, rIA, rLA, rJA, rVI, rQI, rVA, rQA, upd_at,  rAI, rLI, rJI, nI_add, pk_sub, kc_0, kc_1, kc_2, kc_3, kc_4, kc_5, reduceIte, Nat.reduceEqDiff, Nat.add_zero, rI_hold, rI_hold, rL_hold, hn, hp]; done)) ?_
  refine Bod.virt (r := []) dc_42_11 kr_42_50 ⟨Or.inl rfl, ow_38, cl_3⟩ (by rw [np_38]; rfl) (by rw [np_38]; rfl) (ob_of (mk_31 _)) (Nat.le_of_ble_eq_true rfl) (byteAt_b (n := n) (i := p) (S := S) (by first | assumption | rfl | exact congrArg nI (by omega) | (simp (disch := omega) only [rI, rIe, rA, rIA, rLA, rJA, rVI, rQI, rVA, rQA, upd_at,  rAI, rLI, rJI, nI_add, pk_sub, kc_0, kc_1, kc_2, kc_3, kc_4, kc_5, reduceIte, Nat.reduceEqDiff, Nat.add_zero, rI_hold, rI_hold, rL_hold, hn, hp]; done)) (by omega) (by omega)) ?_
  show Bod _ _ _ _ [_] _ _ _
  refine Bod.ist dc_42_14 (by rw [ml_42]; exact Nat.le_of_ble_eq_true rfl) ?_
  have h := readName_loop (d := d) (p := p) (M := M) (v := v) (Sf := Sf) hM hM2 (M - 1) 1 (wI 3103 (nI (p + 0 + 1)) S) (by omega) hn hs (rIe _ _ _) hpn (fun x h1 h2 => (c_al_I _ _ _ _ _).mpr (ha x h2)) (fun h => he ((c_al_I _ _ _ _ _).mp h)) (by rw [wI_wI, c_nmH_I, c_nmL_I, c_b_I]; exact hB)
  rw [c_nmH_I, c_nmL_I] at h
  exact readName_first (m := 0) (hi := 3458764513820540928) (lo := 0) hM hn hs hp (by omega) (ha 0 (by omega)) (by rw [show c_len 3458764513820540928 = 0 from c_nmH_len S p 0 (by omega)]; omega) h
theorem readName_old_w {d h b q : Nat} {S : cS} {hi lo : Int64} {x : Int32} {cs : List Nat} (hh : c_hash hi lo = h) (hb : sA S 19 h = nI b) (hc : c_chain S b cs) (hl : cs.length < 4096) (hf : c_find S hi lo cs = some q) (h24 : q < 24) : Bod (d + 2) 42 100 [(5, .int x), (1, .long hi), (3, .long lo), (0, .ref 31)] [] S none (wI 3105 (nI (q + 40)) (wI 3109 (nI q) S)) := by
  refine Bod.go dc_42_100 rfl ?_
  refine Bod.go dc_42_101 rfl ?_
  refine Bod.get dc_42_102 fr_42_15 (mk_31 _) rfl ?_
  refine Bod.go dc_42_105 rfl ?_
  refine Bod.go dc_42_106 rfl ?_
  refine Bod.virt (r := [_]) dc_42_107 kr_42_93 ⟨Or.inr rfl, ow_15, cl_5⟩ (by rw [np_15]; rfl) (by rw [np_15]; rfl) (ob_of (mk_16 _)) (Nat.le_of_ble_eq_true rfl) (numberOf_old (q := q) hh hb hc hl hf) ?_
  show Bod _ _ _ _ [_, _] _ _ _
  refine Bod.put dc_42_110 fr_42_99 (mk_31 _) (Nat.le_of_ble_eq_true rfl) pf_3_9 (st_3109 _ _) (mu_I _ _ _) ?_
  refine Bod.go dc_42_113 rfl ?_
  refine Bod.go dc_42_114 rfl ?_
  refine Bod.get dc_42_115 fr_42_99 (mk_31 _) rfl ?_
  refine Bod.eqI (nI q) (by first | (simp (disch := omega) only [rI, rIe, rA, rIA, rLA, rJA, rVI, rQI, rVA, rQA, upd_at,  rAI, rLI, rJI, nI_add, pk_sub, kc_0, kc_1, kc_2, kc_3, kc_4, kc_5, reduceIte, Nat.reduceEqDiff, Nat.add_zero, rI_hold, rI_hold, rL_hold]; done) | (simp (disch := omega) only [rI, rIe, rA, rIA, rLA, rJA, rVI, rQI, rVA, rQA, upd_at,  rAI, rLI, rJI, nI_add, pk_sub, kc_0, kc_1, kc_2, kc_3, kc_4, kc_5, reduceIte, Nat.reduceEqDiff, Nat.add_zero, rI_hold, rI_hold, rL_hold]; exact congrArg nI (by omega))) ?_
  refine Bod.ifF dc_42_118 rfl (k1_lt_F q rfl (by omega)) ?_
  refine Bod.go dc_42_121 rfl ?_
  refine Bod.get dc_42_122 fr_42_99 (mk_31 _) rfl ?_
  refine Bod.eqI (nI q) (by first | (simp (disch := omega) only [rI, rIe, rA, rIA, rLA, rJA, rVI, rQI, rVA, rQA, upd_at,  rAI, rLI, rJI, nI_add, pk_sub, kc_0, kc_1, kc_2, kc_3, kc_4, kc_5, reduceIte, Nat.reduceEqDiff, Nat.add_zero, rI_hold, rI_hold, rL_hold]; done) | (simp (disch := omega) only [rI, rIe, rA, rIA, rLA, rJA, rVI, rQI, rVA, rQA, upd_at,  rAI, rLI, rJI, nI_add, pk_sub, kc_0, kc_1, kc_2, kc_3, kc_4, kc_5, reduceIte, Nat.reduceEqDiff, Nat.add_zero, rI_hold, rI_hold, rL_hold]; exact congrArg nI (by omega))) ?_
  refine Bod.bip 24 (by decide) dc_42_125 ?_
  refine Bod.icF dc_42_127 rfl (k2_ge_F q 24 rfl rfl (by omega) (by omega)) ?_
  refine Bod.bip 40 (by decide) dc_42_130 ?_
  refine Bod.go dc_42_132 rfl ?_
  refine Bod.get dc_42_133 fr_42_99 (mk_31 _) rfl ?_
  refine Bod.eqI (nI q) (by first | (simp (disch := omega) only [rI, rIe, rA, rIA, rLA, rJA, rVI, rQI, rVA, rQA, upd_at,  rAI, rLI, rJI, nI_add, pk_sub, kc_0, kc_1, kc_2, kc_3, kc_4, kc_5, reduceIte, Nat.reduceEqDiff, Nat.add_zero, rI_hold, rI_hold, rL_hold]; done) | (simp (disch := omega) only [rI, rIe, rA, rIA, rLA, rJA, rVI, rQI, rVA, rQA, upd_at,  rAI, rLI, rJI, nI_add, pk_sub, kc_0, kc_1, kc_2, kc_3, kc_4, kc_5, reduceIte, Nat.reduceEqDiff, Nat.add_zero, rI_hold, rI_hold, rL_hold]; exact congrArg nI (by omega))) ?_
  refine Bod.addN (q + 40) (by omega) dc_42_136 ?_
  refine Bod.go dc_42_137 rfl ?_
  refine Bod.put dc_42_141 fr_42_38 (mk_31 _) (Nat.le_of_ble_eq_true rfl) pf_3_5 (st_3105 _ _) (mu_I _ _ _) ?_
  refine Bod.go dc_42_144 rfl ?_
  refine Bod.get dc_42_145 fr_42_99 (mk_31 _) rfl ?_
  refine Bod.eqI (nI q) (by first | (simp (disch := omega) only [rI, rIe, rA, rIA, rLA, rJA, rVI, rQI, rVA, rQA, upd_at,  rAI, rLI, rJI, nI_add, pk_sub, kc_0, kc_1, kc_2, kc_3, kc_4, kc_5, reduceIte, Nat.reduceEqDiff, Nat.add_zero, rI_hold, rI_hold, rL_hold]; done) | (simp (disch := omega) only [rI, rIe, rA, rIA, rLA, rJA, rVI, rQI, rVA, rQA, upd_at,  rAI, rLI, rJI, nI_add, pk_sub, kc_0, kc_1, kc_2, kc_3, kc_4, kc_5, reduceIte, Nat.reduceEqDiff, Nat.add_zero, rI_hold, rI_hold, rL_hold]; exact congrArg nI (by omega))) ?_
  refine Bod.ifT dc_42_148 rfl (k1_ge_T q rfl (by omega)) ?_
  exact Bod.retV dc_42_155 rt_42
theorem readName_old_n {d h b q : Nat} {S : cS} {hi lo : Int64} {x : Int32} {cs : List Nat} (hh : c_hash hi lo = h) (hb : sA S 19 h = nI b) (hc : c_chain S b cs) (hl : cs.length < 4096) (hf : c_find S hi lo cs = some q) (h24 : 24 ≤ q) (hq : q < 4096) : Bod (d + 2) 42 100 [(5, .int x), (1, .long hi), (3, .long lo), (0, .ref 31)] [] S none (wI 3105 (nI 3) (wI 3109 (nI q) S)) := by
  refine Bod.go dc_42_100 rfl ?_
  refine Bod.go dc_42_101 rfl ?_
  refine Bod.get dc_42_102 fr_42_15 (mk_31 _) rfl ?_
  refine Bod.go dc_42_105 rfl ?_
  refine Bod.go dc_42_106 rfl ?_
  refine Bod.virt (r := [_]) dc_42_107 kr_42_93 ⟨Or.inr rfl, ow_15, cl_5⟩ (by rw [np_15]; rfl) (by rw [np_15]; rfl) (ob_of (mk_16 _)) (Nat.le_of_ble_eq_true rfl) (numberOf_old (q := q) hh hb hc hl hf) ?_
  show Bod _ _ _ _ [_, _] _ _ _
  refine Bod.put dc_42_110 fr_42_99 (mk_31 _) (Nat.le_of_ble_eq_true rfl) pf_3_9 (st_3109 _ _) (mu_I _ _ _) ?_
  refine Bod.go dc_42_113 rfl ?_
  refine Bod.go dc_42_114 rfl ?_
  refine Bod.get dc_42_115 fr_42_99 (mk_31 _) rfl ?_
  refine Bod.eqI (nI q) (by first | (simp (disch := omega) only [rI, rIe, rA, rIA, rLA, rJA, rVI, rQI, rVA, rQA, upd_at,  rAI, rLI, rJI, nI_add, pk_sub, kc_0, kc_1, kc_2, kc_3, kc_4, kc_5, reduceIte, Nat.reduceEqDiff, Nat.add_zero, rI_hold, rI_hold, rL_hold]; done) | (simp (disch := omega) only [rI, rIe, rA, rIA, rLA, rJA, rVI, rQI, rVA, rQA, upd_at,  rAI, rLI, rJI, nI_add, pk_sub, kc_0, kc_1, kc_2, kc_3, kc_4, kc_5, reduceIte, Nat.reduceEqDiff, Nat.add_zero, rI_hold, rI_hold, rL_hold]; exact congrArg nI (by omega))) ?_
  refine Bod.ifF dc_42_118 rfl (k1_lt_F q rfl (by omega)) ?_
  refine Bod.go dc_42_121 rfl ?_
  refine Bod.get dc_42_122 fr_42_99 (mk_31 _) rfl ?_
  refine Bod.eqI (nI q) (by first | (simp (disch := omega) only [rI, rIe, rA, rIA, rLA, rJA, rVI, rQI, rVA, rQA, upd_at,  rAI, rLI, rJI, nI_add, pk_sub, kc_0, kc_1, kc_2, kc_3, kc_4, kc_5, reduceIte, Nat.reduceEqDiff, Nat.add_zero, rI_hold, rI_hold, rL_hold]; done) | (simp (disch := omega) only [rI, rIe, rA, rIA, rLA, rJA, rVI, rQI, rVA, rQA, upd_at,  rAI, rLI, rJI, nI_add, pk_sub, kc_0, kc_1, kc_2, kc_3, kc_4, kc_5, reduceIte, Nat.reduceEqDiff, Nat.add_zero, rI_hold, rI_hold, rL_hold]; exact congrArg nI (by omega))) ?_
  refine Bod.bip 24 (by decide) dc_42_125 ?_
  refine Bod.icT dc_42_127 rfl (k2_ge_T q 24 rfl rfl (by omega) (by omega)) ?_
  refine Bod.ic 3 (by decide) dc_42_140 ?_
  refine Bod.put dc_42_141 fr_42_38 (mk_31 _) (Nat.le_of_ble_eq_true rfl) pf_3_5 (st_3105 _ _) (mu_I _ _ _) ?_
  refine Bod.go dc_42_144 rfl ?_
  refine Bod.get dc_42_145 fr_42_99 (mk_31 _) rfl ?_
  refine Bod.eqI (nI q) (by first | (simp (disch := omega) only [rI, rIe, rA, rIA, rLA, rJA, rVI, rQI, rVA, rQA, upd_at,  rAI, rLI, rJI, nI_add, pk_sub, kc_0, kc_1, kc_2, kc_3, kc_4, kc_5, reduceIte, Nat.reduceEqDiff, Nat.add_zero, rI_hold, rI_hold, rL_hold]; done) | (simp (disch := omega) only [rI, rIe, rA, rIA, rLA, rJA, rVI, rQI, rVA, rQA, upd_at,  rAI, rLI, rJI, nI_add, pk_sub, kc_0, kc_1, kc_2, kc_3, kc_4, kc_5, reduceIte, Nat.reduceEqDiff, Nat.add_zero, rI_hold, rI_hold, rL_hold]; exact congrArg nI (by omega))) ?_
  refine Bod.ifT dc_42_148 rfl (k1_ge_T q rfl (by omega)) ?_
  exact Bod.retV dc_42_155 rt_42
