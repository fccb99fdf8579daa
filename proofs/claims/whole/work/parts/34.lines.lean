/-! TEXTS; LINES -/
theorem dc_46_31 : decode (sm_cc 46) 31 = .ok (.aload_n 0, 1) := by decide +kernel
theorem dc_46_32 : decode (sm_cc 46) 32 = .ok (.getfield 23, 3) := by decide +kernel
theorem fr_46_23 : sm_at mt_f (sm_ow 46) 23 = some (23, 3, 3, 0, 593) := by decide +kernel
theorem dc_46_35 : decode (sm_cc 46) 35 = .ok (.aload_n 0, 1) := by decide +kernel
theorem dc_46_36 : decode (sm_cc 46) 36 = .ok (.getfield 19, 3) := by decide +kernel
theorem fr_46_19 : sm_at mt_f (sm_ow 46) 19 = some (19, 3, 2, 0, 592) := by decide +kernel
theorem dc_46_39 : decode (sm_cc 46) 39 = .ok (.if_icmp .ge (88), 3) := by decide +kernel
theorem dc_46_42 : decode (sm_cc 46) 42 = .ok (.iload_n 1, 1) := by decide +kernel
theorem dc_46_43 : decode (sm_cc 46) 43 = .ok (.bipush (39), 2) := by decide +kernel
theorem dc_46_45 : decode (sm_cc 46) 45 = .ok (.if_icmp .eq (82), 3) := by decide +kernel
theorem dc_46_48 : decode (sm_cc 46) 48 = .ok (.iload_n 1, 1) := by decide +kernel
theorem dc_46_49 : decode (sm_cc 46) 49 = .ok (.bipush (32), 2) := by decide +kernel
theorem dc_46_51 : decode (sm_cc 46) 51 = .ok (.if_icmp .lt (21), 3) := by decide +kernel
theorem dc_46_54 : decode (sm_cc 46) 54 = .ok (.iload_n 1, 1) := by decide +kernel
theorem dc_46_55 : decode (sm_cc 46) 55 = .ok (.bipush (126), 2) := by decide +kernel
theorem dc_46_57 : decode (sm_cc 46) 57 = .ok (.if_icmp .gt (15), 3) := by decide +kernel
theorem dc_46_60 : decode (sm_cc 46) 60 = .ok (.aload_n 0, 1) := by decide +kernel
theorem dc_46_61 : decode (sm_cc 46) 61 = .ok (.getfield 110, 3) := by decide +kernel
theorem fr_46_110 : sm_at mt_f (sm_ow 46) 110 = some (110, 3, 11, 0, 609) := by decide +kernel
theorem dc_46_64 : decode (sm_cc 46) 64 = .ok (.invokestatic 116, 3) := by decide +kernel
theorem kr_46_116 : sm_at mt_k (sm_ow 46) 116 = some (116, 3, 47, 1, 1009) := by decide +kernel
theorem np_47 : sm_np 47 = 1 := by decide +kernel
theorem dc_46_67 : decode (sm_cc 46) 67 = .ok (.bipush (15), 2) := by decide +kernel
theorem dc_46_69 : decode (sm_cc 46) 69 = .ok (.if_icmp .lt (8), 3) := by decide +kernel
theorem dc_46_77 : decode (sm_cc 46) 77 = .ok (.aload_n 0, 1) := by decide +kernel
theorem dc_46_78 : decode (sm_cc 46) 78 = .ok (.aload_n 0, 1) := by decide +kernel
theorem dc_46_79 : decode (sm_cc 46) 79 = .ok (.getfield 110, 3) := by decide +kernel
theorem dc_46_82 : decode (sm_cc 46) 82 = .ok (.aload_n 0, 1) := by decide +kernel
theorem dc_46_83 : decode (sm_cc 46) 83 = .ok (.getfield 113, 3) := by decide +kernel
theorem fr_46_113 : sm_at mt_f (sm_ow 46) 113 = some (113, 3, 12, 0, 611) := by decide +kernel
theorem dc_46_86 : decode (sm_cc 46) 86 = .ok (.iload_n 1, 1) := by decide +kernel
theorem dc_46_87 : decode (sm_cc 46) 87 = .ok (.invokestatic 85, 3) := by decide +kernel
theorem kr_46_85 : sm_at mt_k (sm_ow 46) 85 = some (85, 3, 16, 1, 996) := by decide +kernel
theorem dc_46_90 : decode (sm_cc 46) 90 = .ok (.putfield 113, 3) := by decide +kernel
theorem dc_46_93 : decode (sm_cc 46) 93 = .ok (.aload_n 0, 1) := by decide +kernel
theorem dc_46_94 : decode (sm_cc 46) 94 = .ok (.aload_n 0, 1) := by decide +kernel
theorem dc_46_95 : decode (sm_cc 46) 95 = .ok (.getfield 110, 3) := by decide +kernel
theorem dc_46_98 : decode (sm_cc 46) 98 = .ok (.iload_n 1, 1) := by decide +kernel
theorem dc_46_99 : decode (sm_cc 46) 99 = .ok (.invokestatic 89, 3) := by decide +kernel
theorem kr_46_89 : sm_at mt_k (sm_ow 46) 89 = some (89, 3, 17, 1, 997) := by decide +kernel
theorem dc_46_102 : decode (sm_cc 46) 102 = .ok (.putfield 110, 3) := by decide +kernel
theorem dc_46_105 : decode (sm_cc 46) 105 = .ok (.aload_n 0, 1) := by decide +kernel
theorem dc_46_106 : decode (sm_cc 46) 106 = .ok (.dup, 1) := by decide +kernel
theorem dc_46_107 : decode (sm_cc 46) 107 = .ok (.getfield 23, 3) := by decide +kernel
theorem dc_46_110 : decode (sm_cc 46) 110 = .ok (.iconst 1, 1) := by decide +kernel
theorem dc_46_111 : decode (sm_cc 46) 111 = .ok (.iadd, 1) := by decide +kernel
theorem dc_46_112 : decode (sm_cc 46) 112 = .ok (.putfield 23, 3) := by decide +kernel
theorem dc_46_115 : decode (sm_cc 46) 115 = .ok (.aload_n 0, 1) := by decide +kernel
theorem dc_46_116 : decode (sm_cc 46) 116 = .ok (.aload_n 0, 1) := by decide +kernel
theorem dc_46_117 : decode (sm_cc 46) 117 = .ok (.getfield 23, 3) := by decide +kernel
theorem dc_46_120 : decode (sm_cc 46) 120 = .ok (.invokevirtual 50, 3) := by decide +kernel
theorem kr_46_50 : sm_at mt_k (sm_ow 46) 50 = some (50, 0, 38, 0, 969) := by decide +kernel
theorem dc_46_123 : decode (sm_cc 46) 123 = .ok (.istore_n 1, 1) := by decide +kernel
theorem ml_46 : sm_ml 46 = 2 := by decide +kernel
theorem dc_46_124 : decode (sm_cc 46) 124 = .ok (.goto (-93), 3) := by decide +kernel
theorem dc_46_127 : decode (sm_cc 46) 127 = .ok (.aload_n 0, 1) := by decide +kernel
theorem dc_46_128 : decode (sm_cc 46) 128 = .ok (.getfield 23, 3) := by decide +kernel
theorem dc_46_131 : decode (sm_cc 46) 131 = .ok (.aload_n 0, 1) := by decide +kernel
theorem dc_46_132 : decode (sm_cc 46) 132 = .ok (.getfield 19, 3) := by decide +kernel
theorem dc_46_135 : decode (sm_cc 46) 135 = .ok (.if_icmp .lt (8), 3) := by decide +kernel
theorem dc_46_143 : decode (sm_cc 46) 143 = .ok (.aload_n 0, 1) := by decide +kernel
theorem dc_46_144 : decode (sm_cc 46) 144 = .ok (.dup, 1) := by decide +kernel
theorem dc_46_145 : decode (sm_cc 46) 145 = .ok (.getfield 23, 3) := by decide +kernel
theorem dc_46_148 : decode (sm_cc 46) 148 = .ok (.iconst 1, 1) := by decide +kernel
theorem dc_46_149 : decode (sm_cc 46) 149 = .ok (.iadd, 1) := by decide +kernel
theorem dc_46_150 : decode (sm_cc 46) 150 = .ok (.putfield 23, 3) := by decide +kernel
theorem dc_46_153 : decode (sm_cc 46) 153 = .ok (.aload_n 0, 1) := by decide +kernel
theorem dc_46_154 : decode (sm_cc 46) 154 = .ok (.iconst 5, 1) := by decide +kernel
theorem dc_46_155 : decode (sm_cc 46) 155 = .ok (.putfield 38, 3) := by decide +kernel
theorem fr_46_38 : sm_at mt_f (sm_ow 46) 38 = some (38, 3, 5, 0, 597) := by decide +kernel
theorem dc_46_158 : decode (sm_cc 46) 158 = .ok (.return_, 1) := by decide +kernel
theorem rt_46 : sm_rt 46 = none := by decide +kernel
theorem dc_46_138 : decode (sm_cc 46) 138 = .ok (.aload_n 0, 1) := by decide +kernel
theorem dc_46_139 : decode (sm_cc 46) 139 = .ok (.invokevirtual 44, 3) := by decide +kernel
theorem ow_44 : 3 = sm_ow 44 := by decide +kernel
theorem kr_46_44 : sm_at mt_k (sm_ow 46) 44 = some (44, 0, 44, 0, 992) := by decide +kernel
theorem np_44 : sm_np 44 = 0 := by decide +kernel
theorem dc_46_142 : decode (sm_cc 46) 142 = .ok (.return_, 1) := by decide +kernel
theorem dc_46_72 : decode (sm_cc 46) 72 = .ok (.aload_n 0, 1) := by decide +kernel
theorem dc_46_73 : decode (sm_cc 46) 73 = .ok (.invokevirtual 44, 3) := by decide +kernel
theorem dc_46_76 : decode (sm_cc 46) 76 = .ok (.return_, 1) := by decide +kernel
theorem dc_120_0 : decode (sm_cc 120) 0 = .ok (.aload_n 0, 1) := by decide +kernel
theorem dc_120_1 : decode (sm_cc 120) 1 = .ok (.iload_n 1, 1) := by decide +kernel
theorem dc_120_2 : decode (sm_cc 120) 2 = .ok (.putfield 23, 3) := by decide +kernel
theorem fr_120_23 : sm_at mt_f (sm_ow 120) 23 = some (23, 3, 3, 0, 593) := by decide +kernel
theorem dc_120_5 : decode (sm_cc 120) 5 = .ok (.aload_n 0, 1) := by decide +kernel
theorem dc_120_6 : decode (sm_cc 120) 6 = .ok (.invokevirtual 41, 3) := by decide +kernel
theorem ow_40 : 3 = sm_ow 40 := by decide +kernel
theorem kr_120_41 : sm_at mt_k (sm_ow 120) 41 = some (41, 0, 40, 0, 977) := by decide +kernel
theorem np_40 : sm_np 40 = 0 := by decide +kernel
theorem dc_120_9 : decode (sm_cc 120) 9 = .ok (.return_, 1) := by decide +kernel
theorem rt_120 : sm_rt 120 = none := by decide +kernel
theorem ml_120 : sm_ml 120 = 2 := by decide +kernel
theorem dc_75_0 : decode (sm_cc 75) 0 = .ok (.aload_n 0, 1) := by decide +kernel
theorem dc_75_1 : decode (sm_cc 75) 1 = .ok (.getfield 38, 3) := by decide +kernel
theorem fr_75_38 : sm_at mt_f (sm_ow 75) 38 = some (38, 3, 5, 0, 597) := by decide +kernel
theorem dc_75_4 : decode (sm_cc 75) 4 = .ok (.iload_n 1, 1) := by decide +kernel
theorem dc_75_5 : decode (sm_cc 75) 5 = .ok (.if_icmp .eq (7), 3) := by decide +kernel
theorem dc_75_12 : decode (sm_cc 75) 12 = .ok (.aload_n 0, 1) := by decide +kernel
theorem dc_75_13 : decode (sm_cc 75) 13 = .ok (.invokevirtual 41, 3) := by decide +kernel
theorem kr_75_41 : sm_at mt_k (sm_ow 75) 41 = some (41, 0, 40, 0, 977) := by decide +kernel
theorem dc_75_16 : decode (sm_cc 75) 16 = .ok (.return_, 1) := by decide +kernel
theorem rt_75 : sm_rt 75 = none := by decide +kernel
theorem ml_75 : sm_ml 75 = 2 := by decide +kernel
theorem dc_75_8 : decode (sm_cc 75) 8 = .ok (.aload_n 0, 1) := by decide +kernel
theorem dc_75_9 : decode (sm_cc 75) 9 = .ok (.invokevirtual 44, 3) := by decide +kernel
theorem kr_75_44 : sm_at mt_k (sm_ow 75) 44 = some (44, 0, 44, 0, 992) := by decide +kernel
theorem dc_86_0 : decode (sm_cc 86) 0 = .ok (.aload_n 0, 1) := by decide +kernel
theorem dc_86_1 : decode (sm_cc 86) 1 = .ok (.getfield 38, 3) := by decide +kernel
theorem fr_86_38 : sm_at mt_f (sm_ow 86) 38 = some (38, 3, 5, 0, 597) := by decide +kernel
theorem dc_86_4 : decode (sm_cc 86) 4 = .ok (.iconst 2, 1) := by decide +kernel
theorem dc_86_5 : decode (sm_cc 86) 5 = .ok (.if_icmp .eq (8), 3) := by decide +kernel
theorem dc_86_8 : decode (sm_cc 86) 8 = .ok (.aload_n 0, 1) := by decide +kernel
theorem dc_86_9 : decode (sm_cc 86) 9 = .ok (.invokevirtual 44, 3) := by decide +kernel
theorem kr_86_44 : sm_at mt_k (sm_ow 86) 44 = some (44, 0, 44, 0, 992) := by decide +kernel
theorem dc_86_12 : decode (sm_cc 86) 12 = .ok (.return_, 1) := by decide +kernel
theorem rt_86 : sm_rt 86 = none := by decide +kernel
theorem ml_86 : sm_ml 86 = 1 := by decide +kernel
theorem dc_36_2 : decode (sm_cc 36) 2 = .ok (.iload_n 1, 1) := by decide +kernel
theorem dc_36_3 : decode (sm_cc 36) 3 = .ok (.aload_n 0, 1) := by decide +kernel
theorem dc_36_4 : decode (sm_cc 36) 4 = .ok (.getfield 19, 3) := by decide +kernel
theorem fr_36_19 : sm_at mt_f (sm_ow 36) 19 = some (19, 3, 2, 0, 592) := by decide +kernel
theorem dc_36_7 : decode (sm_cc 36) 7 = .ok (.if_icmp .gt (86), 3) := by decide +kernel
theorem dc_36_10 : decode (sm_cc 36) 10 = .ok (.aload_n 0, 1) := by decide +kernel
theorem dc_36_11 : decode (sm_cc 36) 11 = .ok (.getfield 23, 3) := by decide +kernel
theorem fr_36_23 : sm_at mt_f (sm_ow 36) 23 = some (23, 3, 3, 0, 593) := by decide +kernel
theorem dc_36_14 : decode (sm_cc 36) 14 = .ok (.istore_n 2, 1) := by decide +kernel
theorem ml_36 : sm_ml 36 = 3 := by decide +kernel
theorem dc_36_15 : decode (sm_cc 36) 15 = .ok (.aload_n 0, 1) := by decide +kernel
theorem dc_36_16 : decode (sm_cc 36) 16 = .ok (.invokevirtual 54, 3) := by decide +kernel
theorem kr_36_54 : sm_at mt_k (sm_ow 36) 54 = some (54, 0, 37, 0, 965) := by decide +kernel
theorem dc_36_19 : decode (sm_cc 36) 19 = .ok (.aload_n 0, 1) := by decide +kernel
theorem dc_36_20 : decode (sm_cc 36) 20 = .ok (.getfield 23, 3) := by decide +kernel
theorem dc_36_23 : decode (sm_cc 36) 23 = .ok (.aload_n 0, 1) := by decide +kernel
theorem dc_36_24 : decode (sm_cc 36) 24 = .ok (.getfield 19, 3) := by decide +kernel
theorem dc_36_27 : decode (sm_cc 36) 27 = .ok (.if_icmp .lt (6), 3) := by decide +kernel
theorem dc_36_30 : decode (sm_cc 36) 30 = .ok (.goto (63), 3) := by decide +kernel
theorem dc_36_93 : decode (sm_cc 36) 93 = .ok (.aload_n 0, 1) := by decide +kernel
theorem dc_36_94 : decode (sm_cc 36) 94 = .ok (.iconst 1, 1) := by decide +kernel
theorem dc_36_95 : decode (sm_cc 36) 95 = .ok (.putfield 38, 3) := by decide +kernel
theorem fr_36_38 : sm_at mt_f (sm_ow 36) 38 = some (38, 3, 5, 0, 597) := by decide +kernel
theorem dc_36_98 : decode (sm_cc 36) 98 = .ok (.aload_n 0, 1) := by decide +kernel
theorem dc_36_99 : decode (sm_cc 36) 99 = .ok (.iconst (-1), 1) := by decide +kernel
theorem dc_36_100 : decode (sm_cc 36) 100 = .ok (.putfield 57, 3) := by decide +kernel
theorem fr_36_57 : sm_at mt_f (sm_ow 36) 57 = some (57, 3, 8, 0, 603) := by decide +kernel
theorem dc_36_103 : decode (sm_cc 36) 103 = .ok (.return_, 1) := by decide +kernel
theorem rt_36 : sm_rt 36 = none := by decide +kernel
theorem dc_36_33 : decode (sm_cc 36) 33 = .ok (.aload_n 0, 1) := by decide +kernel
theorem dc_36_34 : decode (sm_cc 36) 34 = .ok (.aload_n 0, 1) := by decide +kernel
theorem dc_36_35 : decode (sm_cc 36) 35 = .ok (.getfield 23, 3) := by decide +kernel
theorem dc_36_38 : decode (sm_cc 36) 38 = .ok (.invokevirtual 50, 3) := by decide +kernel
theorem kr_36_50 : sm_at mt_k (sm_ow 36) 50 = some (50, 0, 38, 0, 969) := by decide +kernel
theorem dc_36_41 : decode (sm_cc 36) 41 = .ok (.bipush (10), 2) := by decide +kernel
theorem dc_36_43 : decode (sm_cc 36) 43 = .ok (.if_icmp .eq (40), 3) := by decide +kernel
theorem dc_36_46 : decode (sm_cc 36) 46 = .ok (.aload_n 0, 1) := by decide +kernel
theorem dc_36_47 : decode (sm_cc 36) 47 = .ok (.aload_n 0, 1) := by decide +kernel
theorem dc_36_48 : decode (sm_cc 36) 48 = .ok (.getfield 23, 3) := by decide +kernel
theorem dc_36_51 : decode (sm_cc 36) 51 = .ok (.invokevirtual 50, 3) := by decide +kernel
theorem dc_36_54 : decode (sm_cc 36) 54 = .ok (.bipush (35), 2) := by decide +kernel
theorem dc_36_56 : decode (sm_cc 36) 56 = .ok (.if_icmp .eq (27), 3) := by decide +kernel
theorem dc_36_59 : decode (sm_cc 36) 59 = .ok (.aload_n 0, 1) := by decide +kernel
theorem dc_36_60 : decode (sm_cc 36) 60 = .ok (.aload_n 0, 1) := by decide +kernel
theorem dc_36_61 : decode (sm_cc 36) 61 = .ok (.getfield 32, 3) := by decide +kernel
theorem fr_36_32 : sm_at mt_f (sm_ow 36) 32 = some (32, 3, 7, 0, 601) := by decide +kernel
theorem dc_36_64 : decode (sm_cc 36) 64 = .ok (.putfield 29, 3) := by decide +kernel
theorem fr_36_29 : sm_at mt_f (sm_ow 36) 29 = some (29, 3, 6, 0, 599) := by decide +kernel
theorem dc_36_67 : decode (sm_cc 36) 67 = .ok (.aload_n 0, 1) := by decide +kernel
theorem dc_36_68 : decode (sm_cc 36) 68 = .ok (.aload_n 0, 1) := by decide +kernel
theorem dc_36_69 : decode (sm_cc 36) 69 = .ok (.getfield 23, 3) := by decide +kernel
theorem dc_36_72 : decode (sm_cc 36) 72 = .ok (.iload_n 2, 1) := by decide +kernel
theorem dc_36_73 : decode (sm_cc 36) 73 = .ok (.isub, 1) := by decide +kernel
theorem dc_36_74 : decode (sm_cc 36) 74 = .ok (.putfield 57, 3) := by decide +kernel
theorem dc_36_77 : decode (sm_cc 36) 77 = .ok (.aload_n 0, 1) := by decide +kernel
theorem dc_36_78 : decode (sm_cc 36) 78 = .ok (.iconst 2, 1) := by decide +kernel
theorem dc_36_79 : decode (sm_cc 36) 79 = .ok (.putfield 38, 3) := by decide +kernel
theorem dc_36_82 : decode (sm_cc 36) 82 = .ok (.return_, 1) := by decide +kernel
/-- what fails: from here on nothing can stand -/
def c_fail (S : cS) : cS := wI 3105 (nI 0) (if sI S 3113 = 0 then wI 3113 (sI S 3106) S else S)
theorem fail_ev {d : Nat} {S : cS} : Ans (d + 1) 44 [.ref 31] S none (c_fail S) := by
  unfold c_fail
  split
  · rename_i h
    exact fail_new (l := 0) h
  · rename_i h
    exact fail_old h
theorem rJn {k i : Nat} (x : Int64) (S : cS) (h : i ≠ k) : sJ (wJ k x S) i = sJ S i := if_neg h
theorem c_nmH_J (k : Nat) (x : Int64) (S : cS) (p : Nat) : ∀ m, c_nmH (wJ k x S) p m = c_nmH S p m := by
  intro m
  induction m with
  | zero => rfl
  | succ m ih =>
    unfold c_nmH
    rw [ih, c_byte_J]
theorem c_nmL_J (k : Nat) (x : Int64) (S : cS) (p : Nat) : ∀ m, c_nmL (wJ k x S) p m = c_nmL S p m := by
  intro m
  induction m with
  | zero => rfl
  | succ m ih =>
    unfold c_nmL
    rw [ih, c_nmH_J, c_byte_J]
theorem readText_next {d n p m : Nat} {S : cS} (hM : n ≤ 3000) (hn : sI S 3102 = nI n) (hp : sI S 3103 = nI (p + m)) {hi lo : Int64} {x : Option Value} {Sf : cS} (hvH : sJ S 3111 = hi) (hvL : sJ S 3112 = lo) (hin : p + m < n) (hm : m < 15) (hlen : c_len hi = m) (h39 : c_byte S (p + m) ≠ 39) (h32 : 32 ≤ c_byte S (p + m)) (h126 : c_byte S (p + m) ≤ 126) (hB : Bod (d + 2) 46 31 [(1, .int (c_b S n (p + m + 1))), (0, .ref 31)] [] (wI 3103 (nI (p + m + 1)) (wJ 3111 (c_appHi hi (nI (c_byte S (p + m)))) (wJ 3112 (c_appLo hi lo (nI (c_byte S (p + m)))) S))) x Sf) : Bod (d + 2) 46 31 [(1, .int (c_b S n (p + m))), (0, .ref 31)] [] S x Sf := by
  obtain ⟨b, hb⟩ : ∃ b, c_byte S (p + m) = b := ⟨_, rfl⟩
  have hb2 : b < 256 := by rw [← hb]; exact (c_byte_eq S (p + m)).2
  have hb5 : c_b S n (p + m) = nI b := by
    unfold c_b
    rw [if_pos hin, hb]
  rw [hb] at h39 h32 h126 hB
  refine Bod.go dc_46_31 rfl ?_
  refine Bod.get dc_46_32 fr_46_23 (mk_31 _) rfl ?_
  refine Bod.eqI (nI (p + m)) (by first | assumption | rfl | exact congrArg nI (by omega) | (simp (disch := omega) only [rI, rIe, rA, rIA, rLA, rJA, rVI, rQI, rVA, rQA, upd_at,  rAI, rLI, rJI, nI_add, pk_sub, kc_0, kc_1, kc_2, kc_3, kc_4, kc_5, reduceIte, Nat.reduceEqDiff, Nat.add_zero, rI_hold, rI_hold, rL_hold, hn, hp]; done)) ?_
  refine Bod.go dc_46_35 rfl ?_
  refine Bod.get dc_46_36 fr_46_19 (mk_31 _) rfl ?_
  refine Bod.eqI (nI n) (by first | assumption | rfl | exact congrArg nI (by omega) | (simp (disch := omega) only [rI, rIe, rA, rIA, rLA, rJA, rVI, rQI, rVA, rQA, upd_at,  rAI, rLI, rJI, nI_add, pk_sub, kc_0, kc_1, kc_2, kc_3, kc_4, kc_5, reduceIte, Nat.reduceEqDiff, Nat.add_zero, rI_hold, rI_hold, rL_hold, hn, hp]; done)) ?_
  refine Bod.icF dc_46_39 rfl (k2_ge_F (p + m) n rfl rfl (by omega) (by omega)) ?_
  refine Bod.go dc_46_42 rfl ?_
  refine Bod.eqI (nI b) hb5 ?_
  refine Bod.bip 39 (by decide) dc_46_43 ?_
  refine Bod.icF dc_46_45 rfl (k2_eq_F (k_ne b 39 rfl rfl (by omega) (by omega) (by omega))) ?_
  refine Bod.go dc_46_48 rfl ?_
  refine Bod.eqI (nI b) hb5 ?_
  refine Bod.bip 32 (by decide) dc_46_49 ?_
  refine Bod.icF dc_46_51 rfl (k2_lt_F b 32 rfl rfl (by omega) (by omega)) ?_
  refine Bod.go dc_46_54 rfl ?_
  refine Bod.eqI (nI b) hb5 ?_
  refine Bod.bip 126 (by decide) dc_46_55 ?_
  refine Bod.icF dc_46_57 rfl (k2_gt_F b 126 rfl rfl (by omega) (by omega)) ?_
  refine Bod.go dc_46_60 rfl ?_
  refine Bod.get dc_46_61 fr_46_110 (mk_31 _) rfl ?_
  refine Bod.eqJ hi hvH ?_
  refine Bod.stat (r := []) dc_46_64 kr_46_116 (Or.inr rfl) (by rw [np_47]; rfl) (by rw [np_47]; rfl) (by rw [np_47]; exact Nat.le_of_ble_eq_true rfl) (Nat.le_of_ble_eq_true rfl) (lengthOf_ev (hi := hi) (n := m) hlen) ?_
  show Bod _ _ _ _ [_] _ _ _
  refine Bod.bip 15 (by decide) dc_46_67 ?_
  refine Bod.icT dc_46_69 rfl (k2_lt_T m 15 rfl rfl (by omega) (by omega)) ?_
  refine Bod.go dc_46_77 rfl ?_
  refine Bod.go dc_46_78 rfl ?_
  refine Bod.get dc_46_79 fr_46_110 (mk_31 _) rfl ?_
  refine Bod.eqJ hi hvH ?_
  refine Bod.go dc_46_82 rfl ?_
  refine Bod.get dc_46_83 fr_46_113 (mk_31 _) rfl ?_
  refine Bod.eqJ lo hvL ?_
  refine Bod.go dc_46_86 rfl ?_
  refine Bod.eqI (nI b) hb5 ?_
  refine Bod.stat (r := [_]) dc_46_87 kr_46_85 (Or.inr rfl) (by rw [np_16]; rfl) (by rw [np_16]; rfl) (by rw [np_16]; exact Nat.le_of_ble_eq_true rfl) (Nat.le_of_ble_eq_true rfl) (appLo_ev (hi := hi) (lo := lo) (b := nI b) (by rw [hlen]; omega)) ?_
  show Bod _ _ _ _ [_, _] _ _ _
  refine Bod.put dc_46_90 fr_46_113 (mk_31 _) (Nat.le_of_ble_eq_true rfl) pf_3_12 (st_3112 _ _) (mu_J _ _ _) ?_
  refine Bod.go dc_46_93 rfl ?_
  refine Bod.go dc_46_94 rfl ?_
  refine Bod.get dc_46_95 fr_46_110 (mk_31 _) rfl ?_
  refine Bod.eqJ hi ((rJn _ _ (by decide)).trans hvH) ?_
  refine Bod.go dc_46_98 rfl ?_
  refine Bod.eqI (nI b) hb5 ?_
  refine Bod.stat (r := [_]) dc_46_99 kr_46_89 (Or.inr rfl) (by rw [np_17]; rfl) (by rw [np_17]; rfl) (by rw [np_17]; exact Nat.le_of_ble_eq_true rfl) (Nat.le_of_ble_eq_true rfl) (appHi_ev (hi := hi) (b := nI b) (by rw [hlen]; omega)) ?_
  show Bod _ _ _ _ [_, _] _ _ _
  refine Bod.put dc_46_102 fr_46_110 (mk_31 _) (Nat.le_of_ble_eq_true rfl) pf_3_11 (st_3111 _ _) (mu_J _ _ _) ?_
  refine Bod.go dc_46_105 rfl ?_
  refine Bod.go dc_46_106 rfl ?_
  refine Bod.get dc_46_107 fr_46_23 (mk_31 _) rfl ?_
  refine Bod.eqI (nI (p + m)) (by first | (simp (disch := omega) only [rI, rIe, rA, rIA, rLA, rJA, rVI, rQI, rVA, rQA, upd_at,  rAI, rLI, rJI, nI_add, pk_sub, kc_0, kc_1, kc_2, kc_3, kc_4, kc_5, reduceIte, Nat.reduceEqDiff, Nat.add_zero, rI_hold, rI_hold, rL_hold, hn, hp]; done) | (simp (disch := omega) only [rI, rIe, rA, rIA, rLA, rJA, rVI, rQI, rVA, rQA, upd_at,  rAI, rLI, rJI, nI_add, pk_sub, kc_0, kc_1, kc_2, kc_3, kc_4, kc_5, reduceIte, Nat.reduceEqDiff, Nat.add_zero, rI_hold, rI_hold, rL_hold, hn, hp]; exact congrArg nI (by omega))) ?_
  refine Bod.ic 1 (by decide) dc_46_110 ?_
  refine Bod.addN (p + m + 1) (by omega) dc_46_111 ?_
  refine Bod.put dc_46_112 fr_46_23 (mk_31 _) (Nat.le_of_ble_eq_true rfl) pf_3_3 (st_3103 _ _) (mu_I _ _ _) ?_
  refine Bod.go dc_46_115 rfl ?_
  refine Bod.go dc_46_116 rfl ?_
  refine Bod.get dc_46_117 fr_46_23 (mk_31 _) rfl ?_
  refine Bod.eqI (nI (p + m + 1)) (by first | (simp (disch := omega) only [rI, rIe, rA, rIA, rLA, rJA, rVI, rQI, rVA, rQA, upd_at,  rAI, rLI, rJI, nI_add, pk_sub, kc_0, kc_1, kc_2, kc_3, kc_4, kc_5, reduceIte, Nat.reduceEqDiff, Nat.add_zero, rI_hold, rI_hold, rL_hold, hn, hp]; done) | (simp (disch := omega) only [rI, rIe, rA, rIA, rLA, rJA, rVI, rQI, rVA, rQA, upd_at,  rAI, rLI, rJI, nI_add, pk_sub, kc_0, kc_1, kc_2, kc_3, kc_4, kc_5, reduceIte, Nat.reduceEqDiff, Nat.add_zero, rI_hold, rI_hold, rL_hold, hn, hp]; exact congrArg nI (by omega))) ?_
  refine Bod.virt (r := []) dc_46_120 kr_46_50 ⟨Or.inl rfl, ow_38, cl_3⟩ (by rw [np_38]; rfl) (by rw [np_38]; rfl) (ob_of (mk_31 _)) (Nat.le_of_ble_eq_true rfl) (byteAt_b (n := n) (i := p + m + 1) (by first | (simp (disch := omega) only [rI, rIe, rA, rIA, rLA, rJA, rVI, rQI, rVA, rQA, upd_at,  rAI, rLI, rJI, nI_add, pk_sub, kc_0, kc_1, kc_2, kc_3, kc_4, kc_5, reduceIte, Nat.reduceEqDiff, Nat.add_zero, rI_hold, rI_hold, rL_hold, hn, hp]; done) | (simp (disch := omega) only [rI, rIe, rA, rIA, rLA, rJA, rVI, rQI, rVA, rQA, upd_at,  rAI, rLI, rJI, nI_add, pk_sub, kc_0, kc_1, kc_2, kc_3, kc_4, kc_5, reduceIte, Nat.reduceEqDiff, Nat.add_zero, rI_hold, rI_hold, rL_hold, hn, hp]; exact congrArg nI (by omega))) (by omega) (by omega)) ?_
  show Bod _ _ _ _ [_] _ _ _
  refine Bod.istn dc_46_123 (by rw [ml_46]; exact Nat.le_of_ble_eq_true rfl) ?_
  refine Bod.go dc_46_124 rfl ?_
  exact hB
theorem readText_quote {d n p m : Nat} {S : cS} (hM : n ≤ 3000) (hn : sI S 3102 = nI n) (hp : sI S 3103 = nI (p + m)) (hin : p + m < n) (h39 : c_byte S (p + m) = 39) : Bod (d + 2) 46 31 [(1, .int (c_b S n (p + m))), (0, .ref 31)] [] S none (wI 3105 (nI 5) (wI 3103 (nI (p + m + 1)) S)) := by
  obtain ⟨b, hb⟩ : ∃ b, c_byte S (p + m) = b := ⟨_, rfl⟩
  have hb2 : b < 256 := by rw [← hb]; exact (c_byte_eq S (p + m)).2
  have hb5 : c_b S n (p + m) = nI b := by
    unfold c_b
    rw [if_pos hin, hb]
  rw [hb] at h39
  refine Bod.go dc_46_31 rfl ?_
  refine Bod.get dc_46_32 fr_46_23 (mk_31 _) rfl ?_
  refine Bod.eqI (nI (p + m)) (by first | assumption | rfl | exact congrArg nI (by omega) | (simp (disch := omega) only [rI, rIe, rA, rIA, rLA, rJA, rVI, rQI, rVA, rQA, upd_at,  rAI, rLI, rJI, nI_add, pk_sub, kc_0, kc_1, kc_2, kc_3, kc_4, kc_5, reduceIte, Nat.reduceEqDiff, Nat.add_zero, rI_hold, rI_hold, rL_hold, hn, hp]; done)) ?_
  refine Bod.go dc_46_35 rfl ?_
  refine Bod.get dc_46_36 fr_46_19 (mk_31 _) rfl ?_
  refine Bod.eqI (nI n) (by first | assumption | rfl | exact congrArg nI (by omega) | (simp (disch := omega) only [rI, rIe, rA, rIA, rLA, rJA, rVI, rQI, rVA, rQA, upd_at,  rAI, rLI, rJI, nI_add, pk_sub, kc_0, kc_1, kc_2, kc_3, kc_4, kc_5, reduceIte, Nat.reduceEqDiff, Nat.add_zero, rI_hold, rI_hold, rL_hold, hn, hp]; done)) ?_
  refine Bod.icF dc_46_39 rfl (k2_ge_F (p + m) n rfl rfl (by omega) (by omega)) ?_
  refine Bod.go dc_46_42 rfl ?_
  refine Bod.eqI (nI b) hb5 ?_
  refine Bod.bip 39 (by decide) dc_46_43 ?_
  refine Bod.icT dc_46_45 rfl (k2_eq_T (k_eq b 39 rfl rfl (by omega))) ?_
  refine Bod.go dc_46_127 rfl ?_
  refine Bod.get dc_46_128 fr_46_23 (mk_31 _) rfl ?_
  refine Bod.eqI (nI (p + m)) (by first | assumption | rfl | exact congrArg nI (by omega) | (simp (disch := omega) only [rI, rIe, rA, rIA, rLA, rJA, rVI, rQI, rVA, rQA, upd_at,  rAI, rLI, rJI, nI_add, pk_sub, kc_0, kc_1, kc_2, kc_3, kc_4, kc_5, reduceIte, Nat.reduceEqDiff, Nat.add_zero, rI_hold, rI_hold, rL_hold, hn, hp]; done)) ?_
  refine Bod.go dc_46_131 rfl ?_
  refine Bod.get dc_46_132 fr_46_19 (mk_31 _) rfl ?_
  refine Bod.eqI (nI n) (by first | assumption | rfl | exact congrArg nI (by omega) | (simp (disch := omega) only [rI, rIe, rA, rIA, rLA, rJA, rVI, rQI, rVA, rQA, upd_at,  rAI, rLI, rJI, nI_add, pk_sub, kc_0, kc_1, kc_2, kc_3, kc_4, kc_5, reduceIte, Nat.reduceEqDiff, Nat.add_zero, rI_hold, rI_hold, rL_hold, hn, hp]; done)) ?_
  refine Bod.icT dc_46_135 rfl (k2_lt_T (p + m) n rfl rfl (by omega) (by omega)) ?_
  refine Bod.go dc_46_143 rfl ?_
  refine Bod.go dc_46_144 rfl ?_
  refine Bod.get dc_46_145 fr_46_23 (mk_31 _) rfl ?_
  refine Bod.eqI (nI (p + m)) (by first | assumption | rfl | exact congrArg nI (by omega) | (simp (disch := omega) only [rI, rIe, rA, rIA, rLA, rJA, rVI, rQI, rVA, rQA, upd_at,  rAI, rLI, rJI, nI_add, pk_sub, kc_0, kc_1, kc_2, kc_3, kc_4, kc_5, reduceIte, Nat.reduceEqDiff, Nat.add_zero, rI_hold, rI_hold, rL_hold, hn, hp]; done)) ?_
  refine Bod.ic 1 (by decide) dc_46_148 ?_
  refine Bod.addN (p + m + 1) (by omega) dc_46_149 ?_
  refine Bod.put dc_46_150 fr_46_23 (mk_31 _) (Nat.le_of_ble_eq_true rfl) pf_3_3 (st_3103 _ _) (mu_I _ _ _) ?_
  refine Bod.go dc_46_153 rfl ?_
  refine Bod.ic 5 (by decide) dc_46_154 ?_
  refine Bod.put dc_46_155 fr_46_38 (mk_31 _) (Nat.le_of_ble_eq_true rfl) pf_3_5 (st_3105 _ _) (mu_I _ _ _) ?_
  exact Bod.retV dc_46_158 rt_46
theorem readText_end {d n p m : Nat} {S : cS} (hM : n ≤ 3000) (hn : sI S 3102 = nI n) (hp : sI S 3103 = nI (p + m)) (hin : n = p + m) : Bod (d + 2) 46 31 [(1, .int (c_b S n (p + m))), (0, .ref 31)] [] S none (c_fail S) := by
  refine Bod.go dc_46_31 rfl ?_
  refine Bod.get dc_46_32 fr_46_23 (mk_31 _) rfl ?_
  refine Bod.eqI (nI (p + m)) (by first | assumption | rfl | exact congrArg nI (by omega) | (simp (disch := omega) only [rI, rIe, rA, rIA, rLA, rJA, rVI, rQI, rVA, rQA, upd_at,  rAI, rLI, rJI, nI_add, pk_sub, kc_0, kc_1, kc_2, kc_3, kc_4, kc_5, reduceIte, Nat.reduceEqDiff, Nat.add_zero, rI_hold, rI_hold, rL_hold, hn, hp]; done)) ?_
  refine Bod.go dc_46_35 rfl ?_
  refine Bod.get dc_46_36 fr_46_19 (mk_31 _) rfl ?_
  refine Bod.eqI (nI n) (by first | assumption | rfl | exact congrArg nI (by omega) | (simp (disch := omega) only [rI, rIe, rA, rIA, rLA, rJA, rVI, rQI, rVA, rQA, upd_at,  rAI, rLI, rJI, nI_add, pk_sub, kc_0, kc_1, kc_2, kc_3, kc_4, kc_5, reduceIte, Nat.reduceEqDiff, Nat.add_zero, rI_hold, rI_hold, rL_hold, hn, hp]; done)) ?_
  refine Bod.icT dc_46_39 rfl (k2_ge_T (p + m) n rfl rfl (by omega) (by omega)) ?_
  refine Bod.go dc_46_127 rfl ?_
  refine Bod.get dc_46_128 fr_46_23 (mk_31 _) rfl ?_
  refine Bod.eqI (nI (p + m)) (by first | assumption | rfl | exact congrArg nI (by omega) | (simp (disch := omega) only [rI, rIe, rA, rIA, rLA, rJA, rVI, rQI, rVA, rQA, upd_at,  rAI, rLI, rJI, nI_add, pk_sub, kc_0, kc_1, kc_2, kc_3, kc_4, kc_5, reduceIte, Nat.reduceEqDiff, Nat.add_zero, rI_hold, rI_hold, rL_hold, hn, hp]; done)) ?_
  refine Bod.go dc_46_131 rfl ?_
  refine Bod.get dc_46_132 fr_46_19 (mk_31 _) rfl ?_
  refine Bod.eqI (nI n) (by first | assumption | rfl | exact congrArg nI (by omega) | (simp (disch := omega) only [rI, rIe, rA, rIA, rLA, rJA, rVI, rQI, rVA, rQA, upd_at,  rAI, rLI, rJI, nI_add, pk_sub, kc_0, kc_1, kc_2, kc_3, kc_4, kc_5, reduceIte, Nat.reduceEqDiff, Nat.add_zero, rI_hold, rI_hold, rL_hold, hn, hp]; done)) ?_
  refine Bod.icF dc_46_135 rfl (k2_lt_F (p + m) n rfl rfl (by omega) (by omega)) ?_
  refine Bod.go dc_46_138 rfl ?_
  refine Bod.virt (r := []) dc_46_139 kr_46_44 ⟨Or.inl rfl, ow_44, cl_3⟩ (by rw [np_44]; rfl) (by rw [np_44]; rfl) (ob_of (mk_31 _)) (Nat.le_of_ble_eq_true rfl) (fail_ev  ) ?_
  show Bod _ _ _ _ [] _ _ _
  exact Bod.retV dc_46_142 rt_46
theorem readText_bad {d n p m : Nat} {S : cS} (hM : n ≤ 3000) (hn : sI S 3102 = nI n) (hp : sI S 3103 = nI (p + m)) (hin : p + m < n) (h : c_byte S (p + m) < 32 ∨ 126 < c_byte S (p + m)) : Bod (d + 2) 46 31 [(1, .int (c_b S n (p + m))), (0, .ref 31)] [] S none (c_fail S) := by
  obtain ⟨b, hb⟩ : ∃ b, c_byte S (p + m) = b := ⟨_, rfl⟩
  have hb2 : b < 256 := by rw [← hb]; exact (c_byte_eq S (p + m)).2
  have hb5 : c_b S n (p + m) = nI b := by
    unfold c_b
    rw [if_pos hin, hb]
  rw [hb] at h
  rcases h with h | h
  · skip
    refine Bod.go dc_46_31 rfl ?_
    refine Bod.get dc_46_32 fr_46_23 (mk_31 _) rfl ?_
    refine Bod.eqI (nI (p + m)) (by first | assumption | rfl | exact congrArg nI (by omega) | (simp (disch := omega) only [rI, rIe, rA, rIA, rLA, rJA, rVI, rQI, rVA, rQA, upd_at,  rAI, rLI, rJI, nI_add, pk_sub, kc_0, kc_1, kc_2, kc_3, kc_4, kc_5, reduceIte, Nat.reduceEqDiff, Nat.add_zero, rI_hold, rI_hold, rL_hold, hn, hp]; done)) ?_
    refine Bod.go dc_46_35 rfl ?_
    refine Bod.get dc_46_36 fr_46_19 (mk_31 _) rfl ?_
    refine Bod.eqI (nI n) (by first | assumption | rfl | exact congrArg nI (by omega) | (simp (disch := omega) only [rI, rIe, rA, rIA, rLA, rJA, rVI, rQI, rVA, rQA, upd_at,  rAI, rLI, rJI, nI_add, pk_sub, kc_0, kc_1, kc_2, kc_3, kc_4, kc_5, reduceIte, Nat.reduceEqDiff, Nat.add_zero, rI_hold, rI_hold, rL_hold, hn, hp]; done)) ?_
    refine Bod.icF dc_46_39 rfl (k2_ge_F (p + m) n rfl rfl (by omega) (by omega)) ?_
    refine Bod.go dc_46_42 rfl ?_
    refine Bod.eqI (nI b) hb5 ?_
    refine Bod.bip 39 (by decide) dc_46_43 ?_
    refine Bod.icF dc_46_45 rfl (k2_eq_F (k_ne b 39 rfl rfl (by omega) (by omega) (by omega))) ?_
    refine Bod.go dc_46_48 rfl ?_
    refine Bod.eqI (nI b) hb5 ?_
    refine Bod.bip 32 (by decide) dc_46_49 ?_
    refine Bod.icT dc_46_51 rfl (k2_lt_T b 32 rfl rfl (by omega) (by omega)) ?_
    refine Bod.go dc_46_72 rfl ?_
    refine Bod.virt (r := []) dc_46_73 kr_46_44 ⟨Or.inl rfl, ow_44, cl_3⟩ (by rw [np_44]; rfl) (by rw [np_44]; rfl) (ob_of (mk_31 _)) (Nat.le_of_ble_eq_true rfl) (fail_ev  ) ?_
    show Bod _ _ _ _ [] _ _ _
    exact Bod.retV dc_46_76 rt_46
  · skip
    refine Bod.go dc_46_31 rfl ?_
    refine Bod.get dc_46_32 fr_46_23 (mk_31 _) rfl ?_
    refine Bod.eqI (nI (p + m)) (by first | assumption | rfl | exact congrArg nI (by omega) | (simp (disch := omega) only [rI, rIe, rA, rIA, rLA, rJA, rVI, rQI, rVA, rQA, upd_at,  rAI, rLI, rJI, nI_add, pk_sub, kc_0, kc_1, kc_2, kc_3, kc_4, kc_5, reduceIte, Nat.reduceEqDiff, Nat.add_zero, rI_hold, rI_hold, rL_hold, hn, hp]; done)) ?_
    refine Bod.go dc_46_35 rfl ?_
    refine Bod.get dc_46_36 fr_46_19 (mk_31 _) rfl ?_
    refine Bod.eqI (nI n) (by first | assumption | rfl | exact congrArg nI (by omega) | (simp (disch := omega) only [rI, rIe, rA, rIA, rLA, rJA, rVI, rQI, rVA, rQA, upd_at,  rAI, rLI, rJI, nI_add, pk_sub, kc_0, kc_1, kc_2, kc_3, kc_4, kc_5, reduceIte, Nat.reduceEqDiff, Nat.add_zero, rI_hold, rI_hold, rL_hold, hn, hp]; done)) ?_
    refine Bod.icF dc_46_39 rfl (k2_ge_F (p + m) n rfl rfl (by omega) (by omega)) ?_
    refine Bod.go dc_46_42 rfl ?_
    refine Bod.eqI (nI b) hb5 ?_
    refine Bod.bip 39 (by decide) dc_46_43 ?_
    refine Bod.icF dc_46_45 rfl (k2_eq_F (k_ne b 39 rfl rfl (by omega) (by omega) (by omega))) ?_
    refine Bod.go dc_46_48 rfl ?_
    refine Bod.eqI (nI b) hb5 ?_
    refine Bod.bip 32 (by decide) dc_46_49 ?_
    refine Bod.icF dc_46_51 rfl (k2_lt_F b 32 rfl rfl (by omega) (by omega)) ?_
    refine Bod.go dc_46_54 rfl ?_
    refine Bod.eqI (nI b) hb5 ?_
    refine Bod.bip 126 (by decide) dc_46_55 ?_
    refine Bod.icT dc_46_57 rfl (k2_gt_T b 126 rfl rfl (by omega) (by omega)) ?_
    refine Bod.go dc_46_72 rfl ?_
    refine Bod.virt (r := []) dc_46_73 kr_46_44 ⟨Or.inl rfl, ow_44, cl_3⟩ (by rw [np_44]; rfl) (by rw [np_44]; rfl) (ob_of (mk_31 _)) (Nat.le_of_ble_eq_true rfl) (fail_ev  ) ?_
    show Bod _ _ _ _ [] _ _ _
    exact Bod.retV dc_46_76 rt_46
theorem readText_long {d n p m : Nat} {S : cS} (hM : n ≤ 3000) (hn : sI S 3102 = nI n) (hp : sI S 3103 = nI (p + m)) {hi : Int64} (hvH : sJ S 3111 = hi) (hlen : c_len hi = 15) (hin : p + m < n) (h39 : c_byte S (p + m) ≠ 39) (h32 : 32 ≤ c_byte S (p + m)) (h126 : c_byte S (p + m) ≤ 126) : Bod (d + 2) 46 31 [(1, .int (c_b S n (p + m))), (0, .ref 31)] [] S none (c_fail S) := by
  obtain ⟨b, hb⟩ : ∃ b, c_byte S (p + m) = b := ⟨_, rfl⟩
  have hb2 : b < 256 := by rw [← hb]; exact (c_byte_eq S (p + m)).2
  have hb5 : c_b S n (p + m) = nI b := by
    unfold c_b
    rw [if_pos hin, hb]
  rw [hb] at h39 h32 h126
  refine Bod.go dc_46_31 rfl ?_
  refine Bod.get dc_46_32 fr_46_23 (mk_31 _) rfl ?_
  refine Bod.eqI (nI (p + m)) (by first | assumption | rfl | exact congrArg nI (by omega) | (simp (disch := omega) only [rI, rIe, rA, rIA, rLA, rJA, rVI, rQI, rVA, rQA, upd_at,  rAI, rLI, rJI, nI_add, pk_sub, kc_0, kc_1, kc_2, kc_3, kc_4, kc_5, reduceIte, Nat.reduceEqDiff, Nat.add_zero, rI_hold, rI_hold, rL_hold, hn, hp]; done)) ?_
  refine Bod.go dc_46_35 rfl ?_
  refine Bod.get dc_46_36 fr_46_19 (mk_31 _) rfl ?_
  refine Bod.eqI (nI n) (by first | assumption | rfl | exact congrArg nI (by omega) | (simp (disch := omega) only [rI, rIe, rA, rIA, rLA, rJA, rVI, rQI, rVA, rQA, upd_at,  rAI, rLI, rJI, nI_add, pk_sub, kc_0, kc_1, kc_2, kc_3, kc_4, kc_5, reduceIte, Nat.reduceEqDiff, Nat.add_zero, rI_hold, rI_hold, rL_hold, hn, hp]; done)) ?_
  refine Bod.icF dc_46_39 rfl (k2_ge_F (p + m) n rfl rfl (by omega) (by omega)) ?_
  refine Bod.go dc_46_42 rfl ?_
  refine Bod.eqI (nI b) hb5 ?_
  refine Bod.bip 39 (by decide) dc_46_43 ?_
  refine Bod.icF dc_46_45 rfl (k2_eq_F (k_ne b 39 rfl rfl (by omega) (by omega) (by omega))) ?_
  refine Bod.go dc_46_48 rfl ?_
  refine Bod.eqI (nI b) hb5 ?_
  refine Bod.bip 32 (by decide) dc_46_49 ?_
  refine Bod.icF dc_46_51 rfl (k2_lt_F b 32 rfl rfl (by omega) (by omega)) ?_
  refine Bod.go dc_46_54 rfl ?_
  refine Bod.eqI (nI b) hb5 ?_
  refine Bod.bip 126 (by decide) dc_46_55 ?_
  refine Bod.icF dc_46_57 rfl (k2_gt_F b 126 rfl rfl (by omega) (by omega)) ?_
  refine Bod.go dc_46_60 rfl ?_
  refine Bod.get dc_46_61 fr_46_110 (mk_31 _) rfl ?_
  refine Bod.eqJ hi hvH ?_
  refine Bod.stat (r := []) dc_46_64 kr_46_116 (Or.inr rfl) (by rw [np_47]; rfl) (by rw [np_47]; rfl) (by rw [np_47]; exact Nat.le_of_ble_eq_true rfl) (Nat.le_of_ble_eq_true rfl) (lengthOf_ev (hi := hi) (n := 15) hlen) ?_
  show Bod _ _ _ _ [_] _ _ _
  refine Bod.bip 15 (by decide) dc_46_67 ?_
  refine Bod.icF dc_46_69 rfl (k2_lt_F 15 15 rfl rfl (by omega) (by omega)) ?_
  refine Bod.go dc_46_72 rfl ?_
  refine Bod.virt (r := []) dc_46_73 kr_46_44 ⟨Or.inl rfl, ow_44, cl_3⟩ (by rw [np_44]; rfl) (by rw [np_44]; rfl) (ob_of (mk_31 _)) (Nat.le_of_ble_eq_true rfl) (fail_ev  ) ?_
  show Bod _ _ _ _ [] _ _ _
  exact Bod.retV dc_46_76 rt_46
theorem goTo_ev {d : Nat} {S : cS} {x : Int32} {Sf : cS} (hR : Ans (d + 6) 40 [.ref 31] (wI 3103 x S) none Sf) : Ans (d + 7) 120 [.ref 31, .int x] S (none) (Sf) := by
  refine Ans.of (by rw [ml_120]; exact Nat.le_of_ble_eq_true rfl) ?_
  refine Bod.go dc_120_0 rfl ?_
  refine Bod.go dc_120_1 rfl ?_
  refine Bod.put dc_120_2 fr_120_23 (mk_31 _) (Nat.le_of_ble_eq_true rfl) pf_3_3 (st_3103 _ _) (mu_I _ _ _) ?_
  refine Bod.go dc_120_5 rfl ?_
  refine Bod.virt (r := []) dc_120_6 kr_120_41 ⟨Or.inl rfl, ow_40, cl_3⟩ (by rw [np_40]; rfl) (by rw [np_40]; rfl) (ob_of (mk_31 _)) (Nat.le_of_ble_eq_true rfl) (hR  ) ?_
  show Bod _ _ _ _ [] _ _ _
  exact Bod.retV dc_120_9 rt_120
theorem pass_ok {d : Nat} {S : cS} {t : Nat} {Sf : cS} (ht : sI S 3105 = nI t) (ht2 : t < 2 ^ 31) (hR : Ans (d + 6) 40 [.ref 31] S none Sf) : Ans (d + 7) 75 [.ref 31, .int (nI t)] S (none) (Sf) := by
  refine Ans.of (by rw [ml_75]; exact Nat.le_of_ble_eq_true rfl) ?_
  refine Bod.go dc_75_0 rfl ?_
  refine Bod.get dc_75_1 fr_75_38 (mk_31 _) rfl ?_
  refine Bod.eqI (nI t) (by first | assumption | rfl | exact congrArg nI (by omega) | (simp (disch := omega) only [rI, rIe, rA, rIA, rLA, rJA, rVI, rQI, rVA, rQA, upd_at,  rAI, rLI, rJI, nI_add, pk_sub, kc_0, kc_1, kc_2, kc_3, kc_4, kc_5, reduceIte, Nat.reduceEqDiff, Nat.add_zero, rI_hold, rI_hold, rL_hold, ht]; done)) ?_
  refine Bod.go dc_75_4 rfl ?_
  refine Bod.icT dc_75_5 rfl (k2_eq_T (k_eq t t rfl rfl (by omega))) ?_
  refine Bod.go dc_75_12 rfl ?_
  refine Bod.virt (r := []) dc_75_13 kr_75_41 ⟨Or.inl rfl, ow_40, cl_3⟩ (by rw [np_40]; rfl) (by rw [np_40]; rfl) (ob_of (mk_31 _)) (Nat.le_of_ble_eq_true rfl) (hR  ) ?_
  show Bod _ _ _ _ [] _ _ _
  exact Bod.retV dc_75_16 rt_75
theorem rI_fail (S : cS) : sI (c_fail S) 3105 = nI 0 := rIe _ _ _
theorem read_badF {d : Nat} {S : cS} : Ans (d + 1) 40 [.ref 31] (c_fail S) none (c_fail S) := read_bad (rI_fail S)
theorem pass_bad {d : Nat} {S : cS} {t : Nat} {u : Nat} (ht : sI S 3105 = nI t) (ht2 : t < 2 ^ 31) (hu : u < 2 ^ 31) (hne : t ≠ u) : Ans (d + 2) 75 [.ref 31, .int (nI u)] S (none) (c_fail S) := by
  refine Ans.of (by rw [ml_75]; exact Nat.le_of_ble_eq_true rfl) ?_
  refine Bod.go dc_75_0 rfl ?_
  refine Bod.get dc_75_1 fr_75_38 (mk_31 _) rfl ?_
  refine Bod.eqI (nI t) (by first | assumption | rfl | exact congrArg nI (by omega) | (simp (disch := omega) only [rI, rIe, rA, rIA, rLA, rJA, rVI, rQI, rVA, rQA, upd_at,  rAI, rLI, rJI, nI_add, pk_sub, kc_0, kc_1, kc_2, kc_3, kc_4, kc_5, reduceIte, Nat.reduceEqDiff, Nat.add_zero, rI_hold, rI_hold, rL_hold, ht]; done)) ?_
  refine Bod.go dc_75_4 rfl ?_
  refine Bod.icF dc_75_5 rfl (k2_eq_F (k_ne t u rfl rfl (by omega) (by omega) (by omega))) ?_
  refine Bod.go dc_75_8 rfl ?_
  refine Bod.virt (r := []) dc_75_9 kr_75_44 ⟨Or.inl rfl, ow_44, cl_3⟩ (by rw [np_44]; rfl) (by rw [np_44]; rfl) (ob_of (mk_31 _)) (Nat.le_of_ble_eq_true rfl) (fail_ev  ) ?_
  show Bod _ _ _ _ [] _ _ _
  refine Bod.go dc_75_12 rfl ?_
  refine Bod.virt (r := []) dc_75_13 kr_75_41 ⟨Or.inl rfl, ow_40, cl_3⟩ (by rw [np_40]; rfl) (by rw [np_40]; rfl) (ob_of (mk_31 _)) (Nat.le_of_ble_eq_true rfl) (read_badF  ) ?_
  show Bod _ _ _ _ [] _ _ _
  exact Bod.retV dc_75_16 rt_75
theorem nextLine_bad {d : Nat} {S : cS} {t : Nat} (ht : sI S 3105 = nI t) (ht2 : t < 2 ^ 31) (hne : t ≠ 2) : Ans (d + 2) 86 [.ref 31] S (none) (c_fail S) := by
  refine Ans.of (by rw [ml_86]; exact Nat.le_of_ble_eq_true rfl) ?_
  refine Bod.go dc_86_0 rfl ?_
  refine Bod.get dc_86_1 fr_86_38 (mk_31 _) rfl ?_
  refine Bod.eqI (nI t) (by first | assumption | rfl | exact congrArg nI (by omega) | (simp (disch := omega) only [rI, rIe, rA, rIA, rLA, rJA, rVI, rQI, rVA, rQA, upd_at,  rAI, rLI, rJI, nI_add, pk_sub, kc_0, kc_1, kc_2, kc_3, kc_4, kc_5, reduceIte, Nat.reduceEqDiff, Nat.add_zero, rI_hold, rI_hold, rL_hold, ht]; done)) ?_
  refine Bod.ic 2 (by decide) dc_86_4 ?_
  refine Bod.icF dc_86_5 rfl (k2_eq_F (k_ne t 2 rfl rfl (by omega) (by omega) (by omega))) ?_
  refine Bod.go dc_86_8 rfl ?_
  refine Bod.virt (r := []) dc_86_9 kr_86_44 ⟨Or.inl rfl, ow_44, cl_3⟩ (by rw [np_44]; rfl) (by rw [np_44]; rfl) (ob_of (mk_31 _)) (Nat.le_of_ble_eq_true rfl) (fail_ev  ) ?_
  show Bod _ _ _ _ [] _ _ _
  exact Bod.retV dc_86_12 rt_86
theorem findLine_end {d n p q t l : Nat} {S : cS} (hM : n ≤ 3000) (hn : sI S 3102 = nI n) (hp : sI S 3103 = nI p) (hl : sI S 3107 = nI l) (ht : t ≤ n) (hpq : p ≤ q) (hb : ∀ x, p ≤ x → x < q → c_byte S x = 32) (hq : q = n) (he : q = n ∨ c_byte S q ≠ 32) : Bod (d + 3) 36 2 [(1, .int (nI t)), (0, .ref 31)] [] S none (wI 3108 (Int32.ofInt (-1)) (wI 3105 (nI 1) (wI 3103 (nI q) S))) := by
  refine Bod.go dc_36_2 rfl ?_
  refine Bod.go dc_36_3 rfl ?_
  refine Bod.get dc_36_4 fr_36_19 (mk_31 _) rfl ?_
  refine Bod.eqI (nI n) (by first | assumption | rfl | exact congrArg nI (by omega) | (simp (disch := omega) only [rI, rIe, rA, rIA, rLA, rJA, rVI, rQI, rVA, rQA, upd_at,  rAI, rLI, rJI, nI_add, pk_sub, kc_0, kc_1, kc_2, kc_3, kc_4, kc_5, reduceIte, Nat.reduceEqDiff, Nat.add_zero, rI_hold, rI_hold, rL_hold, hn, hp, hl]; done)) ?_
  refine Bod.icF dc_36_7 rfl (k2_gt_F t n rfl rfl (by omega) (by omega)) ?_
  refine Bod.go dc_36_10 rfl ?_
  refine Bod.get dc_36_11 fr_36_23 (mk_31 _) rfl ?_
  refine Bod.eqI (nI p) (by first | assumption | rfl | exact congrArg nI (by omega) | (simp (disch := omega) only [rI, rIe, rA, rIA, rLA, rJA, rVI, rQI, rVA, rQA, upd_at,  rAI, rLI, rJI, nI_add, pk_sub, kc_0, kc_1, kc_2, kc_3, kc_4, kc_5, reduceIte, Nat.reduceEqDiff, Nat.add_zero, rI_hold, rI_hold, rL_hold, hn, hp, hl]; done)) ?_
  refine Bod.istn dc_36_14 (by rw [ml_36]; exact Nat.le_of_ble_eq_true rfl) ?_
  refine Bod.go dc_36_15 rfl ?_
  refine Bod.virt (r := []) dc_36_16 kr_36_54 ⟨Or.inl rfl, ow_37, cl_3⟩ (by rw [np_37]; rfl) (by rw [np_37]; rfl) (ob_of (mk_31 _)) (Nat.le_of_ble_eq_true rfl) (skipBlanks_ev (n := n) (p := p) (q := q) (by first | assumption | rfl | exact congrArg nI (by omega) | (simp (disch := omega) only [rI, rIe, rA, rIA, rLA, rJA, rVI, rQI, rVA, rQA, upd_at,  rAI, rLI, rJI, nI_add, pk_sub, kc_0, kc_1, kc_2, kc_3, kc_4, kc_5, reduceIte, Nat.reduceEqDiff, Nat.add_zero, rI_hold, rI_hold, rL_hold, hn, hp, hl]; done)) (by first | assumption | rfl | exact congrArg nI (by omega) | (simp (disch := omega) only [rI, rIe, rA, rIA, rLA, rJA, rVI, rQI, rVA, rQA, upd_at,  rAI, rLI, rJI, nI_add, pk_sub, kc_0, kc_1, kc_2, kc_3, kc_4, kc_5, reduceIte, Nat.reduceEqDiff, Nat.add_zero, rI_hold, rI_hold, rL_hold, hn, hp, hl]; done)) (by omega) (by omega) (by omega) hb he) ?_
  show Bod _ _ _ _ [] _ _ _
  refine Bod.go dc_36_19 rfl ?_
  refine Bod.get dc_36_20 fr_36_23 (mk_31 _) rfl ?_
  refine Bod.eqI (nI q) (by first | (simp (disch := omega) only [rI, rIe, rA, rIA, rLA, rJA, rVI, rQI, rVA, rQA, upd_at,  rAI, rLI, rJI, nI_add, pk_sub, kc_0, kc_1, kc_2, kc_3, kc_4, kc_5, reduceIte, Nat.reduceEqDiff, Nat.add_zero, rI_hold, rI_hold, rL_hold, hn, hp, hl]; done) | (simp (disch := omega) only [rI, rIe, rA, rIA, rLA, rJA, rVI, rQI, rVA, rQA, upd_at,  rAI, rLI, rJI, nI_add, pk_sub, kc_0, kc_1, kc_2, kc_3, kc_4, kc_5, reduceIte, Nat.reduceEqDiff, Nat.add_zero, rI_hold, rI_hold, rL_hold, hn, hp, hl]; exact congrArg nI (by omega))) ?_
  refine Bod.go dc_36_23 rfl ?_
  refine Bod.get dc_36_24 fr_36_19 (mk_31 _) rfl ?_
  refine Bod.eqI (nI n) (by first | (simp (disch := omega) only [rI, rIe, rA, rIA, rLA, rJA, rVI, rQI, rVA, rQA, upd_at,  rAI, rLI, rJI, nI_add, pk_sub, kc_0, kc_1, kc_2, kc_3, kc_4, kc_5, reduceIte, Nat.reduceEqDiff, Nat.add_zero, rI_hold, rI_hold, rL_hold, hn, hp, hl]; done) | (simp (disch := omega) only [rI, rIe, rA, rIA, rLA, rJA, rVI, rQI, rVA, rQA, upd_at,  rAI, rLI, rJI, nI_add, pk_sub, kc_0, kc_1, kc_2, kc_3, kc_4, kc_5, reduceIte, Nat.reduceEqDiff, Nat.add_zero, rI_hold, rI_hold, rL_hold, hn, hp, hl]; exact congrArg nI (by omega))) ?_
  refine Bod.icF dc_36_27 rfl (k2_lt_F q n rfl rfl (by omega) (by omega)) ?_
  refine Bod.go dc_36_30 rfl ?_
  refine Bod.go dc_36_93 rfl ?_
  refine Bod.ic 1 (by decide) dc_36_94 ?_
  refine Bod.put dc_36_95 fr_36_38 (mk_31 _) (Nat.le_of_ble_eq_true rfl) pf_3_5 (st_3105 _ _) (mu_I _ _ _) ?_
  refine Bod.go dc_36_98 rfl ?_
  refine Bod.go dc_36_99 rfl ?_
  refine Bod.put dc_36_100 fr_36_57 (mk_31 _) (Nat.le_of_ble_eq_true rfl) pf_3_8 (st_3108 _ _) (mu_I _ _ _) ?_
  exact Bod.retV dc_36_103 rt_36
theorem findLine_tok {d n p q t l : Nat} {S : cS} (hM : n ≤ 3000) (hn : sI S 3102 = nI n) (hp : sI S 3103 = nI p) (hl : sI S 3107 = nI l) (ht : t ≤ n) (hpq : p ≤ q) (hb : ∀ x, p ≤ x → x < q → c_byte S x = 32) {b : Nat} (hq : q < n) (he : q = n ∨ c_byte S q ≠ 32) (hbq : c_byte S q = b) (h10 : b ≠ 10) (h35 : b ≠ 35) : Bod (d + 3) 36 2 [(1, .int (nI t)), (0, .ref 31)] [] S none (wI 3105 (nI 2) (wI 3108 (nI (q - p)) (wI 3106 (nI l) (wI 3103 (nI q) S)))) := by
  have hbq2 : b < 256 := by rw [← hbq]; exact (c_byte_eq S q).2
  refine Bod.go dc_36_2 rfl ?_
  refine Bod.go dc_36_3 rfl ?_
  refine Bod.get dc_36_4 fr_36_19 (mk_31 _) rfl ?_
  refine Bod.eqI (nI n) (by first | assumption | rfl | exact congrArg nI (by omega) | (simp (disch := omega) only [rI, rIe, rA, rIA, rLA, rJA, rVI, rQI, rVA, rQA, upd_at,  rAI, rLI, rJI, nI_add, pk_sub, kc_0, kc_1, kc_2, kc_3, kc_4, kc_5, reduceIte, Nat.reduceEqDiff, Nat.add_zero, rI_hold, rI_hold, rL_hold, hn, hp, hl]; done)) ?_
  refine Bod.icF dc_36_7 rfl (k2_gt_F t n rfl rfl (by omega) (by omega)) ?_
  refine Bod.go dc_36_10 rfl ?_
  refine Bod.get dc_36_11 fr_36_23 (mk_31 _) rfl ?_
  refine Bod.eqI (nI p) (by first | assumption | rfl | exact congrArg nI (by omega) | (simp (disch := omega) only [rI, rIe, rA, rIA, rLA, rJA, rVI, rQI, rVA, rQA, upd_at,  rAI, rLI, rJI, nI_add, pk_sub, kc_0, kc_1, kc_2, kc_3, kc_4, kc_5, reduceIte, Nat.reduceEqDiff, Nat.add_zero, rI_hold, rI_hold, rL_hold, hn, hp, hl]; done)) ?_
  refine Bod.istn dc_36_14 (by rw [ml_36]; exact Nat.le_of_ble_eq_true rfl) ?_
  refine Bod.go dc_36_15 rfl ?_
  refine Bod.virt (r := []) dc_36_16 kr_36_54 ⟨Or.inl rfl, ow_37, cl_3⟩ (by rw [np_37]; rfl) (by rw [np_37]; rfl) (ob_of (mk_31 _)) (Nat.le_of_ble_eq_true rfl) (skipBlanks_ev (n := n) (p := p) (q := q) (by first | assumption | rfl | exact congrArg nI (by omega) | (simp (disch := omega) only [rI, rIe, rA, rIA, rLA, rJA, rVI, rQI, rVA, rQA, upd_at,  rAI, rLI, rJI, nI_add, pk_sub, kc_0, kc_1, kc_2, kc_3, kc_4, kc_5, reduceIte, Nat.reduceEqDiff, Nat.add_zero, rI_hold, rI_hold, rL_hold, hn, hp, hl]; done)) (by first | assumption | rfl | exact congrArg nI (by omega) | (simp (disch := omega) only [rI, rIe, rA, rIA, rLA, rJA, rVI, rQI, rVA, rQA, upd_at,  rAI, rLI, rJI, nI_add, pk_sub, kc_0, kc_1, kc_2, kc_3, kc_4, kc_5, reduceIte, Nat.reduceEqDiff, Nat.add_zero, rI_hold, rI_hold, rL_hold, hn, hp, hl]; done)) (by omega) (by omega) (by omega) hb he) ?_
  show Bod _ _ _ _ [] _ _ _
  refine Bod.go dc_36_19 rfl ?_
  refine Bod.get dc_36_20 fr_36_23 (mk_31 _) rfl ?_
  refine Bod.eqI (nI q) (by first | (simp (disch := omega) only [rI, rIe, rA, rIA, rLA, rJA, rVI, rQI, rVA, rQA, upd_at,  rAI, rLI, rJI, nI_add, pk_sub, kc_0, kc_1, kc_2, kc_3, kc_4, kc_5, reduceIte, Nat.reduceEqDiff, Nat.add_zero, rI_hold, rI_hold, rL_hold, hn, hp, hl]; done) | (simp (disch := omega) only [rI, rIe, rA, rIA, rLA, rJA, rVI, rQI, rVA, rQA, upd_at,  rAI, rLI, rJI, nI_add, pk_sub, kc_0, kc_1, kc_2, kc_3, kc_4, kc_5, reduceIte, Nat.reduceEqDiff, Nat.add_zero, rI_hold, rI_hold, rL_hold, hn, hp, hl]; exact congrArg nI (by omega))) ?_
  refine Bod.go dc_36_23 rfl ?_
  refine Bod.get dc_36_24 fr_36_19 (mk_31 _) rfl ?_
  refine Bod.eqI (nI n) (by first | (simp (disch := omega) only [rI, rIe, rA, rIA, rLA, rJA, rVI, rQI, rVA, rQA, upd_at,  rAI, rLI, rJI, nI_add, pk_sub, kc_0, kc_1, kc_2, kc_3, kc_4, kc_5, reduceIte, Nat.reduceEqDiff, Nat.add_zero, rI_hold, rI_hold, rL_hold, hn, hp, hl]; done) | (simp (disch := omega) only [rI, rIe, rA, rIA, rLA, rJA, rVI, rQI, rVA, rQA, upd_at,  rAI, rLI, rJI, nI_add, pk_sub, kc_0, kc_1, kc_2, kc_3, kc_4, kc_5, reduceIte, Nat.reduceEqDiff, Nat.add_zero, rI_hold, rI_hold, rL_hold, hn, hp, hl]; exact congrArg nI (by omega))) ?_
  refine Bod.icT dc_36_27 rfl (k2_lt_T q n rfl rfl (by omega) (by omega)) ?_
  refine Bod.go dc_36_33 rfl ?_
  refine Bod.go dc_36_34 rfl ?_
  refine Bod.get dc_36_35 fr_36_23 (mk_31 _) rfl ?_
  refine Bod.eqI (nI q) (by first | (simp (disch := omega) only [rI, rIe, rA, rIA, rLA, rJA, rVI, rQI, rVA, rQA, upd_at,  rAI, rLI, rJI, nI_add, pk_sub, kc_0, kc_1, kc_2, kc_3, kc_4, kc_5, reduceIte, Nat.reduceEqDiff, Nat.add_zero, rI_hold, rI_hold, rL_hold, hn, hp, hl]; done) | (simp (disch := omega) only [rI, rIe, rA, rIA, rLA, rJA, rVI, rQI, rVA, rQA, upd_at,  rAI, rLI, rJI, nI_add, pk_sub, kc_0, kc_1, kc_2, kc_3, kc_4, kc_5, reduceIte, Nat.reduceEqDiff, Nat.add_zero, rI_hold, rI_hold, rL_hold, hn, hp, hl]; exact congrArg nI (by omega))) ?_
  refine Bod.virt (r := []) dc_36_38 kr_36_50 ⟨Or.inl rfl, ow_38, cl_3⟩ (by rw [np_38]; rfl) (by rw [np_38]; rfl) (ob_of (mk_31 _)) (Nat.le_of_ble_eq_true rfl) (byteAt_n (n := n) (q := q) (b := b) (by first | (simp (disch := omega) only [rI, rIe, rA, rIA, rLA, rJA, rVI, rQI, rVA, rQA, upd_at,  rAI, rLI, rJI, nI_add, pk_sub, kc_0, kc_1, kc_2, kc_3, kc_4, kc_5, reduceIte, Nat.reduceEqDiff, Nat.add_zero, rI_hold, rI_hold, rL_hold, hn, hp, hl]; done) | (simp (disch := omega) only [rI, rIe, rA, rIA, rLA, rJA, rVI, rQI, rVA, rQA, upd_at,  rAI, rLI, rJI, nI_add, pk_sub, kc_0, kc_1, kc_2, kc_3, kc_4, kc_5, reduceIte, Nat.reduceEqDiff, Nat.add_zero, rI_hold, rI_hold, rL_hold, hn, hp, hl]; exact congrArg nI (by omega))) (by omega) (by omega) hbq) ?_
  show Bod _ _ _ _ [_] _ _ _
  refine Bod.bip 10 (by decide) dc_36_41 ?_
  refine Bod.icF dc_36_43 rfl (k2_eq_F (k_ne b 10 rfl rfl (by omega) (by omega) (by omega))) ?_
  refine Bod.go dc_36_46 rfl ?_
  refine Bod.go dc_36_47 rfl ?_
  refine Bod.get dc_36_48 fr_36_23 (mk_31 _) rfl ?_
  refine Bod.eqI (nI q) (by first | (simp (disch := omega) only [rI, rIe, rA, rIA, rLA, rJA, rVI, rQI, rVA, rQA, upd_at,  rAI, rLI, rJI, nI_add, pk_sub, kc_0, kc_1, kc_2, kc_3, kc_4, kc_5, reduceIte, Nat.reduceEqDiff, Nat.add_zero, rI_hold, rI_hold, rL_hold, hn, hp, hl]; done) | (simp (disch := omega) only [rI, rIe, rA, rIA, rLA, rJA, rVI, rQI, rVA, rQA, upd_at,  rAI, rLI, rJI, nI_add, pk_sub, kc_0, kc_1, kc_2, kc_3, kc_4, kc_5, reduceIte, Nat.reduceEqDiff, Nat.add_zero, rI_hold, rI_hold, rL_hold, hn, hp, hl]; exact congrArg nI (by omega))) ?_
  refine Bod.virt (r := []) dc_36_51 kr_36_50 ⟨Or.inl rfl, ow_38, cl_3⟩ (by rw [np_38]; rfl) (by rw [np_38]; rfl) (ob_of (mk_31 _)) (Nat.le_of_ble_eq_true rfl) (byteAt_n (n := n) (q := q) (b := b) (by first | (simp (disch := omega) only [rI, rIe, rA, rIA, rLA, rJA, rVI, rQI, rVA, rQA, upd_at,  rAI, rLI, rJI, nI_add, pk_sub, kc_0, kc_1, kc_2, kc_3, kc_4, kc_5, reduceIte, Nat.reduceEqDiff, Nat.add_zero, rI_hold, rI_hold, rL_hold, hn, hp, hl]; done) | (simp (disch := omega) only [rI, rIe, rA, rIA, rLA, rJA, rVI, rQI, rVA, rQA, upd_at,  rAI, rLI, rJI, nI_add, pk_sub, kc_0, kc_1, kc_2, kc_3, kc_4, kc_5, reduceIte, Nat.reduceEqDiff, Nat.add_zero, rI_hold, rI_hold, rL_hold, hn, hp, hl]; exact congrArg nI (by omega))) (by omega) (by omega) hbq) ?_
  show Bod _ _ _ _ [_] _ _ _
  refine Bod.bip 35 (by decide) dc_36_54 ?_
  refine Bod.icF dc_36_56 rfl (k2_eq_F (k_ne b 35 rfl rfl (by omega) (by omega) (by omega))) ?_
  refine Bod.go dc_36_59 rfl ?_
  refine Bod.go dc_36_60 rfl ?_
  refine Bod.get dc_36_61 fr_36_32 (mk_31 _) rfl ?_
  refine Bod.eqI (nI l) (by first | (simp (disch := omega) only [rI, rIe, rA, rIA, rLA, rJA, rVI, rQI, rVA, rQA, upd_at,  rAI, rLI, rJI, nI_add, pk_sub, kc_0, kc_1, kc_2, kc_3, kc_4, kc_5, reduceIte, Nat.reduceEqDiff, Nat.add_zero, rI_hold, rI_hold, rL_hold, hn, hp, hl]; done) | (simp (disch := omega) only [rI, rIe, rA, rIA, rLA, rJA, rVI, rQI, rVA, rQA, upd_at,  rAI, rLI, rJI, nI_add, pk_sub, kc_0, kc_1, kc_2, kc_3, kc_4, kc_5, reduceIte, Nat.reduceEqDiff, Nat.add_zero, rI_hold, rI_hold, rL_hold, hn, hp, hl]; exact congrArg nI (by omega))) ?_
  refine Bod.put dc_36_64 fr_36_29 (mk_31 _) (Nat.le_of_ble_eq_true rfl) pf_3_6 (st_3106 _ _) (mu_I _ _ _) ?_
  refine Bod.go dc_36_67 rfl ?_
  refine Bod.go dc_36_68 rfl ?_
  refine Bod.get dc_36_69 fr_36_23 (mk_31 _) rfl ?_
  refine Bod.eqI (nI q) (by first | (simp (disch := omega) only [rI, rIe, rA, rIA, rLA, rJA, rVI, rQI, rVA, rQA, upd_at,  rAI, rLI, rJI, nI_add, pk_sub, kc_0, kc_1, kc_2, kc_3, kc_4, kc_5, reduceIte, Nat.reduceEqDiff, Nat.add_zero, rI_hold, rI_hold, rL_hold, hn, hp, hl]; done) | (simp (disch := omega) only [rI, rIe, rA, rIA, rLA, rJA, rVI, rQI, rVA, rQA, upd_at,  rAI, rLI, rJI, nI_add, pk_sub, kc_0, kc_1, kc_2, kc_3, kc_4, kc_5, reduceIte, Nat.reduceEqDiff, Nat.add_zero, rI_hold, rI_hold, rL_hold, hn, hp, hl]; exact congrArg nI (by omega))) ?_
  refine Bod.go dc_36_72 rfl ?_
  refine Bod.subN (q - p) (by omega) (by omega) dc_36_73 ?_
  refine Bod.put dc_36_74 fr_36_57 (mk_31 _) (Nat.le_of_ble_eq_true rfl) pf_3_8 (st_3108 _ _) (mu_I _ _ _) ?_
  refine Bod.go dc_36_77 rfl ?_
  refine Bod.ic 2 (by decide) dc_36_78 ?_
  refine Bod.put dc_36_79 fr_36_38 (mk_31 _) (Nat.le_of_ble_eq_true rfl) pf_3_5 (st_3105 _ _) (mu_I _ _ _) ?_
  exact Bod.retV dc_36_82 rt_36
theorem findLine_end2 {d n p q t l : Nat} {S : cS} (hM : n ≤ 3000) (hn : sI S 3102 = nI n) (hp : sI S 3103 = nI p) (hl : sI S 3107 = nI l) (ht : t ≤ n) (hpq : p ≤ q) (hb : ∀ x, p ≤ x → x < q → c_byte S x = 32) {z : Int32} (hq : q = n) (he : q = n ∨ c_byte S q ≠ 32) : Bod (d + 3) 36 2 [(2, .int z), (1, .int (nI t)), (0, .ref 31)] [] S none (wI 3108 (Int32.ofInt (-1)) (wI 3105 (nI 1) (wI 3103 (nI q) S))) := by
  refine Bod.go dc_36_2 rfl ?_
  refine Bod.go dc_36_3 rfl ?_
  refine Bod.get dc_36_4 fr_36_19 (mk_31 _) rfl ?_
  refine Bod.eqI (nI n) (by first | assumption | rfl | exact congrArg nI (by omega) | (simp (disch := omega) only [rI, rIe, rA, rIA, rLA, rJA, rVI, rQI, rVA, rQA, upd_at,  rAI, rLI, rJI, nI_add, pk_sub, kc_0, kc_1, kc_2, kc_3, kc_4, kc_5, reduceIte, Nat.reduceEqDiff, Nat.add_zero, rI_hold, rI_hold, rL_hold, hn, hp, hl]; done)) ?_
  refine Bod.icF dc_36_7 rfl (k2_gt_F t n rfl rfl (by omega) (by omega)) ?_
  refine Bod.go dc_36_10 rfl ?_
  refine Bod.get dc_36_11 fr_36_23 (mk_31 _) rfl ?_
  refine Bod.eqI (nI p) (by first | assumption | rfl | exact congrArg nI (by omega) | (simp (disch := omega) only [rI, rIe, rA, rIA, rLA, rJA, rVI, rQI, rVA, rQA, upd_at,  rAI, rLI, rJI, nI_add, pk_sub, kc_0, kc_1, kc_2, kc_3, kc_4, kc_5, reduceIte, Nat.reduceEqDiff, Nat.add_zero, rI_hold, rI_hold, rL_hold, hn, hp, hl]; done)) ?_
  refine Bod.istn dc_36_14 (by rw [ml_36]; exact Nat.le_of_ble_eq_true rfl) ?_
  refine Bod.go dc_36_15 rfl ?_
  refine Bod.virt (r := []) dc_36_16 kr_36_54 ⟨Or.inl rfl, ow_37, cl_3⟩ (by rw [np_37]; rfl) (by rw [np_37]; rfl) (ob_of (mk_31 _)) (Nat.le_of_ble_eq_true rfl) (skipBlanks_ev (n := n) (p := p) (q := q) (by first | assumption | rfl | exact congrArg nI (by omega) | (simp (disch := omega) only [rI, rIe, rA, rIA, rLA, rJA, rVI, rQI, rVA, rQA, upd_at,  rAI, rLI, rJI, nI_add, pk_sub, kc_0, kc_1, kc_2, kc_3, kc_4, kc_5, reduceIte, Nat.reduceEqDiff, Nat.add_zero, rI_hold, rI_hold, rL_hold, hn, hp, hl]; done)) (by first | assumption | rfl | exact congrArg nI (by omega) | (simp (disch := omega) only [rI, rIe, rA, rIA, rLA, rJA, rVI, rQI, rVA, rQA, upd_at,  rAI, rLI, rJI, nI_add, pk_sub, kc_0, kc_1, kc_2, kc_3, kc_4, kc_5, reduceIte, Nat.reduceEqDiff, Nat.add_zero, rI_hold, rI_hold, rL_hold, hn, hp, hl]; done)) (by omega) (by omega) (by omega) hb he) ?_
  show Bod _ _ _ _ [] _ _ _
  refine Bod.go dc_36_19 rfl ?_
  refine Bod.get dc_36_20 fr_36_23 (mk_31 _) rfl ?_
  refine Bod.eqI (nI q) (by first | (simp (disch := omega) only [rI, rIe, rA, rIA, rLA, rJA, rVI, rQI, rVA, rQA, upd_at,  rAI, rLI, rJI, nI_add, pk_sub, kc_0, kc_1, kc_2, kc_3, kc_4, kc_5, reduceIte, Nat.reduceEqDiff, Nat.add_zero, rI_hold, rI_hold, rL_hold, hn, hp, hl]; done) | (simp (disch := omega) only [rI, rIe, rA, rIA, rLA, rJA, rVI, rQI, rVA, rQA, upd_at,  rAI, rLI, rJI, nI_add, pk_sub, kc_0, kc_1, kc_2, kc_3, kc_4, kc_5, reduceIte, Nat.reduceEqDiff, Nat.add_zero, rI_hold, rI_hold, rL_hold, hn, hp, hl]; exact congrArg nI (by omega))) ?_
  refine Bod.go dc_36_23 rfl ?_
  refine Bod.get dc_36_24 fr_36_19 (mk_31 _) rfl ?_
  refine Bod.eqI (nI n) (by first | (simp (disch := omega) only [rI, rIe, rA, rIA, rLA, rJA, rVI, rQI, rVA, rQA, upd_at,  rAI, rLI, rJI, nI_add, pk_sub, kc_0, kc_1, kc_2, kc_3, kc_4, kc_5, reduceIte, Nat.reduceEqDiff, Nat.add_zero, rI_hold, rI_hold, rL_hold, hn, hp, hl]; done) | (simp (disch := omega) only [rI, rIe, rA, rIA, rLA, rJA, rVI, rQI, rVA, rQA, upd_at,  rAI, rLI, rJI, nI_add, pk_sub, kc_0, kc_1, kc_2, kc_3, kc_4, kc_5, reduceIte, Nat.reduceEqDiff, Nat.add_zero, rI_hold, rI_hold, rL_hold, hn, hp, hl]; exact congrArg nI (by omega))) ?_
  refine Bod.icF dc_36_27 rfl (k2_lt_F q n rfl rfl (by omega) (by omega)) ?_
  refine Bod.go dc_36_30 rfl ?_
  refine Bod.go dc_36_93 rfl ?_
  refine Bod.ic 1 (by decide) dc_36_94 ?_
  refine Bod.put dc_36_95 fr_36_38 (mk_31 _) (Nat.le_of_ble_eq_true rfl) pf_3_5 (st_3105 _ _) (mu_I _ _ _) ?_
  refine Bod.go dc_36_98 rfl ?_
  refine Bod.go dc_36_99 rfl ?_
  refine Bod.put dc_36_100 fr_36_57 (mk_31 _) (Nat.le_of_ble_eq_true rfl) pf_3_8 (st_3108 _ _) (mu_I _ _ _) ?_
  exact Bod.retV dc_36_103 rt_36
theorem findLine_tok2 {d n p q t l : Nat} {S : cS} (hM : n ≤ 3000) (hn : sI S 3102 = nI n) (hp : sI S 3103 = nI p) (hl : sI S 3107 = nI l) (ht : t ≤ n) (hpq : p ≤ q) (hb : ∀ x, p ≤ x → x < q → c_byte S x = 32) {z : Int32} {b : Nat} (hq : q < n) (he : q = n ∨ c_byte S q ≠ 32) (hbq : c_byte S q = b) (h10 : b ≠ 10) (h35 : b ≠ 35) : Bod (d + 3) 36 2 [(2, .int z), (1, .int (nI t)), (0, .ref 31)] [] S none (wI 3105 (nI 2) (wI 3108 (nI (q - p)) (wI 3106 (nI l) (wI 3103 (nI q) S)))) := by
  have hbq2 : b < 256 := by rw [← hbq]; exact (c_byte_eq S q).2
  refine Bod.go dc_36_2 rfl ?_
  refine Bod.go dc_36_3 rfl ?_
  refine Bod.get dc_36_4 fr_36_19 (mk_31 _) rfl ?_
  refine Bod.eqI (nI n) (by first | assumption | rfl | exact congrArg nI (by omega) | (simp (disch := omega) only [rI, rIe, rA, rIA, rLA, rJA, rVI, rQI, rVA, rQA, upd_at,  rAI, rLI, rJI, nI_add, pk_sub, kc_0, kc_1, kc_2, kc_3, kc_4, kc_5, reduceIte, Nat.reduceEqDiff, Nat.add_zero, rI_hold, rI_hold, rL_hold, hn, hp, hl]; done)) ?_
  refine Bod.icF dc_36_7 rfl (k2_gt_F t n rfl rfl (by omega) (by omega)) ?_
  refine Bod.go dc_36_10 rfl ?_
  refine Bod.get dc_36_11 fr_36_23 (mk_31 _) rfl ?_
  refine Bod.eqI (nI p) (by first | assumption | rfl | exact congrArg nI (by omega) | (simp (disch := omega) only [rI, rIe, rA, rIA, rLA, rJA, rVI, rQI, rVA, rQA, upd_at,  rAI, rLI, rJI, nI_add, pk_sub, kc_0, kc_1, kc_2, kc_3, kc_4, kc_5, reduceIte, Nat.reduceEqDiff, Nat.add_zero, rI_hold, rI_hold, rL_hold, hn, hp, hl]; done)) ?_
  refine Bod.istn dc_36_14 (by rw [ml_36]; exact Nat.le_of_ble_eq_true rfl) ?_
  refine Bod.go dc_36_15 rfl ?_
  refine Bod.virt (r := []) dc_36_16 kr_36_54 ⟨Or.inl rfl, ow_37, cl_3⟩ (by rw [np_37]; rfl) (by rw [np_37]; rfl) (ob_of (mk_31 _)) (Nat.le_of_ble_eq_true rfl) (skipBlanks_ev (n := n) (p := p) (q := q) (by first | assumption | rfl | exact congrArg nI (by omega) | (simp (disch := omega) only [rI, rIe, rA, rIA, rLA, rJA, rVI, rQI, rVA, rQA, upd_at,  rAI, rLI, rJI, nI_add, pk_sub, kc_0, kc_1, kc_2, kc_3, kc_4, kc_5, reduceIte, Nat.reduceEqDiff, Nat.add_zero, rI_hold, rI_hold, rL_hold, hn, hp, hl]; done)) (by first | assumption | rfl | exact congrArg nI (by omega) | (simp (disch := omega) only [rI, rIe, rA, rIA, rLA, rJA, rVI, rQI, rVA, rQA, upd_at,  rAI, rLI, rJI, nI_add, pk_sub, kc_0, kc_1, kc_2, kc_3, kc_4, kc_5, reduceIte, Nat.reduceEqDiff, Nat.add_zero, rI_hold, rI_hold, rL_hold, hn, hp, hl]; done)) (by omega) (by omega) (by omega) hb he) ?_
  show Bod _ _ _ _ [] _ _ _
  refine Bod.go dc_36_19 rfl ?_
  refine Bod.get dc_36_20 fr_36_23 (mk_31 _) rfl ?_
  refine Bod.eqI (nI q) (by first | (simp (disch := omega) only [rI, rIe, rA, rIA, rLA, rJA, rVI, rQI, rVA, rQA, upd_at,  rAI, rLI, rJI, nI_add, pk_sub, kc_0, kc_1, kc_2, kc_3, kc_4, kc_5, reduceIte, Nat.reduceEqDiff, Nat.add_zero, rI_hold, rI_hold, rL_hold, hn, hp, hl]; done) | (simp (disch := omega) only [rI, rIe, rA, rIA, rLA, rJA, rVI, rQI, rVA, rQA, upd_at,  rAI, rLI, rJI, nI_add, pk_sub, kc_0, kc_1, kc_2, kc_3, kc_4, kc_5, reduceIte, Nat.reduceEqDiff, Nat.add_zero, rI_hold, rI_hold, rL_hold, hn, hp, hl]; exact congrArg nI (by omega))) ?_
  refine Bod.go dc_36_23 rfl ?_
  refine Bod.get dc_36_24 fr_36_19 (mk_31 _) rfl ?_
  refine Bod.eqI (nI n) (by first | (simp (disch := omega) only [rI, rIe, rA, rIA, rLA, rJA, rVI, rQI, rVA, rQA, upd_at,  rAI, rLI, rJI, nI_add, pk_sub, kc_0, kc_1, kc_2, kc_3, kc_4, kc_5, reduceIte, Nat.reduceEqDiff, Nat.add_zero, rI_hold, rI_hold, rL_hold, hn, hp, hl]; done) | (simp (disch := omega) only [rI, rIe, rA, rIA, rLA, rJA, rVI, rQI, rVA, rQA, upd_at,  rAI, rLI, rJI, nI_add, pk_sub, kc_0, kc_1, kc_2, kc_3, kc_4, kc_5, reduceIte, Nat.reduceEqDiff, Nat.add_zero, rI_hold, rI_hold, rL_hold, hn, hp, hl]; exact congrArg nI (by omega))) ?_
  refine Bod.icT dc_36_27 rfl (k2_lt_T q n rfl rfl (by omega) (by omega)) ?_
  refine Bod.go dc_36_33 rfl ?_
  refine Bod.go dc_36_34 rfl ?_
  refine Bod.get dc_36_35 fr_36_23 (mk_31 _) rfl ?_
  refine Bod.eqI (nI q) (by first | (simp (disch := omega) only [rI, rIe, rA, rIA, rLA, rJA, rVI, rQI, rVA, rQA, upd_at,  rAI, rLI, rJI, nI_add, pk_sub, kc_0, kc_1, kc_2, kc_3, kc_4, kc_5, reduceIte, Nat.reduceEqDiff, Nat.add_zero, rI_hold, rI_hold, rL_hold, hn, hp, hl]; done) | (simp (disch := omega) only [rI, rIe, rA, rIA, rLA, rJA, rVI, rQI, rVA, rQA, upd_at,  rAI, rLI, rJI, nI_add, pk_sub, kc_0, kc_1, kc_2, kc_3, kc_4, kc_5, reduceIte, Nat.reduceEqDiff, Nat.add_zero, rI_hold, rI_hold, rL_hold, hn, hp, hl]; exact congrArg nI (by omega))) ?_
  refine Bod.virt (r := []) dc_36_38 kr_36_50 ⟨Or.inl rfl, ow_38, cl_3⟩ (by rw [np_38]; rfl) (by rw [np_38]; rfl) (ob_of (mk_31 _)) (Nat.le_of_ble_eq_true rfl) (byteAt_n (n := n) (q := q) (b := b) (by first | (simp (disch := omega) only [rI, rIe, rA, rIA, rLA, rJA, rVI, rQI, rVA, rQA, upd_at,  rAI, rLI, rJI, nI_add, pk_sub, kc_0, kc_1, kc_2, kc_3, kc_4, kc_5, reduceIte, Nat.reduceEqDiff, Nat.add_zero, rI_hold, rI_hold, rL_hold, hn, hp, hl]; done) | (simp (disch := omega) only [rI, rIe, rA, rIA, rLA, rJA, rVI, rQI, rVA, rQA, upd_at,  rAI, rLI, rJI, nI_add, pk_sub, kc_0, kc_1, kc_2, kc_3, kc_4, kc_5, reduceIte, Nat.reduceEqDiff, Nat.add_zero, rI_hold, rI_hold, rL_hold, hn, hp, hl]; exact congrArg nI (by omega))) (by omega) (by omega) hbq) ?_
  show Bod _ _ _ _ [_] _ _ _
  refine Bod.bip 10 (by decide) dc_36_41 ?_
  refine Bod.icF dc_36_43 rfl (k2_eq_F (k_ne b 10 rfl rfl (by omega) (by omega) (by omega))) ?_
  refine Bod.go dc_36_46 rfl ?_
  refine Bod.go dc_36_47 rfl ?_
  refine Bod.get dc_36_48 fr_36_23 (mk_31 _) rfl ?_
  refine Bod.eqI (nI q) (by first | (simp (disch := omega) only [rI, rIe, rA, rIA, rLA, rJA, rVI, rQI, rVA, rQA, upd_at,  rAI, rLI, rJI, nI_add, pk_sub, kc_0, kc_1, kc_2, kc_3, kc_4, kc_5, reduceIte, Nat.reduceEqDiff, Nat.add_zero, rI_hold, rI_hold, rL_hold, hn, hp, hl]; done) | (simp (disch := omega) only [rI, rIe, rA, rIA, rLA, rJA, rVI, rQI, rVA, rQA, upd_at,  rAI, rLI, rJI, nI_add, pk_sub, kc_0, kc_1, kc_2, kc_3, kc_4, kc_5, reduceIte, Nat.reduceEqDiff, Nat.add_zero, rI_hold, rI_hold, rL_hold, hn, hp, hl]; exact congrArg nI (by omega))) ?_
  refine Bod.virt (r := []) dc_36_51 kr_36_50 ⟨Or.inl rfl, ow_38, cl_3⟩ (by rw [np_38]; rfl) (by rw [np_38]; rfl) (ob_of (mk_31 _)) (Nat.le_of_ble_eq_true rfl) (byteAt_n (n := n) (q := q) (b := b) (by first | (simp (disch := omega) only [rI, rIe, rA, rIA, rLA, rJA, rVI, rQI, rVA, rQA, upd_at,  rAI, rLI, rJI, nI_add, pk_sub, kc_0, kc_1, kc_2, kc_3, kc_4, kc_5, reduceIte, Nat.reduceEqDiff, Nat.add_zero, rI_hold, rI_hold, rL_hold, hn, hp, hl]; done) | (simp (disch := omega) only [rI, rIe, rA, rIA, rLA, rJA, rVI, rQI, rVA, rQA, upd_at,  rAI, rLI, rJI, nI_add, pk_sub, kc_0, kc_1, kc_2, kc_3, kc_4, kc_5, reduceIte, Nat.reduceEqDiff, Nat.add_zero, rI_hold, rI_hold, rL_hold, hn, hp, hl]; exact congrArg nI (by omega))) (by omega) (by omega) hbq) ?_
  show Bod _ _ _ _ [_] _ _ _
  refine Bod.bip 35 (by decide) dc_36_54 ?_
  refine Bod.icF dc_36_56 rfl (k2_eq_F (k_ne b 35 rfl rfl (by omega) (by omega) (by omega))) ?_
  refine Bod.go dc_36_59 rfl ?_
  refine Bod.go dc_36_60 rfl ?_
  refine Bod.get dc_36_61 fr_36_32 (mk_31 _) rfl ?_
  refine Bod.eqI (nI l) (by first | (simp (disch := omega) only [rI, rIe, rA, rIA, rLA, rJA, rVI, rQI, rVA, rQA, upd_at,  rAI, rLI, rJI, nI_add, pk_sub, kc_0, kc_1, kc_2, kc_3, kc_4, kc_5, reduceIte, Nat.reduceEqDiff, Nat.add_zero, rI_hold, rI_hold, rL_hold, hn, hp, hl]; done) | (simp (disch := omega) only [rI, rIe, rA, rIA, rLA, rJA, rVI, rQI, rVA, rQA, upd_at,  rAI, rLI, rJI, nI_add, pk_sub, kc_0, kc_1, kc_2, kc_3, kc_4, kc_5, reduceIte, Nat.reduceEqDiff, Nat.add_zero, rI_hold, rI_hold, rL_hold, hn, hp, hl]; exact congrArg nI (by omega))) ?_
  refine Bod.put dc_36_64 fr_36_29 (mk_31 _) (Nat.le_of_ble_eq_true rfl) pf_3_6 (st_3106 _ _) (mu_I _ _ _) ?_
  refine Bod.go dc_36_67 rfl ?_
  refine Bod.go dc_36_68 rfl ?_
  refine Bod.get dc_36_69 fr_36_23 (mk_31 _) rfl ?_
  refine Bod.eqI (nI q) (by first | (simp (disch := omega) only [rI, rIe, rA, rIA, rLA, rJA, rVI, rQI, rVA, rQA, upd_at,  rAI, rLI, rJI, nI_add, pk_sub, kc_0, kc_1, kc_2, kc_3, kc_4, kc_5, reduceIte, Nat.reduceEqDiff, Nat.add_zero, rI_hold, rI_hold, rL_hold, hn, hp, hl]; done) | (simp (disch := omega) only [rI, rIe, rA, rIA, rLA, rJA, rVI, rQI, rVA, rQA, upd_at,  rAI, rLI, rJI, nI_add, pk_sub, kc_0, kc_1, kc_2, kc_3, kc_4, kc_5, reduceIte, Nat.reduceEqDiff, Nat.add_zero, rI_hold, rI_hold, rL_hold, hn, hp, hl]; exact congrArg nI (by omega))) ?_
  refine Bod.go dc_36_72 rfl ?_
  refine Bod.subN (q - p) (by omega) (by omega) dc_36_73 ?_
  refine Bod.put dc_36_74 fr_36_57 (mk_31 _) (Nat.le_of_ble_eq_true rfl) pf_3_8 (st_3108 _ _) (mu_I _ _ _) ?_
  refine Bod.go dc_36_77 rfl ?_
  refine Bod.ic 2 (by decide) dc_36_78 ?_
  refine Bod.put dc_36_79 fr_36_38 (mk_31 _) (Nat.le_of_ble_eq_true rfl) pf_3_5 (st_3105 _ _) (mu_I _ _ _) ?_
  exact Bod.retV dc_36_82 rt_36
