/-! THE NUMBER OF A NAME -/
theorem dc_15_0 : decode (sm_cc 15) 0 = .ok (.lload_n 1, 1) := by decide +kernel
theorem dc_15_1 : decode (sm_cc 15) 1 = .ok (.ldc2_w 71, 3) := by decide +kernel
theorem cj_15_71 : sm_at mt_cj (sm_ow 15) 71 = some (71, (31), 495) := by decide +kernel
theorem dc_15_4 : decode (sm_cc 15) 4 = .ok (.lmul, 1) := by decide +kernel
theorem dc_15_5 : decode (sm_cc 15) 5 = .ok (.lload_n 3, 1) := by decide +kernel
theorem dc_15_6 : decode (sm_cc 15) 6 = .ok (.ldc2_w 73, 3) := by decide +kernel
theorem cj_15_73 : sm_at mt_cj (sm_ow 15) 73 = some (73, (17), 496) := by decide +kernel
theorem dc_15_9 : decode (sm_cc 15) 9 = .ok (.lmul, 1) := by decide +kernel
theorem dc_15_10 : decode (sm_cc 15) 10 = .ok (.ladd, 1) := by decide +kernel
theorem dc_15_11 : decode (sm_cc 15) 11 = .ok (.lstore 5, 2) := by decide +kernel
theorem ml_15 : sm_ml 15 = 10 := by decide +kernel
theorem dc_15_13 : decode (sm_cc 15) 13 = .ok (.lload 5, 2) := by decide +kernel
theorem dc_15_15 : decode (sm_cc 15) 15 = .ok (.lload 5, 2) := by decide +kernel
theorem dc_15_17 : decode (sm_cc 15) 17 = .ok (.bipush (32), 2) := by decide +kernel
theorem dc_15_19 : decode (sm_cc 15) 19 = .ok (.lushr, 1) := by decide +kernel
theorem dc_15_20 : decode (sm_cc 15) 20 = .ok (.lxor, 1) := by decide +kernel
theorem dc_15_21 : decode (sm_cc 15) 21 = .ok (.lstore 5, 2) := by decide +kernel
theorem dc_15_23 : decode (sm_cc 15) 23 = .ok (.lload 5, 2) := by decide +kernel
theorem dc_15_25 : decode (sm_cc 15) 25 = .ok (.lload 5, 2) := by decide +kernel
theorem dc_15_27 : decode (sm_cc 15) 27 = .ok (.bipush (15), 2) := by decide +kernel
theorem dc_15_29 : decode (sm_cc 15) 29 = .ok (.lushr, 1) := by decide +kernel
theorem dc_15_30 : decode (sm_cc 15) 30 = .ok (.lxor, 1) := by decide +kernel
theorem dc_15_31 : decode (sm_cc 15) 31 = .ok (.lstore 5, 2) := by decide +kernel
theorem dc_15_33 : decode (sm_cc 15) 33 = .ok (.lload 5, 2) := by decide +kernel
theorem dc_15_35 : decode (sm_cc 15) 35 = .ok (.ldc2_w 75, 3) := by decide +kernel
theorem cj_15_75 : sm_at mt_cj (sm_ow 15) 75 = some (75, (1023), 497) := by decide +kernel
theorem dc_15_38 : decode (sm_cc 15) 38 = .ok (.land, 1) := by decide +kernel
theorem dc_15_39 : decode (sm_cc 15) 39 = .ok (.l2i, 1) := by decide +kernel
theorem dc_15_56 : decode (sm_cc 15) 56 = .ok (.iload 9, 2) := by decide +kernel
theorem dc_15_58 : decode (sm_cc 15) 58 = .ok (.sipush (4096), 3) := by decide +kernel
theorem dc_15_61 : decode (sm_cc 15) 61 = .ok (.if_icmp .ge (60), 3) := by decide +kernel
theorem dc_15_64 : decode (sm_cc 15) 64 = .ok (.iload 8, 2) := by decide +kernel
theorem dc_15_66 : decode (sm_cc 15) 66 = .ok (.ifCond .lt (55), 3) := by decide +kernel
theorem dc_15_69 : decode (sm_cc 15) 69 = .ok (.iload 8, 2) := by decide +kernel
theorem dc_15_71 : decode (sm_cc 15) 71 = .ok (.sipush (4096), 3) := by decide +kernel
theorem dc_15_74 : decode (sm_cc 15) 74 = .ok (.if_icmp .ge (47), 3) := by decide +kernel
theorem dc_15_77 : decode (sm_cc 15) 77 = .ok (.aload_n 0, 1) := by decide +kernel
theorem dc_15_78 : decode (sm_cc 15) 78 = .ok (.getfield 15, 3) := by decide +kernel
theorem fr_15_15 : sm_at mt_f (sm_ow 15) 15 = some (15, 5, 1, 0, 509) := by decide +kernel
theorem dc_15_81 : decode (sm_cc 15) 81 = .ok (.iload 8, 2) := by decide +kernel
theorem dc_15_83 : decode (sm_cc 15) 83 = .ok (.laload, 1) := by decide +kernel
theorem dc_15_84 : decode (sm_cc 15) 84 = .ok (.lload_n 1, 1) := by decide +kernel
theorem dc_15_85 : decode (sm_cc 15) 85 = .ok (.lcmp, 1) := by decide +kernel
theorem dc_15_86 : decode (sm_cc 15) 86 = .ok (.ifCond .ne (18), 3) := by decide +kernel
theorem dc_15_89 : decode (sm_cc 15) 89 = .ok (.aload_n 0, 1) := by decide +kernel
theorem dc_15_90 : decode (sm_cc 15) 90 = .ok (.getfield 19, 3) := by decide +kernel
theorem fr_15_19 : sm_at mt_f (sm_ow 15) 19 = some (19, 5, 2, 0, 510) := by decide +kernel
theorem dc_15_93 : decode (sm_cc 15) 93 = .ok (.iload 8, 2) := by decide +kernel
theorem dc_15_95 : decode (sm_cc 15) 95 = .ok (.laload, 1) := by decide +kernel
theorem dc_15_96 : decode (sm_cc 15) 96 = .ok (.lload_n 3, 1) := by decide +kernel
theorem dc_15_97 : decode (sm_cc 15) 97 = .ok (.lcmp, 1) := by decide +kernel
theorem dc_15_98 : decode (sm_cc 15) 98 = .ok (.ifCond .ne (6), 3) := by decide +kernel
theorem dc_15_101 : decode (sm_cc 15) 101 = .ok (.iload 8, 2) := by decide +kernel
theorem dc_15_103 : decode (sm_cc 15) 103 = .ok (.ireturn, 1) := by decide +kernel
theorem rt_15 : sm_rt 15 = some .int := by decide +kernel
theorem dc_15_104 : decode (sm_cc 15) 104 = .ok (.aload_n 0, 1) := by decide +kernel
theorem dc_15_105 : decode (sm_cc 15) 105 = .ok (.getfield 26, 3) := by decide +kernel
theorem fr_15_26 : sm_at mt_f (sm_ow 15) 26 = some (26, 5, 4, 0, 512) := by decide +kernel
theorem dc_15_108 : decode (sm_cc 15) 108 = .ok (.iload 8, 2) := by decide +kernel
theorem dc_15_110 : decode (sm_cc 15) 110 = .ok (.iaload, 1) := by decide +kernel
theorem dc_15_111 : decode (sm_cc 15) 111 = .ok (.iconst 1, 1) := by decide +kernel
theorem dc_15_112 : decode (sm_cc 15) 112 = .ok (.isub, 1) := by decide +kernel
theorem dc_15_113 : decode (sm_cc 15) 113 = .ok (.istore 8, 2) := by decide +kernel
theorem dc_15_115 : decode (sm_cc 15) 115 = .ok (.iinc 9 (1), 3) := by decide +kernel
theorem dc_15_118 : decode (sm_cc 15) 118 = .ok (.goto (-62), 3) := by decide +kernel
theorem dc_15_40 : decode (sm_cc 15) 40 = .ok (.istore 7, 2) := by decide +kernel
theorem dc_15_42 : decode (sm_cc 15) 42 = .ok (.aload_n 0, 1) := by decide +kernel
theorem dc_15_43 : decode (sm_cc 15) 43 = .ok (.getfield 22, 3) := by decide +kernel
theorem fr_15_22 : sm_at mt_f (sm_ow 15) 22 = some (22, 5, 3, 0, 511) := by decide +kernel
theorem dc_15_46 : decode (sm_cc 15) 46 = .ok (.iload 7, 2) := by decide +kernel
theorem dc_15_48 : decode (sm_cc 15) 48 = .ok (.iaload, 1) := by decide +kernel
theorem dc_15_49 : decode (sm_cc 15) 49 = .ok (.iconst 1, 1) := by decide +kernel
theorem dc_15_50 : decode (sm_cc 15) 50 = .ok (.isub, 1) := by decide +kernel
theorem dc_15_51 : decode (sm_cc 15) 51 = .ok (.istore 8, 2) := by decide +kernel
theorem dc_15_53 : decode (sm_cc 15) 53 = .ok (.iconst 0, 1) := by decide +kernel
theorem dc_15_54 : decode (sm_cc 15) 54 = .ok (.istore 9, 2) := by decide +kernel
theorem dc_15_121 : decode (sm_cc 15) 121 = .ok (.aload_n 0, 1) := by decide +kernel
theorem dc_15_122 : decode (sm_cc 15) 122 = .ok (.getfield 77, 3) := by decide +kernel
theorem fr_15_77 : sm_at mt_f (sm_ow 15) 77 = some (77, 5, 7, 0, 515) := by decide +kernel
theorem dc_15_125 : decode (sm_cc 15) 125 = .ok (.sipush (4096), 3) := by decide +kernel
theorem dc_15_128 : decode (sm_cc 15) 128 = .ok (.if_icmp .lt (5), 3) := by decide +kernel
theorem dc_15_133 : decode (sm_cc 15) 133 = .ok (.aload_n 0, 1) := by decide +kernel
theorem dc_15_134 : decode (sm_cc 15) 134 = .ok (.getfield 15, 3) := by decide +kernel
theorem dc_15_137 : decode (sm_cc 15) 137 = .ok (.aload_n 0, 1) := by decide +kernel
theorem dc_15_138 : decode (sm_cc 15) 138 = .ok (.getfield 77, 3) := by decide +kernel
theorem dc_15_141 : decode (sm_cc 15) 141 = .ok (.lload_n 1, 1) := by decide +kernel
theorem dc_15_142 : decode (sm_cc 15) 142 = .ok (.lastore, 1) := by decide +kernel
theorem dc_15_143 : decode (sm_cc 15) 143 = .ok (.aload_n 0, 1) := by decide +kernel
theorem dc_15_144 : decode (sm_cc 15) 144 = .ok (.getfield 19, 3) := by decide +kernel
theorem dc_15_147 : decode (sm_cc 15) 147 = .ok (.aload_n 0, 1) := by decide +kernel
theorem dc_15_148 : decode (sm_cc 15) 148 = .ok (.getfield 77, 3) := by decide +kernel
theorem dc_15_151 : decode (sm_cc 15) 151 = .ok (.lload_n 3, 1) := by decide +kernel
theorem dc_15_152 : decode (sm_cc 15) 152 = .ok (.lastore, 1) := by decide +kernel
theorem dc_15_153 : decode (sm_cc 15) 153 = .ok (.aload_n 0, 1) := by decide +kernel
theorem dc_15_154 : decode (sm_cc 15) 154 = .ok (.getfield 26, 3) := by decide +kernel
theorem dc_15_157 : decode (sm_cc 15) 157 = .ok (.aload_n 0, 1) := by decide +kernel
theorem dc_15_158 : decode (sm_cc 15) 158 = .ok (.getfield 77, 3) := by decide +kernel
theorem dc_15_161 : decode (sm_cc 15) 161 = .ok (.aload_n 0, 1) := by decide +kernel
theorem dc_15_162 : decode (sm_cc 15) 162 = .ok (.getfield 22, 3) := by decide +kernel
theorem dc_15_165 : decode (sm_cc 15) 165 = .ok (.iload 7, 2) := by decide +kernel
theorem dc_15_167 : decode (sm_cc 15) 167 = .ok (.iaload, 1) := by decide +kernel
theorem dc_15_168 : decode (sm_cc 15) 168 = .ok (.iastore, 1) := by decide +kernel
theorem dc_15_169 : decode (sm_cc 15) 169 = .ok (.aload_n 0, 1) := by decide +kernel
theorem dc_15_170 : decode (sm_cc 15) 170 = .ok (.dup, 1) := by decide +kernel
theorem dc_15_171 : decode (sm_cc 15) 171 = .ok (.getfield 77, 3) := by decide +kernel
theorem dc_15_174 : decode (sm_cc 15) 174 = .ok (.iconst 1, 1) := by decide +kernel
theorem dc_15_175 : decode (sm_cc 15) 175 = .ok (.iadd, 1) := by decide +kernel
theorem dc_15_176 : decode (sm_cc 15) 176 = .ok (.putfield 77, 3) := by decide +kernel
theorem dc_15_179 : decode (sm_cc 15) 179 = .ok (.aload_n 0, 1) := by decide +kernel
theorem dc_15_180 : decode (sm_cc 15) 180 = .ok (.getfield 22, 3) := by decide +kernel
theorem dc_15_183 : decode (sm_cc 15) 183 = .ok (.iload 7, 2) := by decide +kernel
theorem dc_15_185 : decode (sm_cc 15) 185 = .ok (.aload_n 0, 1) := by decide +kernel
theorem dc_15_186 : decode (sm_cc 15) 186 = .ok (.getfield 77, 3) := by decide +kernel
theorem dc_15_189 : decode (sm_cc 15) 189 = .ok (.iastore, 1) := by decide +kernel
theorem dc_15_190 : decode (sm_cc 15) 190 = .ok (.aload_n 0, 1) := by decide +kernel
theorem dc_15_191 : decode (sm_cc 15) 191 = .ok (.getfield 77, 3) := by decide +kernel
theorem dc_15_194 : decode (sm_cc 15) 194 = .ok (.iconst 1, 1) := by decide +kernel
theorem dc_15_195 : decode (sm_cc 15) 195 = .ok (.isub, 1) := by decide +kernel
theorem dc_15_196 : decode (sm_cc 15) 196 = .ok (.ireturn, 1) := by decide +kernel
/-- the bucket of a name -/
def c_hash (hi lo : Int64) : Nat := ((((((hi * ((31))) + (lo * ((17)))) ^^^ ((((hi * ((31))) + (lo * ((17)))).toUInt64 >>> ((nI 32).toInt64.toUInt64 &&& Int64.toUInt64 63)).toInt64)) ^^^ (((((hi * ((31))) + (lo * ((17)))) ^^^ ((((hi * ((31))) + (lo * ((17)))).toUInt64 >>> ((nI 32).toInt64.toUInt64 &&& Int64.toUInt64 63)).toInt64)).toUInt64 >>> ((nI 15).toInt64.toUInt64 &&& Int64.toUInt64 63)).toInt64)) &&& ((1023))).toInt32).toNatClampNeg
theorem c_hash_eq (hi lo : Int64) : (((((hi * ((31))) + (lo * ((17)))) ^^^ ((((hi * ((31))) + (lo * ((17)))).toUInt64 >>> ((nI 32).toInt64.toUInt64 &&& Int64.toUInt64 63)).toInt64)) ^^^ (((((hi * ((31))) + (lo * ((17)))) ^^^ ((((hi * ((31))) + (lo * ((17)))).toUInt64 >>> ((nI 32).toInt64.toUInt64 &&& Int64.toUInt64 63)).toInt64)).toUInt64 >>> ((nI 15).toInt64.toUInt64 &&& Int64.toUInt64 63)).toInt64)) &&& ((1023))).toInt32 = nI (c_hash hi lo) ∧ c_hash hi lo < 1024 := by
  obtain ⟨n, hn, e⟩ := wb_of (((((hi * ((31))) + (lo * ((17)))) ^^^ ((((hi * ((31))) + (lo * ((17)))).toUInt64 >>> ((nI 32).toInt64.toUInt64 &&& Int64.toUInt64 63)).toInt64)) ^^^ (((((hi * ((31))) + (lo * ((17)))) ^^^ ((((hi * ((31))) + (lo * ((17)))).toUInt64 >>> ((nI 32).toInt64.toUInt64 &&& Int64.toUInt64 63)).toInt64)).toUInt64 >>> ((nI 15).toInt64.toUInt64 &&& Int64.toUInt64 63)).toInt64)))
  have h1 : (((((hi * ((31))) + (lo * ((17)))) ^^^ ((((hi * ((31))) + (lo * ((17)))).toUInt64 >>> ((nI 32).toInt64.toUInt64 &&& Int64.toUInt64 63)).toInt64)) ^^^ (((((hi * ((31))) + (lo * ((17)))) ^^^ ((((hi * ((31))) + (lo * ((17)))).toUInt64 >>> ((nI 32).toInt64.toUInt64 &&& Int64.toUInt64 63)).toInt64)).toUInt64 >>> ((nI 15).toInt64.toUInt64 &&& Int64.toUInt64 63)).toInt64)) &&& ((1023))).toInt32 = nI (n % 2 ^ 10) := by
    rw [e, show (1023 : Int64) = lN (2 ^ 10 - 1) from rfl, wb_mask hn (by decide), lN_i]
  have h2 : n % 2 ^ 10 < 1024 := Nat.mod_lt _ (by decide)
  have e1 : c_hash hi lo = n % 2 ^ 10 := by
    unfold c_hash
    rw [h1, nI_clamp (by omega)]
  rw [e1]
  exact ⟨h1, h2⟩
/-- the ids of a bucket's chain, from a place's word on: 0 the end, else id + 1 -/
def c_chain (S : cS) : Nat → List Nat → Prop
  | b, [] => b = 0
  | b, id :: r => b = id + 1 ∧ id < 4096 ∧ ∃ b1, sA S 20 id = nI b1 ∧ c_chain S b1 r
/-- the first of them that is this name -/
def c_find (S : cS) (hi lo : Int64) : List Nat → Option Nat
  | [] => none
  | id :: r => if sL S 17 id = hi ∧ sL S 18 id = lo then some id else c_find S hi lo r
theorem numberOf_hitL {d : Nat} {S : cS} {hi lo m1 m2 m3 : Int64} {h : Nat} {q : Nat} : ∀ (cs : List Nat) (b t : Nat), c_chain S b cs → cs.length + t < 4096 → c_find S hi lo cs = some q → Bod d 15 56 (sm_p1 (sm_p1 (sm_p1 (sm_p2 (sm_p2 (sm_p2 (lv_args 0 [.ref 16, .long hi, .long lo]) 5 (.long m1)) 5 (.long m2)) 5 (.long m3)) 7 (.int (nI h))) 8 (.int (nI b - nI 1))) 9 (.int (nI t))) [] S (some (.int (nI q))) S := by
  intro cs
  induction cs with
  | nil =>
    intro b t hc hl hf
    exact absurd (show (none : Option Nat) = some q from hf) (fun e => by cases e)
  | cons id r ih =>
    intro b t hc hl hf
    obtain ⟨rfl, hid, b1, hb1, hr⟩ := hc
    rw [List.length_cons] at hl
    by_cases hm : sL S 17 id = hi ∧ sL S 18 id = lo
    · unfold c_find at hf
      rw [if_pos hm] at hf
      obtain rfl : id = q := Option.some.inj hf
      refine Bod.go dc_15_56 rfl ?_
      refine Bod.sip 4096 (by decide) dc_15_58 ?_
      refine Bod.icF dc_15_61 rfl (k2_ge_F t 4096 rfl rfl (by omega) (by omega)) ?_
      refine Bod.go dc_15_64 rfl ?_
      refine Bod.eqI (nI id) (by rw [pk_sub (by omega), Nat.add_sub_cancel]) ?_
      refine Bod.ifF dc_15_66 rfl (k1_lt_F id rfl (by omega)) ?_
      refine Bod.go dc_15_69 rfl ?_
      refine Bod.eqI (nI id) (by rw [pk_sub (by omega), Nat.add_sub_cancel]) ?_
      refine Bod.sip 4096 (by decide) dc_15_71 ?_
      refine Bod.icF dc_15_74 rfl (k2_ge_F id 4096 rfl rfl (by omega) (by omega)) ?_
      refine Bod.go dc_15_77 rfl ?_
      refine Bod.get dc_15_78 fr_15_15 (mk_16 _) rfl ?_
      refine Bod.go dc_15_81 rfl ?_
      refine Bod.eqI (nI id) (by rw [pk_sub (by omega), Nat.add_sub_cancel]) ?_
      refine Bod.laldN id rfl (by omega) (by omega) dc_15_83 (mk_17 _) ?_
      refine Bod.go dc_15_84 rfl ?_
      refine Bod.go dc_15_85 rfl ?_
      refine Bod.ifF dc_15_86 rfl (k1_ne_F (cmp_eq hm.1)) ?_
      refine Bod.go dc_15_89 rfl ?_
      refine Bod.get dc_15_90 fr_15_19 (mk_16 _) rfl ?_
      refine Bod.go dc_15_93 rfl ?_
      refine Bod.eqI (nI id) (by rw [pk_sub (by omega), Nat.add_sub_cancel]) ?_
      refine Bod.laldN id rfl (by omega) (by omega) dc_15_95 (mk_18 _) ?_
      refine Bod.go dc_15_96 rfl ?_
      refine Bod.go dc_15_97 rfl ?_
      refine Bod.ifF dc_15_98 rfl (k1_ne_F (cmp_eq hm.2)) ?_
      refine Bod.go dc_15_101 rfl ?_
      refine Bod.eqI (nI id) (by rw [pk_sub (by omega), Nat.add_sub_cancel]) ?_
      exact Bod.retI dc_15_103 rt_15
    · unfold c_find at hf
      rw [if_neg hm] at hf
      have hnext := ih b1 (t + 1) hr (by omega) hf
      by_cases hA : sL S 17 id = hi
      · have hB : sL S 18 id ≠ lo := fun e => hm ⟨hA, e⟩
        refine Bod.go dc_15_56 rfl ?_
        refine Bod.sip 4096 (by decide) dc_15_58 ?_
        refine Bod.icF dc_15_61 rfl (k2_ge_F t 4096 rfl rfl (by omega) (by omega)) ?_
        refine Bod.go dc_15_64 rfl ?_
        refine Bod.eqI (nI id) (by rw [pk_sub (by omega), Nat.add_sub_cancel]) ?_
        refine Bod.ifF dc_15_66 rfl (k1_lt_F id rfl (by omega)) ?_
        refine Bod.go dc_15_69 rfl ?_
        refine Bod.eqI (nI id) (by rw [pk_sub (by omega), Nat.add_sub_cancel]) ?_
        refine Bod.sip 4096 (by decide) dc_15_71 ?_
        refine Bod.icF dc_15_74 rfl (k2_ge_F id 4096 rfl rfl (by omega) (by omega)) ?_
        refine Bod.go dc_15_77 rfl ?_
        refine Bod.get dc_15_78 fr_15_15 (mk_16 _) rfl ?_
        refine Bod.go dc_15_81 rfl ?_
        refine Bod.eqI (nI id) (by rw [pk_sub (by omega), Nat.add_sub_cancel]) ?_
        refine Bod.laldN id rfl (by omega) (by omega) dc_15_83 (mk_17 _) ?_
        refine Bod.go dc_15_84 rfl ?_
        refine Bod.go dc_15_85 rfl ?_
        refine Bod.ifF dc_15_86 rfl (k1_ne_F (cmp_eq hA)) ?_
        refine Bod.go dc_15_89 rfl ?_
        refine Bod.get dc_15_90 fr_15_19 (mk_16 _) rfl ?_
        refine Bod.go dc_15_93 rfl ?_
        refine Bod.eqI (nI id) (by rw [pk_sub (by omega), Nat.add_sub_cancel]) ?_
        refine Bod.laldN id rfl (by omega) (by omega) dc_15_95 (mk_18 _) ?_
        refine Bod.go dc_15_96 rfl ?_
        refine Bod.go dc_15_97 rfl ?_
        refine Bod.ifT dc_15_98 rfl (k1_ne_T (cmp_ne hB)) ?_
        refine Bod.go dc_15_104 rfl ?_
        refine Bod.get dc_15_105 fr_15_26 (mk_16 _) rfl ?_
        refine Bod.go dc_15_108 rfl ?_
        refine Bod.eqI (nI id) (by rw [pk_sub (by omega), Nat.add_sub_cancel]) ?_
        refine Bod.ialdN id rfl (by omega) (by omega) dc_15_110 (mk_20 _) ?_
        refine Bod.ic 1 (by decide) dc_15_111 ?_
        refine Bod.go dc_15_112 rfl ?_
        refine Bod.ist dc_15_113 (by rw [ml_15]; exact Nat.le_of_ble_eq_true rfl) ?_
        refine Bod.incN (t + 1) (by rw [kc_1, nI_add]) dc_15_115 (by rw [ml_15]; exact Nat.le_of_ble_eq_true rfl) rfl ?_
        refine Bod.go dc_15_118 rfl ?_
        rw [sm_p1_4 (by decide) _ rfl rfl, hb1]
        exact hnext
      · skip
        refine Bod.go dc_15_56 rfl ?_
        refine Bod.sip 4096 (by decide) dc_15_58 ?_
        refine Bod.icF dc_15_61 rfl (k2_ge_F t 4096 rfl rfl (by omega) (by omega)) ?_
        refine Bod.go dc_15_64 rfl ?_
        refine Bod.eqI (nI id) (by rw [pk_sub (by omega), Nat.add_sub_cancel]) ?_
        refine Bod.ifF dc_15_66 rfl (k1_lt_F id rfl (by omega)) ?_
        refine Bod.go dc_15_69 rfl ?_
        refine Bod.eqI (nI id) (by rw [pk_sub (by omega), Nat.add_sub_cancel]) ?_
        refine Bod.sip 4096 (by decide) dc_15_71 ?_
        refine Bod.icF dc_15_74 rfl (k2_ge_F id 4096 rfl rfl (by omega) (by omega)) ?_
        refine Bod.go dc_15_77 rfl ?_
        refine Bod.get dc_15_78 fr_15_15 (mk_16 _) rfl ?_
        refine Bod.go dc_15_81 rfl ?_
        refine Bod.eqI (nI id) (by rw [pk_sub (by omega), Nat.add_sub_cancel]) ?_
        refine Bod.laldN id rfl (by omega) (by omega) dc_15_83 (mk_17 _) ?_
        refine Bod.go dc_15_84 rfl ?_
        refine Bod.go dc_15_85 rfl ?_
        refine Bod.ifT dc_15_86 rfl (k1_ne_T (cmp_ne hA)) ?_
        refine Bod.go dc_15_104 rfl ?_
        refine Bod.get dc_15_105 fr_15_26 (mk_16 _) rfl ?_
        refine Bod.go dc_15_108 rfl ?_
        refine Bod.eqI (nI id) (by rw [pk_sub (by omega), Nat.add_sub_cancel]) ?_
        refine Bod.ialdN id rfl (by omega) (by omega) dc_15_110 (mk_20 _) ?_
        refine Bod.ic 1 (by decide) dc_15_111 ?_
        refine Bod.go dc_15_112 rfl ?_
        refine Bod.ist dc_15_113 (by rw [ml_15]; exact Nat.le_of_ble_eq_true rfl) ?_
        refine Bod.incN (t + 1) (by rw [kc_1, nI_add]) dc_15_115 (by rw [ml_15]; exact Nat.le_of_ble_eq_true rfl) rfl ?_
        refine Bod.go dc_15_118 rfl ?_
        rw [sm_p1_4 (by decide) _ rfl rfl, hb1]
        exact hnext
theorem numberOf_missL {d : Nat} {S : cS} {hi lo m1 m2 m3 : Int64} {h : Nat} {v : Option Value} {Sf : cS} (hend : ∀ x y : Int32, Bod d 15 121 (sm_p1 (sm_p1 (sm_p1 (sm_p2 (sm_p2 (sm_p2 (lv_args 0 [.ref 16, .long hi, .long lo]) 5 (.long m1)) 5 (.long m2)) 5 (.long m3)) 7 (.int (nI h))) 8 (.int x)) 9 (.int y)) [] S v Sf) : ∀ (cs : List Nat) (b t : Nat), c_chain S b cs → cs.length + t < 4096 → c_find S hi lo cs = none → Bod d 15 56 (sm_p1 (sm_p1 (sm_p1 (sm_p2 (sm_p2 (sm_p2 (lv_args 0 [.ref 16, .long hi, .long lo]) 5 (.long m1)) 5 (.long m2)) 5 (.long m3)) 7 (.int (nI h))) 8 (.int (nI b - nI 1))) 9 (.int (nI t))) [] S v Sf := by
  intro cs
  induction cs with
  | nil =>
    intro b t hc hl hf
    obtain rfl : b = 0 := hc
    have hl : t < 4096 := by rw [List.length_nil] at hl; omega
    refine Bod.go dc_15_56 rfl ?_
    refine Bod.sip 4096 (by decide) dc_15_58 ?_
    refine Bod.icF dc_15_61 rfl (k2_ge_F t 4096 rfl rfl (by omega) (by omega)) ?_
    refine Bod.go dc_15_64 rfl ?_
    refine Bod.ifT dc_15_66 rfl (by decide) ?_
    exact hend _ _
  | cons id r ih =>
    intro b t hc hl hf
    obtain ⟨rfl, hid, b1, hb1, hr⟩ := hc
    rw [List.length_cons] at hl
    by_cases hm : sL S 17 id = hi ∧ sL S 18 id = lo
    · unfold c_find at hf
      rw [if_pos hm] at hf
      cases hf
    · unfold c_find at hf
      rw [if_neg hm] at hf
      have hnext := ih b1 (t + 1) hr (by omega) hf
      by_cases hA : sL S 17 id = hi
      · have hB : sL S 18 id ≠ lo := fun e => hm ⟨hA, e⟩
        refine Bod.go dc_15_56 rfl ?_
        refine Bod.sip 4096 (by decide) dc_15_58 ?_
        refine Bod.icF dc_15_61 rfl (k2_ge_F t 4096 rfl rfl (by omega) (by omega)) ?_
        refine Bod.go dc_15_64 rfl ?_
        refine Bod.eqI (nI id) (by rw [pk_sub (by omega), Nat.add_sub_cancel]) ?_
        refine Bod.ifF dc_15_66 rfl (k1_lt_F id rfl (by omega)) ?_
        refine Bod.go dc_15_69 rfl ?_
        refine Bod.eqI (nI id) (by rw [pk_sub (by omega), Nat.add_sub_cancel]) ?_
        refine Bod.sip 4096 (by decide) dc_15_71 ?_
        refine Bod.icF dc_15_74 rfl (k2_ge_F id 4096 rfl rfl (by omega) (by omega)) ?_
        refine Bod.go dc_15_77 rfl ?_
        refine Bod.get dc_15_78 fr_15_15 (mk_16 _) rfl ?_
        refine Bod.go dc_15_81 rfl ?_
        refine Bod.eqI (nI id) (by rw [pk_sub (by omega), Nat.add_sub_cancel]) ?_
        refine Bod.laldN id rfl (by omega) (by omega) dc_15_83 (mk_17 _) ?_
        refine Bod.go dc_15_84 rfl ?_
        refine Bod.go dc_15_85 rfl ?_
        refine Bod.ifF dc_15_86 rfl (k1_ne_F (cmp_eq hA)) ?_
        refine Bod.go dc_15_89 rfl ?_
        refine Bod.get dc_15_90 fr_15_19 (mk_16 _) rfl ?_
        refine Bod.go dc_15_93 rfl ?_
        refine Bod.eqI (nI id) (by rw [pk_sub (by omega), Nat.add_sub_cancel]) ?_
        refine Bod.laldN id rfl (by omega) (by omega) dc_15_95 (mk_18 _) ?_
        refine Bod.go dc_15_96 rfl ?_
        refine Bod.go dc_15_97 rfl ?_
        refine Bod.ifT dc_15_98 rfl (k1_ne_T (cmp_ne hB)) ?_
        refine Bod.go dc_15_104 rfl ?_
        refine Bod.get dc_15_105 fr_15_26 (mk_16 _) rfl ?_
        refine Bod.go dc_15_108 rfl ?_
        refine Bod.eqI (nI id) (by rw [pk_sub (by omega), Nat.add_sub_cancel]) ?_
        refine Bod.ialdN id rfl (by omega) (by omega) dc_15_110 (mk_20 _) ?_
        refine Bod.ic 1 (by decide) dc_15_111 ?_
        refine Bod.go dc_15_112 rfl ?_
        refine Bod.ist dc_15_113 (by rw [ml_15]; exact Nat.le_of_ble_eq_true rfl) ?_
        refine Bod.incN (t + 1) (by rw [kc_1, nI_add]) dc_15_115 (by rw [ml_15]; exact Nat.le_of_ble_eq_true rfl) rfl ?_
        refine Bod.go dc_15_118 rfl ?_
        rw [sm_p1_4 (by decide) _ rfl rfl, hb1]
        exact hnext
      · skip
        refine Bod.go dc_15_56 rfl ?_
        refine Bod.sip 4096 (by decide) dc_15_58 ?_
        refine Bod.icF dc_15_61 rfl (k2_ge_F t 4096 rfl rfl (by omega) (by omega)) ?_
        refine Bod.go dc_15_64 rfl ?_
        refine Bod.eqI (nI id) (by rw [pk_sub (by omega), Nat.add_sub_cancel]) ?_
        refine Bod.ifF dc_15_66 rfl (k1_lt_F id rfl (by omega)) ?_
        refine Bod.go dc_15_69 rfl ?_
        refine Bod.eqI (nI id) (by rw [pk_sub (by omega), Nat.add_sub_cancel]) ?_
        refine Bod.sip 4096 (by decide) dc_15_71 ?_
        refine Bod.icF dc_15_74 rfl (k2_ge_F id 4096 rfl rfl (by omega) (by omega)) ?_
        refine Bod.go dc_15_77 rfl ?_
        refine Bod.get dc_15_78 fr_15_15 (mk_16 _) rfl ?_
        refine Bod.go dc_15_81 rfl ?_
        refine Bod.eqI (nI id) (by rw [pk_sub (by omega), Nat.add_sub_cancel]) ?_
        refine Bod.laldN id rfl (by omega) (by omega) dc_15_83 (mk_17 _) ?_
        refine Bod.go dc_15_84 rfl ?_
        refine Bod.go dc_15_85 rfl ?_
        refine Bod.ifT dc_15_86 rfl (k1_ne_T (cmp_ne hA)) ?_
        refine Bod.go dc_15_104 rfl ?_
        refine Bod.get dc_15_105 fr_15_26 (mk_16 _) rfl ?_
        refine Bod.go dc_15_108 rfl ?_
        refine Bod.eqI (nI id) (by rw [pk_sub (by omega), Nat.add_sub_cancel]) ?_
        refine Bod.ialdN id rfl (by omega) (by omega) dc_15_110 (mk_20 _) ?_
        refine Bod.ic 1 (by decide) dc_15_111 ?_
        refine Bod.go dc_15_112 rfl ?_
        refine Bod.ist dc_15_113 (by rw [ml_15]; exact Nat.le_of_ble_eq_true rfl) ?_
        refine Bod.incN (t + 1) (by rw [kc_1, nI_add]) dc_15_115 (by rw [ml_15]; exact Nat.le_of_ble_eq_true rfl) rfl ?_
        refine Bod.go dc_15_118 rfl ?_
        rw [sm_p1_4 (by decide) _ rfl rfl, hb1]
        exact hnext
theorem numberOf_old {d : Nat} {S : cS} {hi lo : Int64} {h b : Nat} {cs : List Nat} (hh : c_hash hi lo = h) (hb : sA S 19 h = nI b) (hc : c_chain S b cs) (hl : cs.length < 4096) {q : Nat} (hf : c_find S hi lo cs = some q) : Ans (d + 1) 15 [.ref 16, .long hi, .long lo] S (some (.int (nI q))) S := by
  have h10 : h < 1024 := by rw [← hh]; exact (c_hash_eq hi lo).2
  refine Ans.of (by rw [ml_15]; exact Nat.le_of_ble_eq_true rfl) ?_
  refine Bod.go dc_15_0 rfl ?_
  refine Bod.ldc2 dc_15_1 cj_15_71 ?_
  refine Bod.go dc_15_4 rfl ?_
  refine Bod.go dc_15_5 rfl ?_
  refine Bod.ldc2 dc_15_6 cj_15_73 ?_
  refine Bod.go dc_15_9 rfl ?_
  refine Bod.go dc_15_10 rfl ?_
  refine Bod.lst dc_15_11 (by rw [ml_15]; exact Nat.le_of_ble_eq_true rfl) ?_
  refine Bod.go dc_15_13 rfl ?_
  refine Bod.go dc_15_15 rfl ?_
  refine Bod.bip 32 (by decide) dc_15_17 ?_
  refine Bod.go dc_15_19 rfl ?_
  refine Bod.go dc_15_20 rfl ?_
  refine Bod.lst dc_15_21 (by rw [ml_15]; exact Nat.le_of_ble_eq_true rfl) ?_
  refine Bod.go dc_15_23 rfl ?_
  refine Bod.go dc_15_25 rfl ?_
  refine Bod.bip 15 (by decide) dc_15_27 ?_
  refine Bod.go dc_15_29 rfl ?_
  refine Bod.go dc_15_30 rfl ?_
  refine Bod.lst dc_15_31 (by rw [ml_15]; exact Nat.le_of_ble_eq_true rfl) ?_
  refine Bod.go dc_15_33 rfl ?_
  refine Bod.ldc2 dc_15_35 cj_15_75 ?_
  refine Bod.go dc_15_38 rfl ?_
  refine Bod.go dc_15_39 rfl ?_
  refine Bod.eqI (nI h) ((c_hash_eq hi lo).1.trans (congrArg nI hh)) ?_
  refine Bod.ist dc_15_40 (by rw [ml_15]; exact Nat.le_of_ble_eq_true rfl) ?_
  refine Bod.go dc_15_42 rfl ?_
  refine Bod.get dc_15_43 fr_15_22 (mk_16 _) rfl ?_
  refine Bod.go dc_15_46 rfl ?_
  refine Bod.ialdN h rfl (by omega) (by omega) dc_15_48 (mk_19 _) ?_
  refine Bod.ic 1 (by decide) dc_15_49 ?_
  refine Bod.go dc_15_50 rfl ?_
  rw [hb]
  refine Bod.ist dc_15_51 (by rw [ml_15]; exact Nat.le_of_ble_eq_true rfl) ?_
  refine Bod.ic 0 (by decide) dc_15_53 ?_
  refine Bod.ist dc_15_54 (by rw [ml_15]; exact Nat.le_of_ble_eq_true rfl) ?_
  exact numberOf_hitL cs b 0 hc (by omega) hf
theorem numberOf_new {d : Nat} {S : cS} {hi lo : Int64} {h b : Nat} {cs : List Nat} (hh : c_hash hi lo = h) (hb : sA S 19 h = nI b) (hc : c_chain S b cs) (hl : cs.length < 4096) {z : Nat} (hz : sI S 1607 = nI z) (hz4 : z < 4096) (hf : c_find S hi lo cs = none) : Ans (d + 1) 15 [.ref 16, .long hi, .long lo] S (some (.int (nI z))) (wA 19 h (nI (z + 1)) (wI 1607 (nI (z + 1)) (wA 20 z (nI b) (wL 18 z lo (wL 17 z hi S))))) := by
  have h10 : h < 1024 := by rw [← hh]; exact (c_hash_eq hi lo).2
  refine Ans.of (by rw [ml_15]; exact Nat.le_of_ble_eq_true rfl) ?_
  refine Bod.go dc_15_0 rfl ?_
  refine Bod.ldc2 dc_15_1 cj_15_71 ?_
  refine Bod.go dc_15_4 rfl ?_
  refine Bod.go dc_15_5 rfl ?_
  refine Bod.ldc2 dc_15_6 cj_15_73 ?_
  refine Bod.go dc_15_9 rfl ?_
  refine Bod.go dc_15_10 rfl ?_
  refine Bod.lst dc_15_11 (by rw [ml_15]; exact Nat.le_of_ble_eq_true rfl) ?_
  refine Bod.go dc_15_13 rfl ?_
  refine Bod.go dc_15_15 rfl ?_
  refine Bod.bip 32 (by decide) dc_15_17 ?_
  refine Bod.go dc_15_19 rfl ?_
  refine Bod.go dc_15_20 rfl ?_
  refine Bod.lst dc_15_21 (by rw [ml_15]; exact Nat.le_of_ble_eq_true rfl) ?_
  refine Bod.go dc_15_23 rfl ?_
  refine Bod.go dc_15_25 rfl ?_
  refine Bod.bip 15 (by decide) dc_15_27 ?_
  refine Bod.go dc_15_29 rfl ?_
  refine Bod.go dc_15_30 rfl ?_
  refine Bod.lst dc_15_31 (by rw [ml_15]; exact Nat.le_of_ble_eq_true rfl) ?_
  refine Bod.go dc_15_33 rfl ?_
  refine Bod.ldc2 dc_15_35 cj_15_75 ?_
  refine Bod.go dc_15_38 rfl ?_
  refine Bod.go dc_15_39 rfl ?_
  refine Bod.eqI (nI h) ((c_hash_eq hi lo).1.trans (congrArg nI hh)) ?_
  refine Bod.ist dc_15_40 (by rw [ml_15]; exact Nat.le_of_ble_eq_true rfl) ?_
  refine Bod.go dc_15_42 rfl ?_
  refine Bod.get dc_15_43 fr_15_22 (mk_16 _) rfl ?_
  refine Bod.go dc_15_46 rfl ?_
  refine Bod.ialdN h rfl (by omega) (by omega) dc_15_48 (mk_19 _) ?_
  refine Bod.ic 1 (by decide) dc_15_49 ?_
  refine Bod.go dc_15_50 rfl ?_
  rw [hb]
  refine Bod.ist dc_15_51 (by rw [ml_15]; exact Nat.le_of_ble_eq_true rfl) ?_
  refine Bod.ic 0 (by decide) dc_15_53 ?_
  refine Bod.ist dc_15_54 (by rw [ml_15]; exact Nat.le_of_ble_eq_true rfl) ?_
  refine numberOf_missL (fun x y => ?_) cs b 0 hc (by omega) hf
  · skip
    refine Bod.go dc_15_121 rfl ?_
    refine Bod.get dc_15_122 fr_15_77 (mk_16 _) rfl ?_
    refine Bod.eqI (nI z) (by first | assumption | rfl | exact congrArg nI (by omega) | (simp (disch := omega) only [rI, rIe, rA, rIA, rLA, rJA, rVI, rQI, rVA, rQA, upd_at,  rAI, rLI, rJI, nI_add, pk_sub, kc_0, kc_1, kc_2, kc_3, kc_4, kc_5, reduceIte, Nat.reduceEqDiff, Nat.add_zero, rI_hold, rI_hold, rL_hold, hz, hb]; done)) ?_
    refine Bod.sip 4096 (by decide) dc_15_125 ?_
    refine Bod.icT dc_15_128 rfl (k2_lt_T z 4096 rfl rfl (by omega) (by omega)) ?_
    refine Bod.go dc_15_133 rfl ?_
    refine Bod.get dc_15_134 fr_15_15 (mk_16 _) rfl ?_
    refine Bod.go dc_15_137 rfl ?_
    refine Bod.get dc_15_138 fr_15_77 (mk_16 _) rfl ?_
    refine Bod.eqI (nI z) (by first | assumption | rfl | exact congrArg nI (by omega) | (simp (disch := omega) only [rI, rIe, rA, rIA, rLA, rJA, rVI, rQI, rVA, rQA, upd_at,  rAI, rLI, rJI, nI_add, pk_sub, kc_0, kc_1, kc_2, kc_3, kc_4, kc_5, reduceIte, Nat.reduceEqDiff, Nat.add_zero, rI_hold, rI_hold, rL_hold, hz, hb]; done)) ?_
    refine Bod.go dc_15_141 rfl ?_
    refine Bod.lastN z rfl (by omega) (by omega) dc_15_142 (mk_17 _) (sa_17 _ _ _) (mu_L _ _ _ _) ?_
    refine Bod.go dc_15_143 rfl ?_
    refine Bod.get dc_15_144 fr_15_19 (mk_16 _) rfl ?_
    refine Bod.go dc_15_147 rfl ?_
    refine Bod.get dc_15_148 fr_15_77 (mk_16 _) rfl ?_
    refine Bod.eqI (nI z) (by first | (simp (disch := omega) only [rI, rIe, rA, rIA, rLA, rJA, rVI, rQI, rVA, rQA, upd_at,  rAI, rLI, rJI, nI_add, pk_sub, kc_0, kc_1, kc_2, kc_3, kc_4, kc_5, reduceIte, Nat.reduceEqDiff, Nat.add_zero, rI_hold, rI_hold, rL_hold, hz, hb]; done) | (simp (disch := omega) only [rI, rIe, rA, rIA, rLA, rJA, rVI, rQI, rVA, rQA, upd_at,  rAI, rLI, rJI, nI_add, pk_sub, kc_0, kc_1, kc_2, kc_3, kc_4, kc_5, reduceIte, Nat.reduceEqDiff, Nat.add_zero, rI_hold, rI_hold, rL_hold, hz, hb]; exact congrArg nI (by omega))) ?_
    refine Bod.go dc_15_151 rfl ?_
    refine Bod.lastN z rfl (by omega) (by omega) dc_15_152 (mk_18 _) (sa_18 _ _ _) (mu_L _ _ _ _) ?_
    refine Bod.go dc_15_153 rfl ?_
    refine Bod.get dc_15_154 fr_15_26 (mk_16 _) rfl ?_
    refine Bod.go dc_15_157 rfl ?_
    refine Bod.get dc_15_158 fr_15_77 (mk_16 _) rfl ?_
    refine Bod.eqI (nI z) (by first | (simp (disch := omega) only [rI, rIe, rA, rIA, rLA, rJA, rVI, rQI, rVA, rQA, upd_at,  rAI, rLI, rJI, nI_add, pk_sub, kc_0, kc_1, kc_2, kc_3, kc_4, kc_5, reduceIte, Nat.reduceEqDiff, Nat.add_zero, rI_hold, rI_hold, rL_hold, hz, hb]; done) | (simp (disch := omega) only [rI, rIe, rA, rIA, rLA, rJA, rVI, rQI, rVA, rQA, upd_at,  rAI, rLI, rJI, nI_add, pk_sub, kc_0, kc_1, kc_2, kc_3, kc_4, kc_5, reduceIte, Nat.reduceEqDiff, Nat.add_zero, rI_hold, rI_hold, rL_hold, hz, hb]; exact congrArg nI (by omega))) ?_
    refine Bod.go dc_15_161 rfl ?_
    refine Bod.get dc_15_162 fr_15_22 (mk_16 _) rfl ?_
    refine Bod.go dc_15_165 rfl ?_
    refine Bod.ialdN h rfl (by omega) (by omega) dc_15_167 (mk_19 _) ?_
    refine Bod.eqI (nI b) (by first | (simp (disch := omega) only [rI, rIe, rA, rIA, rLA, rJA, rVI, rQI, rVA, rQA, upd_at,  rAI, rLI, rJI, nI_add, pk_sub, kc_0, kc_1, kc_2, kc_3, kc_4, kc_5, reduceIte, Nat.reduceEqDiff, Nat.add_zero, rI_hold, rI_hold, rL_hold, hz, hb]; done) | (simp (disch := omega) only [rI, rIe, rA, rIA, rLA, rJA, rVI, rQI, rVA, rQA, upd_at,  rAI, rLI, rJI, nI_add, pk_sub, kc_0, kc_1, kc_2, kc_3, kc_4, kc_5, reduceIte, Nat.reduceEqDiff, Nat.add_zero, rI_hold, rI_hold, rL_hold, hz, hb]; exact congrArg nI (by omega))) ?_
    refine Bod.iastN z rfl (by omega) (by omega) dc_15_168 (mk_20 _) (sa_20 _ _ _) (mu_A _ _ _ _) ?_
    refine Bod.go dc_15_169 rfl ?_
    refine Bod.go dc_15_170 rfl ?_
    refine Bod.get dc_15_171 fr_15_77 (mk_16 _) rfl ?_
    refine Bod.eqI (nI z) (by first | (simp (disch := omega) only [rI, rIe, rA, rIA, rLA, rJA, rVI, rQI, rVA, rQA, upd_at,  rAI, rLI, rJI, nI_add, pk_sub, kc_0, kc_1, kc_2, kc_3, kc_4, kc_5, reduceIte, Nat.reduceEqDiff, Nat.add_zero, rI_hold, rI_hold, rL_hold, hz, hb]; done) | (simp (disch := omega) only [rI, rIe, rA, rIA, rLA, rJA, rVI, rQI, rVA, rQA, upd_at,  rAI, rLI, rJI, nI_add, pk_sub, kc_0, kc_1, kc_2, kc_3, kc_4, kc_5, reduceIte, Nat.reduceEqDiff, Nat.add_zero, rI_hold, rI_hold, rL_hold, hz, hb]; exact congrArg nI (by omega))) ?_
    refine Bod.ic 1 (by decide) dc_15_174 ?_
    refine Bod.addN (z + 1) (by omega) dc_15_175 ?_
    refine Bod.put dc_15_176 fr_15_77 (mk_16 _) (Nat.le_of_ble_eq_true rfl) pf_5_7 (st_1607 _ _) (mu_I _ _ _) ?_
    refine Bod.go dc_15_179 rfl ?_
    refine Bod.get dc_15_180 fr_15_22 (mk_16 _) rfl ?_
    refine Bod.go dc_15_183 rfl ?_
    refine Bod.go dc_15_185 rfl ?_
    refine Bod.get dc_15_186 fr_15_77 (mk_16 _) rfl ?_
    refine Bod.eqI (nI (z + 1)) (by first | (simp (disch := omega) only [rI, rIe, rA, rIA, rLA, rJA, rVI, rQI, rVA, rQA, upd_at,  rAI, rLI, rJI, nI_add, pk_sub, kc_0, kc_1, kc_2, kc_3, kc_4, kc_5, reduceIte, Nat.reduceEqDiff, Nat.add_zero, rI_hold, rI_hold, rL_hold, hz, hb]; done) | (simp (disch := omega) only [rI, rIe, rA, rIA, rLA, rJA, rVI, rQI, rVA, rQA, upd_at,  rAI, rLI, rJI, nI_add, pk_sub, kc_0, kc_1, kc_2, kc_3, kc_4, kc_5, reduceIte, Nat.reduceEqDiff, Nat.add_zero, rI_hold, rI_hold, rL_hold, hz, hb]; exact congrArg nI (by omega))) ?_
    refine Bod.iastN h rfl (by omega) (by omega) dc_15_189 (mk_19 _) (sa_19 _ _ _) (mu_A _ _ _ _) ?_
    refine Bod.go dc_15_190 rfl ?_
    refine Bod.get dc_15_191 fr_15_77 (mk_16 _) rfl ?_
    refine Bod.eqI (nI (z + 1)) (by first | (simp (disch := omega) only [rI, rIe, rA, rIA, rLA, rJA, rVI, rQI, rVA, rQA, upd_at,  rAI, rLI, rJI, nI_add, pk_sub, kc_0, kc_1, kc_2, kc_3, kc_4, kc_5, reduceIte, Nat.reduceEqDiff, Nat.add_zero, rI_hold, rI_hold, rL_hold, hz, hb]; done) | (simp (disch := omega) only [rI, rIe, rA, rIA, rLA, rJA, rVI, rQI, rVA, rQA, upd_at,  rAI, rLI, rJI, nI_add, pk_sub, kc_0, kc_1, kc_2, kc_3, kc_4, kc_5, reduceIte, Nat.reduceEqDiff, Nat.add_zero, rI_hold, rI_hold, rL_hold, hz, hb]; exact congrArg nI (by omega))) ?_
    refine Bod.ic 1 (by decide) dc_15_194 ?_
    refine Bod.subN z (by omega) (by omega) dc_15_195 ?_
    exact Bod.retI dc_15_196 rt_15
