/-! ROWS THAT GROW; values put last -/
theorem dc_185_0 : decode (sm_cc 185) 0 = .ok (.iload_n 1, 1) := by decide +kernel
theorem dc_185_1 : decode (sm_cc 185) 1 = .ok (.invokestatic 65, 3) := by decide +kernel
theorem kr_185_65 : sm_at mt_k (sm_ow 185) 65 = some (65, 2, 139, 0, 1392) := by decide +kernel
theorem dc_185_4 : decode (sm_cc 185) 4 = .ok (.ifCond .eq (10), 3) := by decide +kernel
theorem dc_185_7 : decode (sm_cc 185) 7 = .ok (.iload_n 2, 1) := by decide +kernel
theorem dc_185_8 : decode (sm_cc 185) 8 = .ok (.sipush (600), 3) := by decide +kernel
theorem dc_185_11 : decode (sm_cc 185) 11 = .ok (.if_icmp .le (4), 3) := by decide +kernel
theorem dc_185_15 : decode (sm_cc 185) 15 = .ok (.aload_n 0, 1) := by decide +kernel
theorem dc_185_16 : decode (sm_cc 185) 16 = .ok (.getfield 38, 3) := by decide +kernel
theorem fr_185_38 : sm_at mt_f (sm_ow 185) 38 = some (38, 2, 8, 0, 384) := by decide +kernel
theorem dc_185_19 : decode (sm_cc 185) 19 = .ok (.iload_n 1, 1) := by decide +kernel
theorem dc_185_20 : decode (sm_cc 185) 20 = .ok (.aaload, 1) := by decide +kernel
theorem dc_185_21 : decode (sm_cc 185) 21 = .ok (.ifnonnull (7), 3) := by decide +kernel
theorem dc_185_24 : decode (sm_cc 185) 24 = .ok (.iconst 0, 1) := by decide +kernel
theorem dc_185_25 : decode (sm_cc 185) 25 = .ok (.goto (10), 3) := by decide +kernel
theorem dc_185_35 : decode (sm_cc 185) 35 = .ok (.istore_n 3, 1) := by decide +kernel
theorem ml_185 : sm_ml 185 = 5 := by decide +kernel
theorem dc_185_36 : decode (sm_cc 185) 36 = .ok (.iload_n 2, 1) := by decide +kernel
theorem dc_185_37 : decode (sm_cc 185) 37 = .ok (.iload_n 3, 1) := by decide +kernel
theorem dc_185_38 : decode (sm_cc 185) 38 = .ok (.if_icmp .gt (4), 3) := by decide +kernel
theorem dc_185_42 : decode (sm_cc 185) 42 = .ok (.iload_n 2, 1) := by decide +kernel
theorem dc_185_43 : decode (sm_cc 185) 43 = .ok (.bipush (16), 2) := by decide +kernel
theorem dc_185_45 : decode (sm_cc 185) 45 = .ok (.if_icmp .gt (8), 3) := by decide +kernel
theorem dc_185_48 : decode (sm_cc 185) 48 = .ok (.bipush (16), 2) := by decide +kernel
theorem dc_185_50 : decode (sm_cc 185) 50 = .ok (.goto (30), 3) := by decide +kernel
theorem dc_185_80 : decode (sm_cc 185) 80 = .ok (.istore 4, 2) := by decide +kernel
theorem dc_185_82 : decode (sm_cc 185) 82 = .ok (.aload_n 0, 1) := by decide +kernel
theorem dc_185_83 : decode (sm_cc 185) 83 = .ok (.getfield 38, 3) := by decide +kernel
theorem dc_185_86 : decode (sm_cc 185) 86 = .ok (.iload_n 1, 1) := by decide +kernel
theorem dc_185_87 : decode (sm_cc 185) 87 = .ok (.iload_n 3, 1) := by decide +kernel
theorem dc_185_88 : decode (sm_cc 185) 88 = .ok (.ifCond .ne (10), 3) := by decide +kernel
theorem dc_185_91 : decode (sm_cc 185) 91 = .ok (.iload 4, 2) := by decide +kernel
theorem dc_185_93 : decode (sm_cc 185) 93 = .ok (.newarray .long, 2) := by decide +kernel
theorem dc_185_95 : decode (sm_cc 185) 95 = .ok (.goto (14), 3) := by decide +kernel
theorem dc_185_109 : decode (sm_cc 185) 109 = .ok (.aastore, 1) := by decide +kernel
theorem dc_185_110 : decode (sm_cc 185) 110 = .ok (.return_, 1) := by decide +kernel
theorem rt_185 : sm_rt 185 = none := by decide +kernel
theorem dc_185_53 : decode (sm_cc 185) 53 = .ok (.iload_n 2, 1) := by decide +kernel
theorem dc_185_54 : decode (sm_cc 185) 54 = .ok (.bipush (64), 2) := by decide +kernel
theorem dc_185_56 : decode (sm_cc 185) 56 = .ok (.if_icmp .gt (8), 3) := by decide +kernel
theorem dc_185_59 : decode (sm_cc 185) 59 = .ok (.bipush (64), 2) := by decide +kernel
theorem dc_185_61 : decode (sm_cc 185) 61 = .ok (.goto (19), 3) := by decide +kernel
theorem dc_185_64 : decode (sm_cc 185) 64 = .ok (.iload_n 2, 1) := by decide +kernel
theorem dc_185_65 : decode (sm_cc 185) 65 = .ok (.sipush (240), 3) := by decide +kernel
theorem dc_185_68 : decode (sm_cc 185) 68 = .ok (.if_icmp .gt (9), 3) := by decide +kernel
theorem dc_185_71 : decode (sm_cc 185) 71 = .ok (.sipush (240), 3) := by decide +kernel
theorem dc_185_74 : decode (sm_cc 185) 74 = .ok (.goto (6), 3) := by decide +kernel
theorem dc_185_77 : decode (sm_cc 185) 77 = .ok (.sipush (600), 3) := by decide +kernel
theorem dc_185_28 : decode (sm_cc 185) 28 = .ok (.aload_n 0, 1) := by decide +kernel
theorem dc_185_29 : decode (sm_cc 185) 29 = .ok (.getfield 38, 3) := by decide +kernel
theorem dc_185_32 : decode (sm_cc 185) 32 = .ok (.iload_n 1, 1) := by decide +kernel
theorem dc_185_33 : decode (sm_cc 185) 33 = .ok (.aaload, 1) := by decide +kernel
theorem dc_185_34 : decode (sm_cc 185) 34 = .ok (.arraylength, 1) := by decide +kernel
theorem dc_185_41 : decode (sm_cc 185) 41 = .ok (.return_, 1) := by decide +kernel
theorem dc_183_0 : decode (sm_cc 183) 0 = .ok (.iload_n 1, 1) := by decide +kernel
theorem dc_183_1 : decode (sm_cc 183) 1 = .ok (.invokestatic 65, 3) := by decide +kernel
theorem kr_183_65 : sm_at mt_k (sm_ow 183) 65 = some (65, 2, 139, 0, 1392) := by decide +kernel
theorem dc_183_4 : decode (sm_cc 183) 4 = .ok (.ifCond .eq (21), 3) := by decide +kernel
theorem dc_183_7 : decode (sm_cc 183) 7 = .ok (.aload_n 0, 1) := by decide +kernel
theorem dc_183_8 : decode (sm_cc 183) 8 = .ok (.getfield 33, 3) := by decide +kernel
theorem fr_183_33 : sm_at mt_f (sm_ow 183) 33 = some (33, 2, 7, 0, 383) := by decide +kernel
theorem dc_183_11 : decode (sm_cc 183) 11 = .ok (.iload_n 1, 1) := by decide +kernel
theorem dc_183_12 : decode (sm_cc 183) 12 = .ok (.iaload, 1) := by decide +kernel
theorem dc_183_13 : decode (sm_cc 183) 13 = .ok (.aload_n 0, 1) := by decide +kernel
theorem dc_183_14 : decode (sm_cc 183) 14 = .ok (.getfield 11, 3) := by decide +kernel
theorem fr_183_11 : sm_at mt_f (sm_ow 183) 11 = some (11, 2, 0, 0, 373) := by decide +kernel
theorem dc_183_17 : decode (sm_cc 183) 17 = .ok (.iload_n 1, 1) := by decide +kernel
theorem dc_183_18 : decode (sm_cc 183) 18 = .ok (.iaload, 1) := by decide +kernel
theorem dc_183_19 : decode (sm_cc 183) 19 = .ok (.invokestatic 109, 3) := by decide +kernel
theorem kr_183_109 : sm_at mt_k (sm_ow 183) 109 = some (109, 2, 184, 0, 1588) := by decide +kernel
theorem np_184 : sm_np 184 = 1 := by decide +kernel
theorem dc_183_22 : decode (sm_cc 183) 22 = .ok (.if_icmp .lt (5), 3) := by decide +kernel
theorem dc_183_27 : decode (sm_cc 183) 27 = .ok (.aload_n 0, 1) := by decide +kernel
theorem dc_183_28 : decode (sm_cc 183) 28 = .ok (.getfield 11, 3) := by decide +kernel
theorem dc_183_31 : decode (sm_cc 183) 31 = .ok (.iload_n 1, 1) := by decide +kernel
theorem dc_183_32 : decode (sm_cc 183) 32 = .ok (.iaload, 1) := by decide +kernel
theorem dc_183_33 : decode (sm_cc 183) 33 = .ok (.invokestatic 87, 3) := by decide +kernel
theorem kr_183_87 : sm_at mt_k (sm_ow 183) 87 = some (87, 2, 145, 0, 1415) := by decide +kernel
theorem dc_183_36 : decode (sm_cc 183) 36 = .ok (.istore 10, 2) := by decide +kernel
theorem ml_183 : sm_ml 183 = 12 := by decide +kernel
theorem dc_183_38 : decode (sm_cc 183) 38 = .ok (.aload_n 0, 1) := by decide +kernel
theorem dc_183_39 : decode (sm_cc 183) 39 = .ok (.getfield 33, 3) := by decide +kernel
theorem dc_183_42 : decode (sm_cc 183) 42 = .ok (.iload_n 1, 1) := by decide +kernel
theorem dc_183_43 : decode (sm_cc 183) 43 = .ok (.iaload, 1) := by decide +kernel
theorem dc_183_44 : decode (sm_cc 183) 44 = .ok (.iload 10, 2) := by decide +kernel
theorem dc_183_46 : decode (sm_cc 183) 46 = .ok (.imul, 1) := by decide +kernel
theorem dc_183_47 : decode (sm_cc 183) 47 = .ok (.istore 11, 2) := by decide +kernel
theorem dc_183_49 : decode (sm_cc 183) 49 = .ok (.aload_n 0, 1) := by decide +kernel
theorem dc_183_50 : decode (sm_cc 183) 50 = .ok (.iload_n 1, 1) := by decide +kernel
theorem dc_183_51 : decode (sm_cc 183) 51 = .ok (.iload 11, 2) := by decide +kernel
theorem dc_183_53 : decode (sm_cc 183) 53 = .ok (.iload 10, 2) := by decide +kernel
theorem dc_183_55 : decode (sm_cc 183) 55 = .ok (.iadd, 1) := by decide +kernel
theorem dc_183_56 : decode (sm_cc 183) 56 = .ok (.invokevirtual 112, 3) := by decide +kernel
theorem ow_185 : 2 = sm_ow 185 := by decide +kernel
theorem kr_183_112 : sm_at mt_k (sm_ow 183) 112 = some (112, 0, 185, 0, 1591) := by decide +kernel
theorem np_185 : sm_np 185 = 2 := by decide +kernel
theorem dc_183_59 : decode (sm_cc 183) 59 = .ok (.iload 10, 2) := by decide +kernel
theorem dc_183_61 : decode (sm_cc 183) 61 = .ok (.iconst 2, 1) := by decide +kernel
theorem dc_183_62 : decode (sm_cc 183) 62 = .ok (.if_icmp .lt (27), 3) := by decide +kernel
theorem dc_183_65 : decode (sm_cc 183) 65 = .ok (.aload_n 0, 1) := by decide +kernel
theorem dc_183_66 : decode (sm_cc 183) 66 = .ok (.getfield 38, 3) := by decide +kernel
theorem fr_183_38 : sm_at mt_f (sm_ow 183) 38 = some (38, 2, 8, 0, 384) := by decide +kernel
theorem dc_183_69 : decode (sm_cc 183) 69 = .ok (.iload_n 1, 1) := by decide +kernel
theorem dc_183_70 : decode (sm_cc 183) 70 = .ok (.aaload, 1) := by decide +kernel
theorem dc_183_71 : decode (sm_cc 183) 71 = .ok (.ifnull (18), 3) := by decide +kernel
theorem dc_183_74 : decode (sm_cc 183) 74 = .ok (.iload 11, 2) := by decide +kernel
theorem dc_183_76 : decode (sm_cc 183) 76 = .ok (.iload 10, 2) := by decide +kernel
theorem dc_183_78 : decode (sm_cc 183) 78 = .ok (.iadd, 1) := by decide +kernel
theorem dc_183_79 : decode (sm_cc 183) 79 = .ok (.aload_n 0, 1) := by decide +kernel
theorem dc_183_80 : decode (sm_cc 183) 80 = .ok (.getfield 38, 3) := by decide +kernel
theorem dc_183_83 : decode (sm_cc 183) 83 = .ok (.iload_n 1, 1) := by decide +kernel
theorem dc_183_84 : decode (sm_cc 183) 84 = .ok (.aaload, 1) := by decide +kernel
theorem dc_183_85 : decode (sm_cc 183) 85 = .ok (.arraylength, 1) := by decide +kernel
theorem dc_183_86 : decode (sm_cc 183) 86 = .ok (.if_icmp .le (5), 3) := by decide +kernel
theorem dc_183_91 : decode (sm_cc 183) 91 = .ok (.iload 10, 2) := by decide +kernel
theorem dc_183_93 : decode (sm_cc 183) 93 = .ok (.iconst 4, 1) := by decide +kernel
theorem dc_183_94 : decode (sm_cc 183) 94 = .ok (.if_icmp .ne (26), 3) := by decide +kernel
theorem dc_183_120 : decode (sm_cc 183) 120 = .ok (.aload_n 0, 1) := by decide +kernel
theorem dc_183_121 : decode (sm_cc 183) 121 = .ok (.getfield 38, 3) := by decide +kernel
theorem dc_183_124 : decode (sm_cc 183) 124 = .ok (.iload_n 1, 1) := by decide +kernel
theorem dc_183_125 : decode (sm_cc 183) 125 = .ok (.aaload, 1) := by decide +kernel
theorem dc_183_126 : decode (sm_cc 183) 126 = .ok (.iload 11, 2) := by decide +kernel
theorem dc_183_128 : decode (sm_cc 183) 128 = .ok (.iload 10, 2) := by decide +kernel
theorem dc_183_130 : decode (sm_cc 183) 130 = .ok (.iadd, 1) := by decide +kernel
theorem dc_183_131 : decode (sm_cc 183) 131 = .ok (.iconst 2, 1) := by decide +kernel
theorem dc_183_132 : decode (sm_cc 183) 132 = .ok (.isub, 1) := by decide +kernel
theorem dc_183_133 : decode (sm_cc 183) 133 = .ok (.lload 6, 2) := by decide +kernel
theorem dc_183_135 : decode (sm_cc 183) 135 = .ok (.lastore, 1) := by decide +kernel
theorem dc_183_136 : decode (sm_cc 183) 136 = .ok (.aload_n 0, 1) := by decide +kernel
theorem dc_183_137 : decode (sm_cc 183) 137 = .ok (.getfield 38, 3) := by decide +kernel
theorem dc_183_140 : decode (sm_cc 183) 140 = .ok (.iload_n 1, 1) := by decide +kernel
theorem dc_183_141 : decode (sm_cc 183) 141 = .ok (.aaload, 1) := by decide +kernel
theorem dc_183_142 : decode (sm_cc 183) 142 = .ok (.iload 11, 2) := by decide +kernel
theorem dc_183_144 : decode (sm_cc 183) 144 = .ok (.iload 10, 2) := by decide +kernel
theorem dc_183_146 : decode (sm_cc 183) 146 = .ok (.iadd, 1) := by decide +kernel
theorem dc_183_147 : decode (sm_cc 183) 147 = .ok (.iconst 1, 1) := by decide +kernel
theorem dc_183_148 : decode (sm_cc 183) 148 = .ok (.isub, 1) := by decide +kernel
theorem dc_183_149 : decode (sm_cc 183) 149 = .ok (.lload 8, 2) := by decide +kernel
theorem dc_183_151 : decode (sm_cc 183) 151 = .ok (.lastore, 1) := by decide +kernel
theorem dc_183_152 : decode (sm_cc 183) 152 = .ok (.aload_n 0, 1) := by decide +kernel
theorem dc_183_153 : decode (sm_cc 183) 153 = .ok (.getfield 33, 3) := by decide +kernel
theorem dc_183_156 : decode (sm_cc 183) 156 = .ok (.iload_n 1, 1) := by decide +kernel
theorem dc_183_157 : decode (sm_cc 183) 157 = .ok (.dup2, 1) := by decide +kernel
theorem dc_183_158 : decode (sm_cc 183) 158 = .ok (.iaload, 1) := by decide +kernel
theorem dc_183_159 : decode (sm_cc 183) 159 = .ok (.iconst 1, 1) := by decide +kernel
theorem dc_183_160 : decode (sm_cc 183) 160 = .ok (.iadd, 1) := by decide +kernel
theorem dc_183_161 : decode (sm_cc 183) 161 = .ok (.iastore, 1) := by decide +kernel
theorem dc_183_162 : decode (sm_cc 183) 162 = .ok (.aload_n 0, 1) := by decide +kernel
theorem dc_183_163 : decode (sm_cc 183) 163 = .ok (.aload_n 0, 1) := by decide +kernel
theorem dc_183_164 : decode (sm_cc 183) 164 = .ok (.getfield 15, 3) := by decide +kernel
theorem fr_183_15 : sm_at mt_f (sm_ow 183) 15 = some (15, 2, 1, 0, 374) := by decide +kernel
theorem dc_183_167 : decode (sm_cc 183) 167 = .ok (.lload 6, 2) := by decide +kernel
theorem dc_183_169 : decode (sm_cc 183) 169 = .ok (.lload 8, 2) := by decide +kernel
theorem dc_183_171 : decode (sm_cc 183) 171 = .ok (.invokestatic 91, 3) := by decide +kernel
theorem kr_183_91 : sm_at mt_k (sm_ow 183) 91 = some (91, 3, 137, 1, 1418) := by decide +kernel
theorem dc_183_174 : decode (sm_cc 183) 174 = .ok (.invokevirtual 69, 3) := by decide +kernel
theorem kr_183_69 : sm_at mt_k (sm_ow 183) 69 = some (69, 0, 149, 0, 1549) := by decide +kernel
theorem dc_183_177 : decode (sm_cc 183) 177 = .ok (.iconst 1, 1) := by decide +kernel
theorem dc_183_178 : decode (sm_cc 183) 178 = .ok (.ireturn, 1) := by decide +kernel
theorem rt_183 : sm_rt 183 = some .boolean := by decide +kernel
theorem dc_183_97 : decode (sm_cc 183) 97 = .ok (.aload_n 0, 1) := by decide +kernel
theorem dc_183_98 : decode (sm_cc 183) 98 = .ok (.getfield 38, 3) := by decide +kernel
theorem dc_183_101 : decode (sm_cc 183) 101 = .ok (.iload_n 1, 1) := by decide +kernel
theorem dc_183_102 : decode (sm_cc 183) 102 = .ok (.aaload, 1) := by decide +kernel
theorem dc_183_103 : decode (sm_cc 183) 103 = .ok (.iload 11, 2) := by decide +kernel
theorem dc_183_105 : decode (sm_cc 183) 105 = .ok (.lload_n 2, 1) := by decide +kernel
theorem dc_183_106 : decode (sm_cc 183) 106 = .ok (.lastore, 1) := by decide +kernel
theorem dc_183_107 : decode (sm_cc 183) 107 = .ok (.aload_n 0, 1) := by decide +kernel
theorem dc_183_108 : decode (sm_cc 183) 108 = .ok (.getfield 38, 3) := by decide +kernel
theorem dc_183_111 : decode (sm_cc 183) 111 = .ok (.iload_n 1, 1) := by decide +kernel
theorem dc_183_112 : decode (sm_cc 183) 112 = .ok (.aaload, 1) := by decide +kernel
theorem dc_183_113 : decode (sm_cc 183) 113 = .ok (.iload 11, 2) := by decide +kernel
theorem dc_183_115 : decode (sm_cc 183) 115 = .ok (.iconst 1, 1) := by decide +kernel
theorem dc_183_116 : decode (sm_cc 183) 116 = .ok (.iadd, 1) := by decide +kernel
theorem dc_183_117 : decode (sm_cc 183) 117 = .ok (.lload 4, 2) := by decide +kernel
theorem dc_183_119 : decode (sm_cc 183) 119 = .ok (.lastore, 1) := by decide +kernel
theorem ht4_row : 4 < mt_el.length ∧ sm_el 4 = .array .long := by decide +kernel
theorem mk_newrow_at (N u : Nat) (S : cS) : (mk (wK (1, N) u (wG (108 + (sS S).length) (fun _ => 0) S)))[108 + (sS S).length]? = some (.inl (1, N, .inr (.inl (fun _ => 0)))) := by
  rw [← mk_newrow, ← mk_len]
  exact List.getElem?_concat_length
theorem sx_aastR {j pc : Nat} {lv : sm_L} {st : List Value} {X : Option (Nat × (Nat → Int32))} {cal : Nat → List Value → sm_H → Nat → Option sm_R} {n u : Nat} {σ : sm_H} {a N t q : Nat} {f : Nat → Option Nat} {x : Int32} {y : Nat × ((Nat → Int32) ⊕ (Nat → Int64) ⊕ (Nat → UInt32) ⊕ (Nat → UInt64) ⊕ (Nat → Option Nat))} (hd : decode (sm_cc j) pc = .ok (.aastore, 1)) (hc : σ[a]? = some (.inl (t, N, .inr (.inr (.inr (.inr f)))))) (hq : σ[q]? = some (.inl (1, y))) (ht : t < mt_el.length ∧ sm_el t = .array .long) (hi : ¬ (x < 0 ∨ N ≤ x.toNatClampNeg)) : sm_run X cal j (n + 1) (pc, lv, .ref q :: .int x :: .ref a :: st, σ, u) = sm_run X cal j n (pc + 1, lv, st, σ.set a (.inl (t, N, .inr (.inr (.inr (.inr (va_up f x.toNatClampNeg (some q))))))), u) := sx_go hd (sd_wr rfl rfl rfl rfl (by
  unfold sm_wr
  simp only [hc, hq, if_pos ht, if_neg hi]))
theorem Bod.aastR {d j pc : Nat} {lv : sm_L} {st : List Value} {S S1 Sf : cS} {v : Option Value} {a N t q : Nat} {f : Nat → Option Nat} {x : Int32} {y : Nat × ((Nat → Int32) ⊕ (Nat → Int64) ⊕ (Nat → UInt32) ⊕ (Nat → UInt64) ⊕ (Nat → Option Nat))} (m : Nat) (ex : x = nI m) (hm : m < N) (hN : N < 2 ^ 31) (hd : decode (sm_cc j) pc = .ok (.aastore, 1)) (hc : (mk S)[a]? = some (.inl (t, N, .inr (.inr (.inr (.inr f)))))) (hq : (mk S)[q]? = some (.inl (1, y))) (ht : t < mt_el.length ∧ sm_el t = .array .long) (hs : (mk S).set a (.inl (t, N, .inr (.inr (.inr (.inr (va_up f m (some q))))))) = mk S1) (hu : mu S1 = mu S) (h : Bod d j (pc + 1) lv st S1 v Sf) : Bod d j pc lv (.ref q :: .int x :: .ref a :: st) S v Sf := by
  subst ex
  refine Bod.of (fun _ _ => (sx_aastR hd hc hq ht (nI_in hm hN)).trans ?_) h
  rw [nI_clamp (by omega), hs, hu]
theorem growRow_new16 {d : Nat} {S : cS} {k : Nat} {q : Nat} (h0 : 1 ≤ k) (hk : k ≤ 1500) (hl : 1 ≤ q) (hq : q ≤ 16) (hr : sQ S 11 k = none) : Ans (d + 2) 185 [.ref 2, .int (nI k), .int (nI q)] S (none) (wQ 11 k (some (108 + (sS S).length)) (wK (1, 16) 16 (wG (108 + (sS S).length) (fun _ => 0) S))) := by
  refine Ans.of (by rw [ml_185]; exact Nat.le_of_ble_eq_true rfl) ?_
  refine Bod.go dc_185_0 rfl ?_
  refine Bod.stat (r := []) dc_185_1 kr_185_65 (Or.inl rfl) (by rw [np_139]; rfl) (by rw [np_139]; rfl) (by rw [np_139]; exact Nat.le_of_ble_eq_true rfl) (Nat.le_of_ble_eq_true rfl) (isId_T (k := k) (by omega) (by omega)) ?_
  show Bod _ _ _ _ [_] _ _ _
  refine Bod.ifF dc_185_4 rfl (k1_eq_F (k_ne 1 0 rfl rfl (by omega) (by omega) (by omega))) ?_
  refine Bod.go dc_185_7 rfl ?_
  refine Bod.sip 600 (by decide) dc_185_8 ?_
  refine Bod.icT dc_185_11 rfl (k2_le_T q 600 rfl rfl (by omega) (by omega)) ?_
  refine Bod.go dc_185_15 rfl ?_
  refine Bod.get dc_185_16 fr_185_38 (mk_2 _) rfl ?_
  refine Bod.go dc_185_19 rfl ?_
  refine Bod.aald0 k rfl (by omega) (by omega) (f := _) (N := 1501) hr dc_185_20 (mk_11 _) ht_4 ?_
  refine Bod.go dc_185_21 rfl ?_
  refine Bod.ic 0 (by decide) dc_185_24 ?_
  refine Bod.go dc_185_25 rfl ?_
  refine Bod.istn dc_185_35 (by rw [ml_185]; exact Nat.le_of_ble_eq_true rfl) ?_
  refine Bod.go dc_185_36 rfl ?_
  refine Bod.go dc_185_37 rfl ?_
  refine Bod.icT dc_185_38 rfl (k2_gt_T q 0 rfl rfl (by omega) (by omega)) ?_
  refine Bod.go dc_185_42 rfl ?_
  refine Bod.bip 16 (by decide) dc_185_43 ?_
  refine Bod.icF dc_185_45 rfl (k2_gt_F q 16 rfl rfl (by omega) (by omega)) ?_
  refine Bod.bip 16 (by decide) dc_185_48 ?_
  refine Bod.go dc_185_50 rfl ?_
  refine Bod.ist dc_185_80 (by rw [ml_185]; exact Nat.le_of_ble_eq_true rfl) ?_
  refine Bod.go dc_185_82 rfl ?_
  refine Bod.get dc_185_83 fr_185_38 (mk_2 _) rfl ?_
  refine Bod.go dc_185_86 rfl ?_
  refine Bod.go dc_185_87 rfl ?_
  refine Bod.ifF dc_185_88 rfl (k1_ne_F (k_eq 0 0 rfl rfl (by omega))) ?_
  refine Bod.go dc_185_91 rfl ?_
  refine Bod.newlong (by omega) dc_185_93 ?_
  refine Bod.go dc_185_95 rfl ?_
  refine Bod.aastR k rfl (by omega) (by omega) dc_185_109 (mk_11 _) (mk_newrow_at _ _ _) ht4_row (sa_11 _ _ _) (mu_Q _ _ _ _) ?_
  exact Bod.retV dc_185_110 rt_185
theorem growRow_new64 {d : Nat} {S : cS} {k : Nat} {q : Nat} (h0 : 1 ≤ k) (hk : k ≤ 1500) (hl : 17 ≤ q) (hq : q ≤ 64) (hr : sQ S 11 k = none) : Ans (d + 2) 185 [.ref 2, .int (nI k), .int (nI q)] S (none) (wQ 11 k (some (108 + (sS S).length)) (wK (1, 64) 64 (wG (108 + (sS S).length) (fun _ => 0) S))) := by
  refine Ans.of (by rw [ml_185]; exact Nat.le_of_ble_eq_true rfl) ?_
  refine Bod.go dc_185_0 rfl ?_
  refine Bod.stat (r := []) dc_185_1 kr_185_65 (Or.inl rfl) (by rw [np_139]; rfl) (by rw [np_139]; rfl) (by rw [np_139]; exact Nat.le_of_ble_eq_true rfl) (Nat.le_of_ble_eq_true rfl) (isId_T (k := k) (by omega) (by omega)) ?_
  show Bod _ _ _ _ [_] _ _ _
  refine Bod.ifF dc_185_4 rfl (k1_eq_F (k_ne 1 0 rfl rfl (by omega) (by omega) (by omega))) ?_
  refine Bod.go dc_185_7 rfl ?_
  refine Bod.sip 600 (by decide) dc_185_8 ?_
  refine Bod.icT dc_185_11 rfl (k2_le_T q 600 rfl rfl (by omega) (by omega)) ?_
  refine Bod.go dc_185_15 rfl ?_
  refine Bod.get dc_185_16 fr_185_38 (mk_2 _) rfl ?_
  refine Bod.go dc_185_19 rfl ?_
  refine Bod.aald0 k rfl (by omega) (by omega) (f := _) (N := 1501) hr dc_185_20 (mk_11 _) ht_4 ?_
  refine Bod.go dc_185_21 rfl ?_
  refine Bod.ic 0 (by decide) dc_185_24 ?_
  refine Bod.go dc_185_25 rfl ?_
  refine Bod.istn dc_185_35 (by rw [ml_185]; exact Nat.le_of_ble_eq_true rfl) ?_
  refine Bod.go dc_185_36 rfl ?_
  refine Bod.go dc_185_37 rfl ?_
  refine Bod.icT dc_185_38 rfl (k2_gt_T q 0 rfl rfl (by omega) (by omega)) ?_
  refine Bod.go dc_185_42 rfl ?_
  refine Bod.bip 16 (by decide) dc_185_43 ?_
  refine Bod.icT dc_185_45 rfl (k2_gt_T q 16 rfl rfl (by omega) (by omega)) ?_
  refine Bod.go dc_185_53 rfl ?_
  refine Bod.bip 64 (by decide) dc_185_54 ?_
  refine Bod.icF dc_185_56 rfl (k2_gt_F q 64 rfl rfl (by omega) (by omega)) ?_
  refine Bod.bip 64 (by decide) dc_185_59 ?_
  refine Bod.go dc_185_61 rfl ?_
  refine Bod.ist dc_185_80 (by rw [ml_185]; exact Nat.le_of_ble_eq_true rfl) ?_
  refine Bod.go dc_185_82 rfl ?_
  refine Bod.get dc_185_83 fr_185_38 (mk_2 _) rfl ?_
  refine Bod.go dc_185_86 rfl ?_
  refine Bod.go dc_185_87 rfl ?_
  refine Bod.ifF dc_185_88 rfl (k1_ne_F (k_eq 0 0 rfl rfl (by omega))) ?_
  refine Bod.go dc_185_91 rfl ?_
  refine Bod.newlong (by omega) dc_185_93 ?_
  refine Bod.go dc_185_95 rfl ?_
  refine Bod.aastR k rfl (by omega) (by omega) dc_185_109 (mk_11 _) (mk_newrow_at _ _ _) ht4_row (sa_11 _ _ _) (mu_Q _ _ _ _) ?_
  exact Bod.retV dc_185_110 rt_185
theorem growRow_new240 {d : Nat} {S : cS} {k : Nat} {q : Nat} (h0 : 1 ≤ k) (hk : k ≤ 1500) (hl : 65 ≤ q) (hq : q ≤ 240) (hr : sQ S 11 k = none) : Ans (d + 2) 185 [.ref 2, .int (nI k), .int (nI q)] S (none) (wQ 11 k (some (108 + (sS S).length)) (wK (1, 240) 240 (wG (108 + (sS S).length) (fun _ => 0) S))) := by
  refine Ans.of (by rw [ml_185]; exact Nat.le_of_ble_eq_true rfl) ?_
  refine Bod.go dc_185_0 rfl ?_
  refine Bod.stat (r := []) dc_185_1 kr_185_65 (Or.inl rfl) (by rw [np_139]; rfl) (by rw [np_139]; rfl) (by rw [np_139]; exact Nat.le_of_ble_eq_true rfl) (Nat.le_of_ble_eq_true rfl) (isId_T (k := k) (by omega) (by omega)) ?_
  show Bod _ _ _ _ [_] _ _ _
  refine Bod.ifF dc_185_4 rfl (k1_eq_F (k_ne 1 0 rfl rfl (by omega) (by omega) (by omega))) ?_
  refine Bod.go dc_185_7 rfl ?_
  refine Bod.sip 600 (by decide) dc_185_8 ?_
  refine Bod.icT dc_185_11 rfl (k2_le_T q 600 rfl rfl (by omega) (by omega)) ?_
  refine Bod.go dc_185_15 rfl ?_
  refine Bod.get dc_185_16 fr_185_38 (mk_2 _) rfl ?_
  refine Bod.go dc_185_19 rfl ?_
  refine Bod.aald0 k rfl (by omega) (by omega) (f := _) (N := 1501) hr dc_185_20 (mk_11 _) ht_4 ?_
  refine Bod.go dc_185_21 rfl ?_
  refine Bod.ic 0 (by decide) dc_185_24 ?_
  refine Bod.go dc_185_25 rfl ?_
  refine Bod.istn dc_185_35 (by rw [ml_185]; exact Nat.le_of_ble_eq_true rfl) ?_
  refine Bod.go dc_185_36 rfl ?_
  refine Bod.go dc_185_37 rfl ?_
  refine Bod.icT dc_185_38 rfl (k2_gt_T q 0 rfl rfl (by omega) (by omega)) ?_
  refine Bod.go dc_185_42 rfl ?_
  refine Bod.bip 16 (by decide) dc_185_43 ?_
  refine Bod.icT dc_185_45 rfl (k2_gt_T q 16 rfl rfl (by omega) (by omega)) ?_
  refine Bod.go dc_185_53 rfl ?_
  refine Bod.bip 64 (by decide) dc_185_54 ?_
  refine Bod.icT dc_185_56 rfl (k2_gt_T q 64 rfl rfl (by omega) (by omega)) ?_
  refine Bod.go dc_185_64 rfl ?_
  refine Bod.sip 240 (by decide) dc_185_65 ?_
  refine Bod.icF dc_185_68 rfl (k2_gt_F q 240 rfl rfl (by omega) (by omega)) ?_
  refine Bod.sip 240 (by decide) dc_185_71 ?_
  refine Bod.go dc_185_74 rfl ?_
  refine Bod.ist dc_185_80 (by rw [ml_185]; exact Nat.le_of_ble_eq_true rfl) ?_
  refine Bod.go dc_185_82 rfl ?_
  refine Bod.get dc_185_83 fr_185_38 (mk_2 _) rfl ?_
  refine Bod.go dc_185_86 rfl ?_
  refine Bod.go dc_185_87 rfl ?_
  refine Bod.ifF dc_185_88 rfl (k1_ne_F (k_eq 0 0 rfl rfl (by omega))) ?_
  refine Bod.go dc_185_91 rfl ?_
  refine Bod.newlong (by omega) dc_185_93 ?_
  refine Bod.go dc_185_95 rfl ?_
  refine Bod.aastR k rfl (by omega) (by omega) dc_185_109 (mk_11 _) (mk_newrow_at _ _ _) ht4_row (sa_11 _ _ _) (mu_Q _ _ _ _) ?_
  exact Bod.retV dc_185_110 rt_185
theorem growRow_new600 {d : Nat} {S : cS} {k : Nat} {q : Nat} (h0 : 1 ≤ k) (hk : k ≤ 1500) (hl : 241 ≤ q) (hq : q ≤ 600) (hr : sQ S 11 k = none) : Ans (d + 2) 185 [.ref 2, .int (nI k), .int (nI q)] S (none) (wQ 11 k (some (108 + (sS S).length)) (wK (1, 600) 600 (wG (108 + (sS S).length) (fun _ => 0) S))) := by
  refine Ans.of (by rw [ml_185]; exact Nat.le_of_ble_eq_true rfl) ?_
  refine Bod.go dc_185_0 rfl ?_
  refine Bod.stat (r := []) dc_185_1 kr_185_65 (Or.inl rfl) (by rw [np_139]; rfl) (by rw [np_139]; rfl) (by rw [np_139]; exact Nat.le_of_ble_eq_true rfl) (Nat.le_of_ble_eq_true rfl) (isId_T (k := k) (by omega) (by omega)) ?_
  show Bod _ _ _ _ [_] _ _ _
  refine Bod.ifF dc_185_4 rfl (k1_eq_F (k_ne 1 0 rfl rfl (by omega) (by omega) (by omega))) ?_
  refine Bod.go dc_185_7 rfl ?_
  refine Bod.sip 600 (by decide) dc_185_8 ?_
  refine Bod.icT dc_185_11 rfl (k2_le_T q 600 rfl rfl (by omega) (by omega)) ?_
  refine Bod.go dc_185_15 rfl ?_
  refine Bod.get dc_185_16 fr_185_38 (mk_2 _) rfl ?_
  refine Bod.go dc_185_19 rfl ?_
  refine Bod.aald0 k rfl (by omega) (by omega) (f := _) (N := 1501) hr dc_185_20 (mk_11 _) ht_4 ?_
  refine Bod.go dc_185_21 rfl ?_
  refine Bod.ic 0 (by decide) dc_185_24 ?_
  refine Bod.go dc_185_25 rfl ?_
  refine Bod.istn dc_185_35 (by rw [ml_185]; exact Nat.le_of_ble_eq_true rfl) ?_
  refine Bod.go dc_185_36 rfl ?_
  refine Bod.go dc_185_37 rfl ?_
  refine Bod.icT dc_185_38 rfl (k2_gt_T q 0 rfl rfl (by omega) (by omega)) ?_
  refine Bod.go dc_185_42 rfl ?_
  refine Bod.bip 16 (by decide) dc_185_43 ?_
  refine Bod.icT dc_185_45 rfl (k2_gt_T q 16 rfl rfl (by omega) (by omega)) ?_
  refine Bod.go dc_185_53 rfl ?_
  refine Bod.bip 64 (by decide) dc_185_54 ?_
  refine Bod.icT dc_185_56 rfl (k2_gt_T q 64 rfl rfl (by omega) (by omega)) ?_
  refine Bod.go dc_185_64 rfl ?_
  refine Bod.sip 240 (by decide) dc_185_65 ?_
  refine Bod.icT dc_185_68 rfl (k2_gt_T q 240 rfl rfl (by omega) (by omega)) ?_
  refine Bod.sip 600 (by decide) dc_185_77 ?_
  refine Bod.ist dc_185_80 (by rw [ml_185]; exact Nat.le_of_ble_eq_true rfl) ?_
  refine Bod.go dc_185_82 rfl ?_
  refine Bod.get dc_185_83 fr_185_38 (mk_2 _) rfl ?_
  refine Bod.go dc_185_86 rfl ?_
  refine Bod.go dc_185_87 rfl ?_
  refine Bod.ifF dc_185_88 rfl (k1_ne_F (k_eq 0 0 rfl rfl (by omega))) ?_
  refine Bod.go dc_185_91 rfl ?_
  refine Bod.newlong (by omega) dc_185_93 ?_
  refine Bod.go dc_185_95 rfl ?_
  refine Bod.aastR k rfl (by omega) (by omega) dc_185_109 (mk_11 _) (mk_newrow_at _ _ _) ht4_row (sa_11 _ _ _) (mu_Q _ _ _ _) ?_
  exact Bod.retV dc_185_110 rt_185
theorem growRow_fit {d : Nat} {S : cS} {k : Nat} {a : Nat} {N : Nat} {q : Nat} (h0 : 1 ≤ k) (hk : k ≤ 1500) (hq : q ≤ 600) (hr : sQ S 11 k = some a) (ha : 108 ≤ a) (hs : (sS S)[a - 108]? = some (1, N)) (hN : N < 2 ^ 31) (hf : q ≤ N) : Ans (d + 2) 185 [.ref 2, .int (nI k), .int (nI q)] S (none) (S) := by
  refine Ans.of (by rw [ml_185]; exact Nat.le_of_ble_eq_true rfl) ?_
  refine Bod.go dc_185_0 rfl ?_
  refine Bod.stat (r := []) dc_185_1 kr_185_65 (Or.inl rfl) (by rw [np_139]; rfl) (by rw [np_139]; rfl) (by rw [np_139]; exact Nat.le_of_ble_eq_true rfl) (Nat.le_of_ble_eq_true rfl) (isId_T (k := k) (by omega) (by omega)) ?_
  show Bod _ _ _ _ [_] _ _ _
  refine Bod.ifF dc_185_4 rfl (k1_eq_F (k_ne 1 0 rfl rfl (by omega) (by omega) (by omega))) ?_
  refine Bod.go dc_185_7 rfl ?_
  refine Bod.sip 600 (by decide) dc_185_8 ?_
  refine Bod.icT dc_185_11 rfl (k2_le_T q 600 rfl rfl (by omega) (by omega)) ?_
  refine Bod.go dc_185_15 rfl ?_
  refine Bod.get dc_185_16 fr_185_38 (mk_2 _) rfl ?_
  refine Bod.go dc_185_19 rfl ?_
  refine Bod.aaldR (N := 1501) (b := a) k rfl (by omega) (by omega) hr dc_185_20 (mk_11 _) ht_4 ?_
  refine Bod.go dc_185_21 rfl ?_
  refine Bod.go dc_185_28 rfl ?_
  refine Bod.get dc_185_29 fr_185_38 (mk_2 _) rfl ?_
  refine Bod.go dc_185_32 rfl ?_
  refine Bod.aaldR (N := 1501) (b := a) k rfl (by omega) (by omega) hr dc_185_33 (mk_11 _) ht_4 ?_
  refine Bod.alenN (N := N) dc_185_34 (mk_row ha hs) el_1 ?_
  refine Bod.istn dc_185_35 (by rw [ml_185]; exact Nat.le_of_ble_eq_true rfl) ?_
  refine Bod.go dc_185_36 rfl ?_
  refine Bod.go dc_185_37 rfl ?_
  refine Bod.icF dc_185_38 rfl (k2_gt_F q N rfl rfl (by omega) (by omega)) ?_
  exact Bod.retV dc_185_41 rt_185
theorem append_2 {d : Nat} {S : cS} {k : Nat} {kd : Nat} {z : Nat} {a : Nat} {N : Nat} {kh : Int64} {kl : Int64} {hi : Int64} {lo : Int64} {o : Nat} {mx : Nat} (h0 : 1 ≤ k) (hk : k ≤ 1500) (hkd : sA S 3 k = nI kd) (h7 : kd ≤ 7) (hsz : sA S 10 k = nI z) (hr : sQ S 11 k = some a) (ha : 108 ≤ a) (hs : (sS S)[a - 108]? = some (1, N)) (hN : N < 2 ^ 31) (hw : c_width kd = 2) (hmx : c_most kd = mx) (hz : z < mx) (hm3 : mx ≤ 300) (hf : 2 * z + 2 ≤ N) (hN6 : 2 * z + 2 ≤ 600) (ho : c_obj hi lo = nI o) (ho2 : o ≤ 1500) : Ans (d + 3) 183 [.ref 2, .int (nI k), .long kh, .long kl, .long hi, .long lo] S (some (.int 1)) (c_hold 4 o (wA 10 k (nI (z + 1)) (wL a (2 * z + 1) lo (wL a (2 * z) hi S)))) := by
  refine Ans.of (by rw [ml_183]; exact Nat.le_of_ble_eq_true rfl) ?_
  refine Bod.go dc_183_0 rfl ?_
  refine Bod.stat (r := []) dc_183_1 kr_183_65 (Or.inl rfl) (by rw [np_139]; rfl) (by rw [np_139]; rfl) (by rw [np_139]; exact Nat.le_of_ble_eq_true rfl) (Nat.le_of_ble_eq_true rfl) (isId_T (k := k) (by omega) (by omega)) ?_
  show Bod _ _ _ _ [_] _ _ _
  refine Bod.ifF dc_183_4 rfl (k1_eq_F (k_ne 1 0 rfl rfl (by omega) (by omega) (by omega))) ?_
  refine Bod.go dc_183_7 rfl ?_
  refine Bod.get dc_183_8 fr_183_33 (mk_2 _) rfl ?_
  refine Bod.go dc_183_11 rfl ?_
  refine Bod.ialdN k rfl (by omega) (by omega) dc_183_12 (mk_10 _) ?_
  refine Bod.eqI (nI z) (by first | assumption | rfl | exact congrArg nI (by omega) | (simp (disch := omega) only [rI, rIe, rA, rIA, rLA, rJA, rVI, rQI, rVA, rQA, upd_at,  rAI, rLI, rJI, nI_add, pk_sub, kc_0, kc_1, kc_2, kc_3, kc_4, kc_5, reduceIte, Nat.reduceEqDiff, Nat.add_zero, rI_hold, rI_hold, rL_hold, hkd, hsz]; done)) ?_
  refine Bod.go dc_183_13 rfl ?_
  refine Bod.get dc_183_14 fr_183_11 (mk_2 _) rfl ?_
  refine Bod.go dc_183_17 rfl ?_
  refine Bod.ialdN k rfl (by omega) (by omega) dc_183_18 (mk_3 _) ?_
  refine Bod.eqI (nI kd) (by first | assumption | rfl | exact congrArg nI (by omega) | (simp (disch := omega) only [rI, rIe, rA, rIA, rLA, rJA, rVI, rQI, rVA, rQA, upd_at,  rAI, rLI, rJI, nI_add, pk_sub, kc_0, kc_1, kc_2, kc_3, kc_4, kc_5, reduceIte, Nat.reduceEqDiff, Nat.add_zero, rI_hold, rI_hold, rL_hold, hkd, hsz]; done)) ?_
  refine Bod.stat (r := [_]) dc_183_19 kr_183_109 (Or.inl rfl) (by rw [np_184]; rfl) (by rw [np_184]; rfl) (by rw [np_184]; exact Nat.le_of_ble_eq_true rfl) (Nat.le_of_ble_eq_true rfl) (mostOf_ev (kd := kd) (w := mx) (by omega) hmx) ?_
  show Bod _ _ _ _ [_, _] _ _ _
  refine Bod.icT dc_183_22 rfl (k2_lt_T z mx rfl rfl (by omega) (by omega)) ?_
  refine Bod.go dc_183_27 rfl ?_
  refine Bod.get dc_183_28 fr_183_11 (mk_2 _) rfl ?_
  refine Bod.go dc_183_31 rfl ?_
  refine Bod.ialdN k rfl (by omega) (by omega) dc_183_32 (mk_3 _) ?_
  refine Bod.eqI (nI kd) (by first | assumption | rfl | exact congrArg nI (by omega) | (simp (disch := omega) only [rI, rIe, rA, rIA, rLA, rJA, rVI, rQI, rVA, rQA, upd_at,  rAI, rLI, rJI, nI_add, pk_sub, kc_0, kc_1, kc_2, kc_3, kc_4, kc_5, reduceIte, Nat.reduceEqDiff, Nat.add_zero, rI_hold, rI_hold, rL_hold, hkd, hsz]; done)) ?_
  refine Bod.stat (r := []) dc_183_33 kr_183_87 (Or.inl rfl) (by rw [np_145]; rfl) (by rw [np_145]; rfl) (by rw [np_145]; exact Nat.le_of_ble_eq_true rfl) (Nat.le_of_ble_eq_true rfl) (widthOf_ev (kd := kd) (w := 2) (by omega) hw) ?_
  show Bod _ _ _ _ [_] _ _ _
  refine Bod.ist dc_183_36 (by rw [ml_183]; exact Nat.le_of_ble_eq_true rfl) ?_
  refine Bod.go dc_183_38 rfl ?_
  refine Bod.get dc_183_39 fr_183_33 (mk_2 _) rfl ?_
  refine Bod.go dc_183_42 rfl ?_
  refine Bod.ialdN k rfl (by omega) (by omega) dc_183_43 (mk_10 _) ?_
  refine Bod.eqI (nI z) (by first | assumption | rfl | exact congrArg nI (by omega) | (simp (disch := omega) only [rI, rIe, rA, rIA, rLA, rJA, rVI, rQI, rVA, rQA, upd_at,  rAI, rLI, rJI, nI_add, pk_sub, kc_0, kc_1, kc_2, kc_3, kc_4, kc_5, reduceIte, Nat.reduceEqDiff, Nat.add_zero, rI_hold, rI_hold, rL_hold, hkd, hsz]; done)) ?_
  refine Bod.go dc_183_44 rfl ?_
  refine Bod.mulN (2 * z) (by omega) dc_183_46 ?_
  refine Bod.ist dc_183_47 (by rw [ml_183]; exact Nat.le_of_ble_eq_true rfl) ?_
  refine Bod.go dc_183_49 rfl ?_
  refine Bod.go dc_183_50 rfl ?_
  refine Bod.go dc_183_51 rfl ?_
  refine Bod.go dc_183_53 rfl ?_
  refine Bod.addN (2 * z + 2) (by omega) dc_183_55 ?_
  refine Bod.virt (r := []) dc_183_56 kr_183_112 ⟨Or.inl rfl, ow_185, cl_2⟩ (by rw [np_185]; rfl) (by rw [np_185]; rfl) (ob_of (mk_2 _)) (Nat.le_of_ble_eq_true rfl) (growRow_fit (k := k) (a := a) (N := N) (q := 2 * z + 2) (by omega) (by omega) (by omega) hr (by omega) hs (by omega) (by omega)) ?_
  show Bod _ _ _ _ [] _ _ _
  refine Bod.go dc_183_59 rfl ?_
  refine Bod.ic 2 (by decide) dc_183_61 ?_
  refine Bod.icF dc_183_62 rfl (k2_lt_F 2 2 rfl rfl (by omega) (by omega)) ?_
  refine Bod.go dc_183_65 rfl ?_
  refine Bod.get dc_183_66 fr_183_38 (mk_2 _) rfl ?_
  refine Bod.go dc_183_69 rfl ?_
  refine Bod.aaldR (N := 1501) (b := a) k rfl (by omega) (by omega) hr dc_183_70 (mk_11 _) ht_4 ?_
  refine Bod.go dc_183_71 rfl ?_
  refine Bod.go dc_183_74 rfl ?_
  refine Bod.go dc_183_76 rfl ?_
  refine Bod.addN (2 * z + 2) (by omega) dc_183_78 ?_
  refine Bod.go dc_183_79 rfl ?_
  refine Bod.get dc_183_80 fr_183_38 (mk_2 _) rfl ?_
  refine Bod.go dc_183_83 rfl ?_
  refine Bod.aaldR (N := 1501) (b := a) k rfl (by omega) (by omega) hr dc_183_84 (mk_11 _) ht_4 ?_
  refine Bod.alenN (N := N) dc_183_85 (mk_row ha hs) el_1 ?_
  refine Bod.icT dc_183_86 rfl (k2_le_T (2 * z + 2) N rfl rfl (by omega) (by omega)) ?_
  refine Bod.go dc_183_91 rfl ?_
  refine Bod.ic 4 (by decide) dc_183_93 ?_
  refine Bod.icT dc_183_94 rfl (k2_ne_T (k_ne 2 4 rfl rfl (by omega) (by omega) (by omega))) ?_
  refine Bod.go dc_183_120 rfl ?_
  refine Bod.get dc_183_121 fr_183_38 (mk_2 _) rfl ?_
  refine Bod.go dc_183_124 rfl ?_
  refine Bod.aaldR (N := 1501) (b := a) k rfl (by omega) (by omega) hr dc_183_125 (mk_11 _) ht_4 ?_
  refine Bod.go dc_183_126 rfl ?_
  refine Bod.go dc_183_128 rfl ?_
  refine Bod.addN (2 * z + 2) (by omega) dc_183_130 ?_
  refine Bod.ic 2 (by decide) dc_183_131 ?_
  refine Bod.subN (2 * z) (by omega) (by omega) dc_183_132 ?_
  refine Bod.go dc_183_133 rfl ?_
  refine Bod.lastN (N := N) (2 * z) rfl (by omega) (by omega) dc_183_135 (mk_row ha hs) (sa_row ha hs) (mu_L _ _ _ _) ?_
  refine Bod.go dc_183_136 rfl ?_
  refine Bod.get dc_183_137 fr_183_38 (mk_2 _) rfl ?_
  refine Bod.go dc_183_140 rfl ?_
  refine Bod.aaldR (N := 1501) (b := a) k rfl (by omega) (by omega) (by simp only [rIQ, rJQ, rAQ, rLQ, rVQ, rQ_holdE]; exact hr) dc_183_141 (mk_11 _) ht_4 ?_
  refine Bod.go dc_183_142 rfl ?_
  refine Bod.go dc_183_144 rfl ?_
  refine Bod.addN (2 * z + 2) (by omega) dc_183_146 ?_
  refine Bod.ic 1 (by decide) dc_183_147 ?_
  refine Bod.subN (2 * z + 1) (by omega) (by omega) dc_183_148 ?_
  refine Bod.go dc_183_149 rfl ?_
  refine Bod.lastN (N := N) (2 * z + 1) rfl (by omega) (by omega) dc_183_151 (mk_row ha (by simp only [rIS, rJS, rAS, rLS, rVS, rQS, rS_hold]; exact hs)) (sa_row ha (by simp only [rIS, rJS, rAS, rLS, rVS, rQS, rS_hold]; exact hs)) (mu_L _ _ _ _) ?_
  refine Bod.go dc_183_152 rfl ?_
  refine Bod.get dc_183_153 fr_183_33 (mk_2 _) rfl ?_
  refine Bod.go dc_183_156 rfl ?_
  refine Bod.go dc_183_157 rfl ?_
  refine Bod.ialdN k rfl (by omega) (by omega) dc_183_158 (mk_10 _) ?_
  refine Bod.eqI (nI z) (by first | (simp (disch := omega) only [rI, rIe, rA, rIA, rLA, rJA, rVI, rQI, rVA, rQA, upd_at,  rAI, rLI, rJI, nI_add, pk_sub, kc_0, kc_1, kc_2, kc_3, kc_4, kc_5, reduceIte, Nat.reduceEqDiff, Nat.add_zero, rI_hold, rI_hold, rL_hold, hkd, hsz]; done) | (simp (disch := omega) only [rI, rIe, rA, rIA, rLA, rJA, rVI, rQI, rVA, rQA, upd_at,  rAI, rLI, rJI, nI_add, pk_sub, kc_0, kc_1, kc_2, kc_3, kc_4, kc_5, reduceIte, Nat.reduceEqDiff, Nat.add_zero, rI_hold, rI_hold, rL_hold, hkd, hsz]; exact congrArg nI (by omega))) ?_
  refine Bod.ic 1 (by decide) dc_183_159 ?_
  refine Bod.addN (z + 1) (by omega) dc_183_160 ?_
  refine Bod.iastN k rfl (by omega) (by omega) dc_183_161 (mk_10 _) (sa_10 _ _ _) (mu_A _ _ _ _) ?_
  refine Bod.go dc_183_162 rfl ?_
  refine Bod.go dc_183_163 rfl ?_
  refine Bod.get dc_183_164 fr_183_15 (mk_2 _) rfl ?_
  refine Bod.go dc_183_167 rfl ?_
  refine Bod.go dc_183_169 rfl ?_
  refine Bod.stat (r := [_, _]) dc_183_171 kr_183_91 (Or.inr rfl) (by rw [np_137]; rfl) (by rw [np_137]; rfl) (by rw [np_137]; exact Nat.le_of_ble_eq_true rfl) (Nat.le_of_ble_eq_true rfl) (objectOf_n (o := o) ho) ?_
  show Bod _ _ _ _ [_, _, _] _ _ _
  refine Bod.virt (r := []) dc_183_174 kr_183_69 ⟨Or.inl rfl, ow_149, cl_2⟩ (by rw [np_149]; rfl) (by rw [np_149]; rfl) (ob_of (mk_2 _)) (Nat.le_of_ble_eq_true rfl) (hold_ev (a := 4) (k := o) (Or.inl rfl) (by omega)) ?_
  show Bod _ _ _ _ [] _ _ _
  refine Bod.ic 1 (by decide) dc_183_177 ?_
  exact Bod.retZ dc_183_178 rt_183 (Or.inr rfl)
theorem append_4 {d : Nat} {S : cS} {k : Nat} {kd : Nat} {z : Nat} {a : Nat} {N : Nat} {kh : Int64} {kl : Int64} {hi : Int64} {lo : Int64} {o : Nat} {mx : Nat} (h0 : 1 ≤ k) (hk : k ≤ 1500) (hkd : sA S 3 k = nI kd) (h7 : kd ≤ 7) (hsz : sA S 10 k = nI z) (hr : sQ S 11 k = some a) (ha : 108 ≤ a) (hs : (sS S)[a - 108]? = some (1, N)) (hN : N < 2 ^ 31) (hw : c_width kd = 4) (hmx : c_most kd = mx) (hz : z < mx) (hm3 : mx ≤ 300) (hf : 4 * z + 4 ≤ N) (hN6 : 4 * z + 4 ≤ 600) (ho : c_obj hi lo = nI o) (ho2 : o ≤ 1500) : Ans (d + 3) 183 [.ref 2, .int (nI k), .long kh, .long kl, .long hi, .long lo] S (some (.int 1)) (c_hold 4 o (wA 10 k (nI (z + 1)) (wL a (4 * z + 3) lo (wL a (4 * z + 2) hi (wL a (4 * z + 1) kl (wL a (4 * z) kh S)))))) := by
  refine Ans.of (by rw [ml_183]; exact Nat.le_of_ble_eq_true rfl) ?_
  refine Bod.go dc_183_0 rfl ?_
  refine Bod.stat (r := []) dc_183_1 kr_183_65 (Or.inl rfl) (by rw [np_139]; rfl) (by rw [np_139]; rfl) (by rw [np_139]; exact Nat.le_of_ble_eq_true rfl) (Nat.le_of_ble_eq_true rfl) (isId_T (k := k) (by omega) (by omega)) ?_
  show Bod _ _ _ _ [_] _ _ _
  refine Bod.ifF dc_183_4 rfl (k1_eq_F (k_ne 1 0 rfl rfl (by omega) (by omega) (by omega))) ?_
  refine Bod.go dc_183_7 rfl ?_
  refine Bod.get dc_183_8 fr_183_33 (mk_2 _) rfl ?_
  refine Bod.go dc_183_11 rfl ?_
  refine Bod.ialdN k rfl (by omega) (by omega) dc_183_12 (mk_10 _) ?_
  refine Bod.eqI (nI z) (by first | assumption | rfl | exact congrArg nI (by omega) | (simp (disch := omega) only [rI, rIe, rA, rIA, rLA, rJA, rVI, rQI, rVA, rQA, upd_at,  rAI, rLI, rJI, nI_add, pk_sub, kc_0, kc_1, kc_2, kc_3, kc_4, kc_5, reduceIte, Nat.reduceEqDiff, Nat.add_zero, rI_hold, rI_hold, rL_hold, hkd, hsz]; done)) ?_
  refine Bod.go dc_183_13 rfl ?_
  refine Bod.get dc_183_14 fr_183_11 (mk_2 _) rfl ?_
  refine Bod.go dc_183_17 rfl ?_
  refine Bod.ialdN k rfl (by omega) (by omega) dc_183_18 (mk_3 _) ?_
  refine Bod.eqI (nI kd) (by first | assumption | rfl | exact congrArg nI (by omega) | (simp (disch := omega) only [rI, rIe, rA, rIA, rLA, rJA, rVI, rQI, rVA, rQA, upd_at,  rAI, rLI, rJI, nI_add, pk_sub, kc_0, kc_1, kc_2, kc_3, kc_4, kc_5, reduceIte, Nat.reduceEqDiff, Nat.add_zero, rI_hold, rI_hold, rL_hold, hkd, hsz]; done)) ?_
  refine Bod.stat (r := [_]) dc_183_19 kr_183_109 (Or.inl rfl) (by rw [np_184]; rfl) (by rw [np_184]; rfl) (by rw [np_184]; exact Nat.le_of_ble_eq_true rfl) (Nat.le_of_ble_eq_true rfl) (mostOf_ev (kd := kd) (w := mx) (by omega) hmx) ?_
  show Bod _ _ _ _ [_, _] _ _ _
  refine Bod.icT dc_183_22 rfl (k2_lt_T z mx rfl rfl (by omega) (by omega)) ?_
  refine Bod.go dc_183_27 rfl ?_
  refine Bod.get dc_183_28 fr_183_11 (mk_2 _) rfl ?_
  refine Bod.go dc_183_31 rfl ?_
  refine Bod.ialdN k rfl (by omega) (by omega) dc_183_32 (mk_3 _) ?_
  refine Bod.eqI (nI kd) (by first | assumption | rfl | exact congrArg nI (by omega) | (simp (disch := omega) only [rI, rIe, rA, rIA, rLA, rJA, rVI, rQI, rVA, rQA, upd_at,  rAI, rLI, rJI, nI_add, pk_sub, kc_0, kc_1, kc_2, kc_3, kc_4, kc_5, reduceIte, Nat.reduceEqDiff, Nat.add_zero, rI_hold, rI_hold, rL_hold, hkd, hsz]; done)) ?_
  refine Bod.stat (r := []) dc_183_33 kr_183_87 (Or.inl rfl) (by rw [np_145]; rfl) (by rw [np_145]; rfl) (by rw [np_145]; exact Nat.le_of_ble_eq_true rfl) (Nat.le_of_ble_eq_true rfl) (widthOf_ev (kd := kd) (w := 4) (by omega) hw) ?_
  show Bod _ _ _ _ [_] _ _ _
  refine Bod.ist dc_183_36 (by rw [ml_183]; exact Nat.le_of_ble_eq_true rfl) ?_
  refine Bod.go dc_183_38 rfl ?_
  refine Bod.get dc_183_39 fr_183_33 (mk_2 _) rfl ?_
  refine Bod.go dc_183_42 rfl ?_
  refine Bod.ialdN k rfl (by omega) (by omega) dc_183_43 (mk_10 _) ?_
  refine Bod.eqI (nI z) (by first | assumption | rfl | exact congrArg nI (by omega) | (simp (disch := omega) only [rI, rIe, rA, rIA, rLA, rJA, rVI, rQI, rVA, rQA, upd_at,  rAI, rLI, rJI, nI_add, pk_sub, kc_0, kc_1, kc_2, kc_3, kc_4, kc_5, reduceIte, Nat.reduceEqDiff, Nat.add_zero, rI_hold, rI_hold, rL_hold, hkd, hsz]; done)) ?_
  refine Bod.go dc_183_44 rfl ?_
  refine Bod.mulN (4 * z) (by omega) dc_183_46 ?_
  refine Bod.ist dc_183_47 (by rw [ml_183]; exact Nat.le_of_ble_eq_true rfl) ?_
  refine Bod.go dc_183_49 rfl ?_
  refine Bod.go dc_183_50 rfl ?_
  refine Bod.go dc_183_51 rfl ?_
  refine Bod.go dc_183_53 rfl ?_
  refine Bod.addN (4 * z + 4) (by omega) dc_183_55 ?_
  refine Bod.virt (r := []) dc_183_56 kr_183_112 ⟨Or.inl rfl, ow_185, cl_2⟩ (by rw [np_185]; rfl) (by rw [np_185]; rfl) (ob_of (mk_2 _)) (Nat.le_of_ble_eq_true rfl) (growRow_fit (k := k) (a := a) (N := N) (q := 4 * z + 4) (by omega) (by omega) (by omega) hr (by omega) hs (by omega) (by omega)) ?_
  show Bod _ _ _ _ [] _ _ _
  refine Bod.go dc_183_59 rfl ?_
  refine Bod.ic 2 (by decide) dc_183_61 ?_
  refine Bod.icF dc_183_62 rfl (k2_lt_F 4 2 rfl rfl (by omega) (by omega)) ?_
  refine Bod.go dc_183_65 rfl ?_
  refine Bod.get dc_183_66 fr_183_38 (mk_2 _) rfl ?_
  refine Bod.go dc_183_69 rfl ?_
  refine Bod.aaldR (N := 1501) (b := a) k rfl (by omega) (by omega) hr dc_183_70 (mk_11 _) ht_4 ?_
  refine Bod.go dc_183_71 rfl ?_
  refine Bod.go dc_183_74 rfl ?_
  refine Bod.go dc_183_76 rfl ?_
  refine Bod.addN (4 * z + 4) (by omega) dc_183_78 ?_
  refine Bod.go dc_183_79 rfl ?_
  refine Bod.get dc_183_80 fr_183_38 (mk_2 _) rfl ?_
  refine Bod.go dc_183_83 rfl ?_
  refine Bod.aaldR (N := 1501) (b := a) k rfl (by omega) (by omega) hr dc_183_84 (mk_11 _) ht_4 ?_
  refine Bod.alenN (N := N) dc_183_85 (mk_row ha hs) el_1 ?_
  refine Bod.icT dc_183_86 rfl (k2_le_T (4 * z + 4) N rfl rfl (by omega) (by omega)) ?_
  refine Bod.go dc_183_91 rfl ?_
  refine Bod.ic 4 (by decide) dc_183_93 ?_
  refine Bod.icF dc_183_94 rfl (k2_ne_F (k_eq 4 4 rfl rfl (by omega))) ?_
  refine Bod.go dc_183_97 rfl ?_
  refine Bod.get dc_183_98 fr_183_38 (mk_2 _) rfl ?_
  refine Bod.go dc_183_101 rfl ?_
  refine Bod.aaldR (N := 1501) (b := a) k rfl (by omega) (by omega) hr dc_183_102 (mk_11 _) ht_4 ?_
  refine Bod.go dc_183_103 rfl ?_
  refine Bod.go dc_183_105 rfl ?_
  refine Bod.lastN (N := N) (4 * z) rfl (by omega) (by omega) dc_183_106 (mk_row ha hs) (sa_row ha hs) (mu_L _ _ _ _) ?_
  refine Bod.go dc_183_107 rfl ?_
  refine Bod.get dc_183_108 fr_183_38 (mk_2 _) rfl ?_
  refine Bod.go dc_183_111 rfl ?_
  refine Bod.aaldR (N := 1501) (b := a) k rfl (by omega) (by omega) (by simp only [rIQ, rJQ, rAQ, rLQ, rVQ, rQ_holdE]; exact hr) dc_183_112 (mk_11 _) ht_4 ?_
  refine Bod.go dc_183_113 rfl ?_
  refine Bod.ic 1 (by decide) dc_183_115 ?_
  refine Bod.addN (4 * z + 1) (by omega) dc_183_116 ?_
  refine Bod.go dc_183_117 rfl ?_
  refine Bod.lastN (N := N) (4 * z + 1) rfl (by omega) (by omega) dc_183_119 (mk_row ha (by simp only [rIS, rJS, rAS, rLS, rVS, rQS, rS_hold]; exact hs)) (sa_row ha (by simp only [rIS, rJS, rAS, rLS, rVS, rQS, rS_hold]; exact hs)) (mu_L _ _ _ _) ?_
  refine Bod.go dc_183_120 rfl ?_
  refine Bod.get dc_183_121 fr_183_38 (mk_2 _) rfl ?_
  refine Bod.go dc_183_124 rfl ?_
  refine Bod.aaldR (N := 1501) (b := a) k rfl (by omega) (by omega) (by simp only [rIQ, rJQ, rAQ, rLQ, rVQ, rQ_holdE]; exact hr) dc_183_125 (mk_11 _) ht_4 ?_
  refine Bod.go dc_183_126 rfl ?_
  refine Bod.go dc_183_128 rfl ?_
  refine Bod.addN (4 * z + 4) (by omega) dc_183_130 ?_
  refine Bod.ic 2 (by decide) dc_183_131 ?_
  refine Bod.subN (4 * z + 2) (by omega) (by omega) dc_183_132 ?_
  refine Bod.go dc_183_133 rfl ?_
  refine Bod.lastN (N := N) (4 * z + 2) rfl (by omega) (by omega) dc_183_135 (mk_row ha (by simp only [rIS, rJS, rAS, rLS, rVS, rQS, rS_hold]; exact hs)) (sa_row ha (by simp only [rIS, rJS, rAS, rLS, rVS, rQS, rS_hold]; exact hs)) (mu_L _ _ _ _) ?_
  refine Bod.go dc_183_136 rfl ?_
  refine Bod.get dc_183_137 fr_183_38 (mk_2 _) rfl ?_
  refine Bod.go dc_183_140 rfl ?_
  refine Bod.aaldR (N := 1501) (b := a) k rfl (by omega) (by omega) (by simp only [rIQ, rJQ, rAQ, rLQ, rVQ, rQ_holdE]; exact hr) dc_183_141 (mk_11 _) ht_4 ?_
  refine Bod.go dc_183_142 rfl ?_
  refine Bod.go dc_183_144 rfl ?_
  refine Bod.addN (4 * z + 4) (by omega) dc_183_146 ?_
  refine Bod.ic 1 (by decide) dc_183_147 ?_
  refine Bod.subN (4 * z + 3) (by omega) (by omega) dc_183_148 ?_
  refine Bod.go dc_183_149 rfl ?_
  refine Bod.lastN (N := N) (4 * z + 3) rfl (by omega) (by omega) dc_183_151 (mk_row ha (by simp only [rIS, rJS, rAS, rLS, rVS, rQS, rS_hold]; exact hs)) (sa_row ha (by simp only [rIS, rJS, rAS, rLS, rVS, rQS, rS_hold]; exact hs)) (mu_L _ _ _ _) ?_
  refine Bod.go dc_183_152 rfl ?_
  refine Bod.get dc_183_153 fr_183_33 (mk_2 _) rfl ?_
  refine Bod.go dc_183_156 rfl ?_
  refine Bod.go dc_183_157 rfl ?_
  refine Bod.ialdN k rfl (by omega) (by omega) dc_183_158 (mk_10 _) ?_
  refine Bod.eqI (nI z) (by first | (simp (disch := omega) only [rI, rIe, rA, rIA, rLA, rJA, rVI, rQI, rVA, rQA, upd_at,  rAI, rLI, rJI, nI_add, pk_sub, kc_0, kc_1, kc_2, kc_3, kc_4, kc_5, reduceIte, Nat.reduceEqDiff, Nat.add_zero, rI_hold, rI_hold, rL_hold, hkd, hsz]; done) | (simp (disch := omega) only [rI, rIe, rA, rIA, rLA, rJA, rVI, rQI, rVA, rQA, upd_at,  rAI, rLI, rJI, nI_add, pk_sub, kc_0, kc_1, kc_2, kc_3, kc_4, kc_5, reduceIte, Nat.reduceEqDiff, Nat.add_zero, rI_hold, rI_hold, rL_hold, hkd, hsz]; exact congrArg nI (by omega))) ?_
  refine Bod.ic 1 (by decide) dc_183_159 ?_
  refine Bod.addN (z + 1) (by omega) dc_183_160 ?_
  refine Bod.iastN k rfl (by omega) (by omega) dc_183_161 (mk_10 _) (sa_10 _ _ _) (mu_A _ _ _ _) ?_
  refine Bod.go dc_183_162 rfl ?_
  refine Bod.go dc_183_163 rfl ?_
  refine Bod.get dc_183_164 fr_183_15 (mk_2 _) rfl ?_
  refine Bod.go dc_183_167 rfl ?_
  refine Bod.go dc_183_169 rfl ?_
  refine Bod.stat (r := [_, _]) dc_183_171 kr_183_91 (Or.inr rfl) (by rw [np_137]; rfl) (by rw [np_137]; rfl) (by rw [np_137]; exact Nat.le_of_ble_eq_true rfl) (Nat.le_of_ble_eq_true rfl) (objectOf_n (o := o) ho) ?_
  show Bod _ _ _ _ [_, _, _] _ _ _
  refine Bod.virt (r := []) dc_183_174 kr_183_69 ⟨Or.inl rfl, ow_149, cl_2⟩ (by rw [np_149]; rfl) (by rw [np_149]; rfl) (ob_of (mk_2 _)) (Nat.le_of_ble_eq_true rfl) (hold_ev (a := 4) (k := o) (Or.inl rfl) (by omega)) ?_
  show Bod _ _ _ _ [] _ _ _
  refine Bod.ic 1 (by decide) dc_183_177 ?_
  exact Bod.retZ dc_183_178 rt_183 (Or.inr rfl)
