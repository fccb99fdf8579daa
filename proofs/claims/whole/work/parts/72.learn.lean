/-! NAMEOF of the reference: a new name -/
theorem dc_294_93 : decode (sm_cc 294) 93 = .ok (.aload_n 0, 1) := by decide +kernel
theorem dc_294_94 : decode (sm_cc 294) 94 = .ok (.getfield 1, 3) := by decide +kernel
theorem dc_294_97 : decode (sm_cc 294) 97 = .ok (.aload_n 0, 1) := by decide +kernel
theorem dc_294_98 : decode (sm_cc 294) 98 = .ok (.getfield 7, 3) := by decide +kernel
theorem dc_294_101 : decode (sm_cc 294) 101 = .ok (.arraylength, 1) := by decide +kernel
theorem dc_294_102 : decode (sm_cc 294) 102 = .ok (.if_icmp .ne (79), 3) := by decide +kernel
theorem dc_294_105 : decode (sm_cc 294) 105 = .ok (.iconst 2, 1) := by decide +kernel
theorem dc_294_106 : decode (sm_cc 294) 106 = .ok (.aload_n 0, 1) := by decide +kernel
theorem dc_294_107 : decode (sm_cc 294) 107 = .ok (.getfield 1, 3) := by decide +kernel
theorem dc_294_110 : decode (sm_cc 294) 110 = .ok (.imul, 1) := by decide +kernel
theorem dc_294_111 : decode (sm_cc 294) 111 = .ok (.istore 4, 2) := by decide +kernel
theorem dc_294_113 : decode (sm_cc 294) 113 = .ok (.aload_n 0, 1) := by decide +kernel
theorem dc_294_114 : decode (sm_cc 294) 114 = .ok (.aload_n 0, 1) := by decide +kernel
theorem dc_294_115 : decode (sm_cc 294) 115 = .ok (.getfield 11, 3) := by decide +kernel
theorem dc_294_118 : decode (sm_cc 294) 118 = .ok (.bipush (12), 2) := by decide +kernel
theorem dc_294_120 : decode (sm_cc 294) 120 = .ok (.iload 4, 2) := by decide +kernel
theorem dc_294_122 : decode (sm_cc 294) 122 = .ok (.imul, 1) := by decide +kernel
theorem dc_294_123 : decode (sm_cc 294) 123 = .ok (.invokestatic 15, 3) := by decide +kernel
theorem kr_294_15 : sm_at mt_k (sm_ow 294) 15 = some (15, 2, 295, 0, 2379) := by decide +kernel
theorem np_295 : sm_np 295 = 2 := by decide +kernel
theorem dc_294_126 : decode (sm_cc 294) 126 = .ok (.putfield 11, 3) := by decide +kernel
theorem dc_294_129 : decode (sm_cc 294) 129 = .ok (.aload_n 0, 1) := by decide +kernel
theorem dc_294_130 : decode (sm_cc 294) 130 = .ok (.aload_n 0, 1) := by decide +kernel
theorem dc_294_131 : decode (sm_cc 294) 131 = .ok (.getfield 7, 3) := by decide +kernel
theorem dc_294_134 : decode (sm_cc 294) 134 = .ok (.iload 4, 2) := by decide +kernel
theorem dc_294_136 : decode (sm_cc 294) 136 = .ok (.invokestatic 21, 3) := by decide +kernel
theorem kr_294_21 : sm_at mt_k (sm_ow 294) 21 = some (21, 2, 296, 0, 2387) := by decide +kernel
theorem np_296 : sm_np 296 = 2 := by decide +kernel
theorem dc_294_139 : decode (sm_cc 294) 139 = .ok (.putfield 7, 3) := by decide +kernel
theorem dc_294_142 : decode (sm_cc 294) 142 = .ok (.aload_n 0, 1) := by decide +kernel
theorem dc_294_143 : decode (sm_cc 294) 143 = .ok (.aload_n 0, 1) := by decide +kernel
theorem dc_294_144 : decode (sm_cc 294) 144 = .ok (.getfield 24, 3) := by decide +kernel
theorem fr_294_24 : sm_at mt_f (sm_ow 294) 24 = some (24, 14, 3, 0, 2076) := by decide +kernel
theorem dc_294_147 : decode (sm_cc 294) 147 = .ok (.iload 4, 2) := by decide +kernel
theorem dc_294_149 : decode (sm_cc 294) 149 = .ok (.invokestatic 21, 3) := by decide +kernel
theorem dc_294_152 : decode (sm_cc 294) 152 = .ok (.putfield 24, 3) := by decide +kernel
theorem dc_294_155 : decode (sm_cc 294) 155 = .ok (.aload_n 0, 1) := by decide +kernel
theorem dc_294_156 : decode (sm_cc 294) 156 = .ok (.aload_n 0, 1) := by decide +kernel
theorem dc_294_157 : decode (sm_cc 294) 157 = .ok (.getfield 27, 3) := by decide +kernel
theorem fr_294_27 : sm_at mt_f (sm_ow 294) 27 = some (27, 14, 4, 0, 2077) := by decide +kernel
theorem dc_294_160 : decode (sm_cc 294) 160 = .ok (.iload 4, 2) := by decide +kernel
theorem dc_294_162 : decode (sm_cc 294) 162 = .ok (.invokestatic 31, 3) := by decide +kernel
theorem kr_294_31 : sm_at mt_k (sm_ow 294) 31 = some (31, 2, 186, 0, 2395) := by decide +kernel
theorem np_186 : sm_np 186 = 2 := by decide +kernel
theorem dc_294_165 : decode (sm_cc 294) 165 = .ok (.putfield 27, 3) := by decide +kernel
theorem dc_294_168 : decode (sm_cc 294) 168 = .ok (.aload_n 0, 1) := by decide +kernel
theorem dc_294_169 : decode (sm_cc 294) 169 = .ok (.aload_n 0, 1) := by decide +kernel
theorem dc_294_170 : decode (sm_cc 294) 170 = .ok (.getfield 34, 3) := by decide +kernel
theorem fr_294_34 : sm_at mt_f (sm_ow 294) 34 = some (34, 14, 5, 0, 2078) := by decide +kernel
theorem dc_294_173 : decode (sm_cc 294) 173 = .ok (.iload 4, 2) := by decide +kernel
theorem dc_294_175 : decode (sm_cc 294) 175 = .ok (.invokestatic 31, 3) := by decide +kernel
theorem dc_294_178 : decode (sm_cc 294) 178 = .ok (.putfield 34, 3) := by decide +kernel
theorem dc_294_181 : decode (sm_cc 294) 181 = .ok (.aload_n 1, 1) := by decide +kernel
theorem dc_294_182 : decode (sm_cc 294) 182 = .ok (.iload_n 2, 1) := by decide +kernel
theorem dc_294_183 : decode (sm_cc 294) 183 = .ok (.aload_n 0, 1) := by decide +kernel
theorem dc_294_184 : decode (sm_cc 294) 184 = .ok (.getfield 11, 3) := by decide +kernel
theorem dc_294_187 : decode (sm_cc 294) 187 = .ok (.bipush (12), 2) := by decide +kernel
theorem dc_294_189 : decode (sm_cc 294) 189 = .ok (.aload_n 0, 1) := by decide +kernel
theorem dc_294_190 : decode (sm_cc 294) 190 = .ok (.getfield 1, 3) := by decide +kernel
theorem dc_294_193 : decode (sm_cc 294) 193 = .ok (.imul, 1) := by decide +kernel
theorem dc_294_194 : decode (sm_cc 294) 194 = .ok (.iload_n 3, 1) := by decide +kernel
theorem dc_294_195 : decode (sm_cc 294) 195 = .ok (.invokestatic 37, 3) := by decide +kernel
theorem dc_294_198 : decode (sm_cc 294) 198 = .ok (.aload_n 0, 1) := by decide +kernel
theorem dc_294_199 : decode (sm_cc 294) 199 = .ok (.getfield 7, 3) := by decide +kernel
theorem dc_294_202 : decode (sm_cc 294) 202 = .ok (.aload_n 0, 1) := by decide +kernel
theorem dc_294_203 : decode (sm_cc 294) 203 = .ok (.getfield 1, 3) := by decide +kernel
theorem dc_294_206 : decode (sm_cc 294) 206 = .ok (.iload_n 3, 1) := by decide +kernel
theorem dc_294_207 : decode (sm_cc 294) 207 = .ok (.iastore, 1) := by decide +kernel
theorem dc_294_208 : decode (sm_cc 294) 208 = .ok (.aload_n 0, 1) := by decide +kernel
theorem dc_294_209 : decode (sm_cc 294) 209 = .ok (.getfield 24, 3) := by decide +kernel
theorem dc_294_212 : decode (sm_cc 294) 212 = .ok (.aload_n 0, 1) := by decide +kernel
theorem dc_294_213 : decode (sm_cc 294) 213 = .ok (.getfield 1, 3) := by decide +kernel
theorem dc_294_216 : decode (sm_cc 294) 216 = .ok (.iconst (-1), 1) := by decide +kernel
theorem dc_294_217 : decode (sm_cc 294) 217 = .ok (.iastore, 1) := by decide +kernel
theorem dc_294_218 : decode (sm_cc 294) 218 = .ok (.aload_n 0, 1) := by decide +kernel
theorem dc_294_219 : decode (sm_cc 294) 219 = .ok (.dup, 1) := by decide +kernel
theorem dc_294_220 : decode (sm_cc 294) 220 = .ok (.getfield 1, 3) := by decide +kernel
theorem dc_294_223 : decode (sm_cc 294) 223 = .ok (.iconst 1, 1) := by decide +kernel
theorem dc_294_224 : decode (sm_cc 294) 224 = .ok (.iadd, 1) := by decide +kernel
theorem dc_294_225 : decode (sm_cc 294) 225 = .ok (.putfield 1, 3) := by decide +kernel
theorem dc_294_228 : decode (sm_cc 294) 228 = .ok (.aload_n 0, 1) := by decide +kernel
theorem dc_294_229 : decode (sm_cc 294) 229 = .ok (.getfield 1, 3) := by decide +kernel
theorem dc_294_232 : decode (sm_cc 294) 232 = .ok (.iconst 1, 1) := by decide +kernel
theorem dc_294_233 : decode (sm_cc 294) 233 = .ok (.isub, 1) := by decide +kernel
theorem dc_294_234 : decode (sm_cc 294) 234 = .ok (.ireturn, 1) := by decide +kernel
theorem kr_294_37 : sm_at mt_k (sm_ow 294) 37 = some (37, 7, 0, 0, 2396) := by decide +kernel
theorem fit_ref {ty : FieldType} {a b : Nat} (h : sm_fit ty (.ref a) = true) : sm_fit ty (.ref b) = true := by
  cases ty <;> first | exact h | rfl
theorem pr_12_0 {a : Nat} : 0 < (sm_T 12).2.2 ∧ sm_fit (sm_ty 12 0) (.ref a) = true ∧ ((sm_T 12).2.1 0).2.2.2 = false := by
  have h : 0 < (sm_T 12).2.2 ∧ sm_fit (sm_ty 12 0) (.ref 0) = true ∧ ((sm_T 12).2.1 0).2.2.2 = false := by decide +kernel
  exact ⟨h.1, fit_ref h.2.1, h.2.2⟩
theorem pr_12_2 {a : Nat} : 2 < (sm_T 12).2.2 ∧ sm_fit (sm_ty 12 2) (.ref a) = true ∧ ((sm_T 12).2.1 2).2.2.2 = false := by
  have h : 2 < (sm_T 12).2.2 ∧ sm_fit (sm_ty 12 2) (.ref 0) = true ∧ ((sm_T 12).2.1 2).2.2.2 = false := by decide +kernel
  exact ⟨h.1, fit_ref h.2.1, h.2.2⟩
theorem pr_12_3 {a : Nat} : 3 < (sm_T 12).2.2 ∧ sm_fit (sm_ty 12 3) (.ref a) = true ∧ ((sm_T 12).2.1 3).2.2.2 = false := by
  have h : 3 < (sm_T 12).2.2 ∧ sm_fit (sm_ty 12 3) (.ref 0) = true ∧ ((sm_T 12).2.1 3).2.2.2 = false := by decide +kernel
  exact ⟨h.1, fit_ref h.2.1, h.2.2⟩
theorem pr_12_4 {a : Nat} : 4 < (sm_T 12).2.2 ∧ sm_fit (sm_ty 12 4) (.ref a) = true ∧ ((sm_T 12).2.1 4).2.2.2 = false := by
  have h : 4 < (sm_T 12).2.2 ∧ sm_fit (sm_ty 12 4) (.ref 0) = true ∧ ((sm_T 12).2.1 4).2.2.2 = false := by decide +kernel
  exact ⟨h.1, fit_ref h.2.1, h.2.2⟩
theorem pr_12_7 {a : Nat} : 7 < (sm_T 12).2.2 ∧ sm_fit (sm_ty 12 7) (.ref a) = true ∧ ((sm_T 12).2.1 7).2.2.2 = false := by
  have h : 7 < (sm_T 12).2.2 ∧ sm_fit (sm_ty 12 7) (.ref 0) = true ∧ ((sm_T 12).2.1 7).2.2.2 = false := by decide +kernel
  exact ⟨h.1, fit_ref h.2.1, h.2.2⟩
theorem pr_12_8 {a : Nat} : 8 < (sm_T 12).2.2 ∧ sm_fit (sm_ty 12 8) (.ref a) = true ∧ ((sm_T 12).2.1 8).2.2.2 = false := by
  have h : 8 < (sm_T 12).2.2 ∧ sm_fit (sm_ty 12 8) (.ref 0) = true ∧ ((sm_T 12).2.1 8).2.2.2 = false := by decide +kernel
  exact ⟨h.1, fit_ref h.2.1, h.2.2⟩
theorem pr_12_9 {a : Nat} : 9 < (sm_T 12).2.2 ∧ sm_fit (sm_ty 12 9) (.ref a) = true ∧ ((sm_T 12).2.1 9).2.2.2 = false := by
  have h : 9 < (sm_T 12).2.2 ∧ sm_fit (sm_ty 12 9) (.ref 0) = true ∧ ((sm_T 12).2.1 9).2.2.2 = false := by decide +kernel
  exact ⟨h.1, fit_ref h.2.1, h.2.2⟩
theorem pr_12_10 {a : Nat} : 10 < (sm_T 12).2.2 ∧ sm_fit (sm_ty 12 10) (.ref a) = true ∧ ((sm_T 12).2.1 10).2.2.2 = false := by
  have h : 10 < (sm_T 12).2.2 ∧ sm_fit (sm_ty 12 10) (.ref 0) = true ∧ ((sm_T 12).2.1 10).2.2.2 = false := by decide +kernel
  exact ⟨h.1, fit_ref h.2.1, h.2.2⟩
theorem pr_13_2 {a : Nat} : 2 < (sm_T 13).2.2 ∧ sm_fit (sm_ty 13 2) (.ref a) = true ∧ ((sm_T 13).2.1 2).2.2.2 = false := by
  have h : 2 < (sm_T 13).2.2 ∧ sm_fit (sm_ty 13 2) (.ref 0) = true ∧ ((sm_T 13).2.1 2).2.2.2 = false := by decide +kernel
  exact ⟨h.1, fit_ref h.2.1, h.2.2⟩
theorem pr_13_3 {a : Nat} : 3 < (sm_T 13).2.2 ∧ sm_fit (sm_ty 13 3) (.ref a) = true ∧ ((sm_T 13).2.1 3).2.2.2 = false := by
  have h : 3 < (sm_T 13).2.2 ∧ sm_fit (sm_ty 13 3) (.ref 0) = true ∧ ((sm_T 13).2.1 3).2.2.2 = false := by decide +kernel
  exact ⟨h.1, fit_ref h.2.1, h.2.2⟩
theorem pr_13_4 {a : Nat} : 4 < (sm_T 13).2.2 ∧ sm_fit (sm_ty 13 4) (.ref a) = true ∧ ((sm_T 13).2.1 4).2.2.2 = false := by
  have h : 4 < (sm_T 13).2.2 ∧ sm_fit (sm_ty 13 4) (.ref 0) = true ∧ ((sm_T 13).2.1 4).2.2.2 = false := by decide +kernel
  exact ⟨h.1, fit_ref h.2.1, h.2.2⟩
theorem pr_13_5 {a : Nat} : 5 < (sm_T 13).2.2 ∧ sm_fit (sm_ty 13 5) (.ref a) = true ∧ ((sm_T 13).2.1 5).2.2.2 = false := by
  have h : 5 < (sm_T 13).2.2 ∧ sm_fit (sm_ty 13 5) (.ref 0) = true ∧ ((sm_T 13).2.1 5).2.2.2 = false := by decide +kernel
  exact ⟨h.1, fit_ref h.2.1, h.2.2⟩
theorem pr_13_6 {a : Nat} : 6 < (sm_T 13).2.2 ∧ sm_fit (sm_ty 13 6) (.ref a) = true ∧ ((sm_T 13).2.1 6).2.2.2 = false := by
  have h : 6 < (sm_T 13).2.2 ∧ sm_fit (sm_ty 13 6) (.ref 0) = true ∧ ((sm_T 13).2.1 6).2.2.2 = false := by decide +kernel
  exact ⟨h.1, fit_ref h.2.1, h.2.2⟩
theorem pr_13_7 {a : Nat} : 7 < (sm_T 13).2.2 ∧ sm_fit (sm_ty 13 7) (.ref a) = true ∧ ((sm_T 13).2.1 7).2.2.2 = false := by
  have h : 7 < (sm_T 13).2.2 ∧ sm_fit (sm_ty 13 7) (.ref 0) = true ∧ ((sm_T 13).2.1 7).2.2.2 = false := by decide +kernel
  exact ⟨h.1, fit_ref h.2.1, h.2.2⟩
theorem pr_13_8 {a : Nat} : 8 < (sm_T 13).2.2 ∧ sm_fit (sm_ty 13 8) (.ref a) = true ∧ ((sm_T 13).2.1 8).2.2.2 = false := by
  have h : 8 < (sm_T 13).2.2 ∧ sm_fit (sm_ty 13 8) (.ref 0) = true ∧ ((sm_T 13).2.1 8).2.2.2 = false := by decide +kernel
  exact ⟨h.1, fit_ref h.2.1, h.2.2⟩
theorem pr_14_0 {a : Nat} : 0 < (sm_T 14).2.2 ∧ sm_fit (sm_ty 14 0) (.ref a) = true ∧ ((sm_T 14).2.1 0).2.2.2 = false := by
  have h : 0 < (sm_T 14).2.2 ∧ sm_fit (sm_ty 14 0) (.ref 0) = true ∧ ((sm_T 14).2.1 0).2.2.2 = false := by decide +kernel
  exact ⟨h.1, fit_ref h.2.1, h.2.2⟩
theorem pr_14_1 {a : Nat} : 1 < (sm_T 14).2.2 ∧ sm_fit (sm_ty 14 1) (.ref a) = true ∧ ((sm_T 14).2.1 1).2.2.2 = false := by
  have h : 1 < (sm_T 14).2.2 ∧ sm_fit (sm_ty 14 1) (.ref 0) = true ∧ ((sm_T 14).2.1 1).2.2.2 = false := by decide +kernel
  exact ⟨h.1, fit_ref h.2.1, h.2.2⟩
theorem pr_14_3 {a : Nat} : 3 < (sm_T 14).2.2 ∧ sm_fit (sm_ty 14 3) (.ref a) = true ∧ ((sm_T 14).2.1 3).2.2.2 = false := by
  have h : 3 < (sm_T 14).2.2 ∧ sm_fit (sm_ty 14 3) (.ref 0) = true ∧ ((sm_T 14).2.1 3).2.2.2 = false := by decide +kernel
  exact ⟨h.1, fit_ref h.2.1, h.2.2⟩
theorem pr_14_4 {a : Nat} : 4 < (sm_T 14).2.2 ∧ sm_fit (sm_ty 14 4) (.ref a) = true ∧ ((sm_T 14).2.1 4).2.2.2 = false := by
  have h : 4 < (sm_T 14).2.2 ∧ sm_fit (sm_ty 14 4) (.ref 0) = true ∧ ((sm_T 14).2.1 4).2.2.2 = false := by decide +kernel
  exact ⟨h.1, fit_ref h.2.1, h.2.2⟩
theorem pr_14_5 {a : Nat} : 5 < (sm_T 14).2.2 ∧ sm_fit (sm_ty 14 5) (.ref a) = true ∧ ((sm_T 14).2.1 5).2.2.2 = false := by
  have h : 5 < (sm_T 14).2.2 ∧ sm_fit (sm_ty 14 5) (.ref 0) = true ∧ ((sm_T 14).2.1 5).2.2.2 = false := by decide +kernel
  exact ⟨h.1, fit_ref h.2.1, h.2.2⟩
theorem pr_14_14 {a : Nat} : 14 < (sm_T 14).2.2 ∧ sm_fit (sm_ty 14 14) (.ref a) = true ∧ ((sm_T 14).2.1 14).2.2.2 = false := by
  have h : 14 < (sm_T 14).2.2 ∧ sm_fit (sm_ty 14 14) (.ref 0) = true ∧ ((sm_T 14).2.1 14).2.2.2 = false := by decide +kernel
  exact ⟨h.1, fit_ref h.2.1, h.2.2⟩
theorem pr_14_28 {a : Nat} : 28 < (sm_T 14).2.2 ∧ sm_fit (sm_ty 14 28) (.ref a) = true ∧ ((sm_T 14).2.1 28).2.2.2 = false := by
  have h : 28 < (sm_T 14).2.2 ∧ sm_fit (sm_ty 14 28) (.ref 0) = true ∧ ((sm_T 14).2.1 28).2.2.2 = false := by decide +kernel
  exact ⟨h.1, fit_ref h.2.1, h.2.2⟩
theorem pr_14_29 {a : Nat} : 29 < (sm_T 14).2.2 ∧ sm_fit (sm_ty 14 29) (.ref a) = true ∧ ((sm_T 14).2.1 29).2.2.2 = false := by
  have h : 29 < (sm_T 14).2.2 ∧ sm_fit (sm_ty 14 29) (.ref 0) = true ∧ ((sm_T 14).2.1 29).2.2.2 = false := by decide +kernel
  exact ⟨h.1, fit_ref h.2.1, h.2.2⟩
theorem sf_isB {S : cS} {a N : Nat} {f : Nat → Int32} (h : isK S a 2 N) : (mk S).set a (.inl (2, N, .inl f)) = mk (wF a f S) := by
  rcases h with ⟨h1, h2⟩ | ⟨h1, h2⟩
  · by_cases h62 : a = 62
    · subst h62
      obtain rfl : 768 = N := by have := congrArg (Option.map Prod.snd) h2; exact Option.some.inj this
      exact sf_62 S f
    · exfalso
      have h3 : ∀ b, b < 108 → b ≠ 62 → (fixK b).map Prod.fst ≠ some 2 := by decide
      exact h3 a h1 h62 (by rw [h2]; rfl)
  · exact sf_byt h1 h2
theorem nl_fitF {d nn g1 gn ab fr n k : Nat} {w z : Int32} {S Sf : cS} {v : Option Value} (hnn : sI S 6102 = nI nn) (hv1 : sV S 6101 = .ref g1) (hg1 : isK S g1 0 gn) (hgn : gn < 2 ^ 20) (hlt : nn < gn) (hx : Bod d 294 181 (sm_p1 (lv_args 0 [.ref 61, .ref ab, .int (nI fr), .int (nI n)]) 4 (.int (nI 0))) [] S v Sf) : Bod d 294 93 (sm_p1 (lv_args 0 [.ref 61, .ref ab, .int (nI fr), .int (nI n)]) 4 (.int (nI 0))) [] S v Sf := by
  refine Bod.go dc_294_93 rfl ?_
  refine Bod.get dc_294_94 fr_294_1 (mk_61 _) rfl ?_
  refine Bod.eqI (nI nn) (by first | assumption | rfl | exact congrArg nI (by omega) | (simp (disch := omega) only [rI, rIe, rA, rIA, rLA, rJA, rVI, rQI, rVA, rQA, upd_at,  rAI, rLI, rJI, nI_add, pk_sub, kc_0, kc_1, kc_2, kc_3, kc_4, kc_5, reduceIte, Nat.reduceEqDiff, Nat.add_zero, rI_hold, rI_hold, rL_hold, hnn]; done)) ?_
  refine Bod.go dc_294_97 rfl ?_
  refine Bod.get dc_294_98 fr_294_7 (mk_61 _) rfl ?_
  refine Bod.eqV (.ref g1) hv1 ?_
  refine Bod.alenN (N := gn) dc_294_101 (mk_isI hg1) el_0 ?_
  refine Bod.icT dc_294_102 rfl (k2_ne_T (k_ne nn gn rfl rfl (by omega) (by omega) (by omega))) ?_
  exact hx
theorem nl_fitN {d nn g1 gn ab fr n k : Nat} {w z : Int32} {S Sf : cS} {v : Option Value} (hnn : sI S 6102 = nI nn) (hv1 : sV S 6101 = .ref g1) (hg1 : isK S g1 0 gn) (hgn : gn < 2 ^ 20) (hlt : nn < gn) (hx : Bod d 294 181 (sm_p1 (sm_p1 (sm_p1 (lv_args 0 [.ref 61, .ref ab, .int (nI fr), .int (nI n)]) 5 (.int w)) 6 (.int z)) 4 (.int (nI k))) [] S v Sf) : Bod d 294 93 (sm_p1 (sm_p1 (sm_p1 (lv_args 0 [.ref 61, .ref ab, .int (nI fr), .int (nI n)]) 5 (.int w)) 6 (.int z)) 4 (.int (nI k))) [] S v Sf := by
  refine Bod.go dc_294_93 rfl ?_
  refine Bod.get dc_294_94 fr_294_1 (mk_61 _) rfl ?_
  refine Bod.eqI (nI nn) (by first | assumption | rfl | exact congrArg nI (by omega) | (simp (disch := omega) only [rI, rIe, rA, rIA, rLA, rJA, rVI, rQI, rVA, rQA, upd_at,  rAI, rLI, rJI, nI_add, pk_sub, kc_0, kc_1, kc_2, kc_3, kc_4, kc_5, reduceIte, Nat.reduceEqDiff, Nat.add_zero, rI_hold, rI_hold, rL_hold, hnn]; done)) ?_
  refine Bod.go dc_294_97 rfl ?_
  refine Bod.get dc_294_98 fr_294_7 (mk_61 _) rfl ?_
  refine Bod.eqV (.ref g1) hv1 ?_
  refine Bod.alenN (N := gn) dc_294_101 (mk_isI hg1) el_0 ?_
  refine Bod.icT dc_294_102 rfl (k2_ne_T (k_ne nn gn rfl rfl (by omega) (by omega) (by omega))) ?_
  exact hx
theorem nl_more {d nn g1 ab fr n k : Nat} {w z : Int32} {S Sf : cS} {v : Option Value} (hnn : sI S 6102 = nI nn) (hv1 : sV S 6101 = .ref g1) (hg1 : isK S g1 0 nn) (hgn : nn < 2 ^ 20) (hx : Bod d 294 113 (sm_p1 (sm_p1 (sm_p1 (lv_args 0 [.ref 61, .ref ab, .int (nI fr), .int (nI n)]) 5 (.int w)) 6 (.int z)) 4 (.int (nI (2 * nn)))) [] S v Sf) : Bod d 294 93 (sm_p1 (sm_p1 (sm_p1 (lv_args 0 [.ref 61, .ref ab, .int (nI fr), .int (nI n)]) 5 (.int w)) 6 (.int z)) 4 (.int (nI k))) [] S v Sf := by
  refine Bod.go dc_294_93 rfl ?_
  refine Bod.get dc_294_94 fr_294_1 (mk_61 _) rfl ?_
  refine Bod.eqI (nI nn) (by first | assumption | rfl | exact congrArg nI (by omega) | (simp (disch := omega) only [rI, rIe, rA, rIA, rLA, rJA, rVI, rQI, rVA, rQA, upd_at,  rAI, rLI, rJI, nI_add, pk_sub, kc_0, kc_1, kc_2, kc_3, kc_4, kc_5, reduceIte, Nat.reduceEqDiff, Nat.add_zero, rI_hold, rI_hold, rL_hold, hnn]; done)) ?_
  refine Bod.go dc_294_97 rfl ?_
  refine Bod.get dc_294_98 fr_294_7 (mk_61 _) rfl ?_
  refine Bod.eqV (.ref g1) hv1 ?_
  refine Bod.alenN (N := nn) dc_294_101 (mk_isI hg1) el_0 ?_
  refine Bod.icF dc_294_102 rfl (k2_ne_F (k_eq nn nn rfl rfl (by omega))) ?_
  refine Bod.ic 2 (by decide) dc_294_105 ?_
  refine Bod.go dc_294_106 rfl ?_
  refine Bod.get dc_294_107 fr_294_1 (mk_61 _) rfl ?_
  refine Bod.eqI (nI nn) (by first | assumption | rfl | exact congrArg nI (by omega) | (simp (disch := omega) only [rI, rIe, rA, rIA, rLA, rJA, rVI, rQI, rVA, rQA, upd_at,  rAI, rLI, rJI, nI_add, pk_sub, kc_0, kc_1, kc_2, kc_3, kc_4, kc_5, reduceIte, Nat.reduceEqDiff, Nat.add_zero, rI_hold, rI_hold, rL_hold, hnn]; done)) ?_
  refine Bod.mulN (2 * nn) (by omega) dc_294_110 ?_
  refine Bod.ist dc_294_111 (by rw [ml_294]; exact Nat.le_of_ble_eq_true rfl) ?_
  exact Bod.lv rfl hx
theorem nl_grow0 {d g N m b ab fr n : Nat} {w z : Int32} {S S1 Sf : cS} {v : Option Value} (hv : sV S 6100 = .ref g) (hg : isK S g 2 N) (hm : m < 2 ^ 20) (hC : Ans d 295 [.ref g, .int (nI (12 * m))] S (some (.ref b)) S1) (hx : Bod d 294 129 (sm_p1 (sm_p1 (sm_p1 (lv_args 0 [.ref 61, .ref ab, .int (nI fr), .int (nI n)]) 5 (.int w)) 6 (.int z)) 4 (.int (nI m))) [] (wV 6100 (.ref b) S1) v Sf) : Bod d 294 113 (sm_p1 (sm_p1 (sm_p1 (lv_args 0 [.ref 61, .ref ab, .int (nI fr), .int (nI n)]) 5 (.int w)) 6 (.int z)) 4 (.int (nI m))) [] S v Sf := by
  refine Bod.go dc_294_113 rfl ?_
  refine Bod.go dc_294_114 rfl ?_
  refine Bod.get dc_294_115 fr_294_11 (mk_61 _) rfl ?_
  refine Bod.eqV (.ref g) hv ?_
  refine Bod.bip 12 (by decide) dc_294_118 ?_
  refine Bod.go dc_294_120 rfl ?_
  refine Bod.mulN (12 * m) (by omega) dc_294_122 ?_
  refine Bod.stat (r := [_]) dc_294_123 kr_294_15 (Or.inl rfl) (by rw [np_295]; rfl) (by rw [np_295]; rfl) (by rw [np_295]; exact Nat.le_of_ble_eq_true rfl) (Nat.le_of_ble_eq_true rfl) (hC  ) ?_
  show Bod _ _ _ _ [_, _] _ _ _
  refine Bod.put dc_294_126 fr_294_11 (mk_61 _) (Nat.le_of_ble_eq_true rfl) pr_14_0 (st_6100 _ _) (mu_V _ _ _) ?_
  exact hx
theorem nl_grow1 {d g N m b ab fr n : Nat} {w z : Int32} {S S1 Sf : cS} {v : Option Value} (hv : sV S 6101 = .ref g) (hg : isK S g 0 N) (hm : m < 2 ^ 20) (hC : Ans d 296 [.ref g, .int (nI (m))] S (some (.ref b)) S1) (hx : Bod d 294 142 (sm_p1 (sm_p1 (sm_p1 (lv_args 0 [.ref 61, .ref ab, .int (nI fr), .int (nI n)]) 5 (.int w)) 6 (.int z)) 4 (.int (nI m))) [] (wV 6101 (.ref b) S1) v Sf) : Bod d 294 129 (sm_p1 (sm_p1 (sm_p1 (lv_args 0 [.ref 61, .ref ab, .int (nI fr), .int (nI n)]) 5 (.int w)) 6 (.int z)) 4 (.int (nI m))) [] S v Sf := by
  refine Bod.go dc_294_129 rfl ?_
  refine Bod.go dc_294_130 rfl ?_
  refine Bod.get dc_294_131 fr_294_7 (mk_61 _) rfl ?_
  refine Bod.eqV (.ref g) hv ?_
  refine Bod.go dc_294_134 rfl ?_
  refine Bod.stat (r := [_]) dc_294_136 kr_294_21 (Or.inl rfl) (by rw [np_296]; rfl) (by rw [np_296]; rfl) (by rw [np_296]; exact Nat.le_of_ble_eq_true rfl) (Nat.le_of_ble_eq_true rfl) (hC  ) ?_
  show Bod _ _ _ _ [_, _] _ _ _
  refine Bod.put dc_294_139 fr_294_7 (mk_61 _) (Nat.le_of_ble_eq_true rfl) pr_14_1 (st_6101 _ _) (mu_V _ _ _) ?_
  exact hx
theorem nl_grow3 {d g N m b ab fr n : Nat} {w z : Int32} {S S1 Sf : cS} {v : Option Value} (hv : sV S 6103 = .ref g) (hg : isK S g 0 N) (hm : m < 2 ^ 20) (hC : Ans d 296 [.ref g, .int (nI (m))] S (some (.ref b)) S1) (hx : Bod d 294 155 (sm_p1 (sm_p1 (sm_p1 (lv_args 0 [.ref 61, .ref ab, .int (nI fr), .int (nI n)]) 5 (.int w)) 6 (.int z)) 4 (.int (nI m))) [] (wV 6103 (.ref b) S1) v Sf) : Bod d 294 142 (sm_p1 (sm_p1 (sm_p1 (lv_args 0 [.ref 61, .ref ab, .int (nI fr), .int (nI n)]) 5 (.int w)) 6 (.int z)) 4 (.int (nI m))) [] S v Sf := by
  refine Bod.go dc_294_142 rfl ?_
  refine Bod.go dc_294_143 rfl ?_
  refine Bod.get dc_294_144 fr_294_24 (mk_61 _) rfl ?_
  refine Bod.eqV (.ref g) hv ?_
  refine Bod.go dc_294_147 rfl ?_
  refine Bod.stat (r := [_]) dc_294_149 kr_294_21 (Or.inl rfl) (by rw [np_296]; rfl) (by rw [np_296]; rfl) (by rw [np_296]; exact Nat.le_of_ble_eq_true rfl) (Nat.le_of_ble_eq_true rfl) (hC  ) ?_
  show Bod _ _ _ _ [_, _] _ _ _
  refine Bod.put dc_294_152 fr_294_24 (mk_61 _) (Nat.le_of_ble_eq_true rfl) pr_14_3 (st_6103 _ _) (mu_V _ _ _) ?_
  exact hx
theorem nl_grow4 {d g N m b ab fr n : Nat} {w z : Int32} {S S1 Sf : cS} {v : Option Value} (hv : sV S 6104 = .ref g) (hg : isK S g 1 N) (hm : m < 2 ^ 20) (hC : Ans d 186 [.ref g, .int (nI (m))] S (some (.ref b)) S1) (hx : Bod d 294 168 (sm_p1 (sm_p1 (sm_p1 (lv_args 0 [.ref 61, .ref ab, .int (nI fr), .int (nI n)]) 5 (.int w)) 6 (.int z)) 4 (.int (nI m))) [] (wV 6104 (.ref b) S1) v Sf) : Bod d 294 155 (sm_p1 (sm_p1 (sm_p1 (lv_args 0 [.ref 61, .ref ab, .int (nI fr), .int (nI n)]) 5 (.int w)) 6 (.int z)) 4 (.int (nI m))) [] S v Sf := by
  refine Bod.go dc_294_155 rfl ?_
  refine Bod.go dc_294_156 rfl ?_
  refine Bod.get dc_294_157 fr_294_27 (mk_61 _) rfl ?_
  refine Bod.eqV (.ref g) hv ?_
  refine Bod.go dc_294_160 rfl ?_
  refine Bod.stat (r := [_]) dc_294_162 kr_294_31 (Or.inl rfl) (by rw [np_186]; rfl) (by rw [np_186]; rfl) (by rw [np_186]; exact Nat.le_of_ble_eq_true rfl) (Nat.le_of_ble_eq_true rfl) (hC  ) ?_
  show Bod _ _ _ _ [_, _] _ _ _
  refine Bod.put dc_294_165 fr_294_27 (mk_61 _) (Nat.le_of_ble_eq_true rfl) pr_14_4 (st_6104 _ _) (mu_V _ _ _) ?_
  exact hx
theorem nl_grow5 {d g N m b ab fr n : Nat} {w z : Int32} {S S1 Sf : cS} {v : Option Value} (hv : sV S 6105 = .ref g) (hg : isK S g 1 N) (hm : m < 2 ^ 20) (hC : Ans d 186 [.ref g, .int (nI (m))] S (some (.ref b)) S1) (hx : Bod d 294 181 (sm_p1 (sm_p1 (sm_p1 (lv_args 0 [.ref 61, .ref ab, .int (nI fr), .int (nI n)]) 5 (.int w)) 6 (.int z)) 4 (.int (nI m))) [] (wV 6105 (.ref b) S1) v Sf) : Bod d 294 168 (sm_p1 (sm_p1 (sm_p1 (lv_args 0 [.ref 61, .ref ab, .int (nI fr), .int (nI n)]) 5 (.int w)) 6 (.int z)) 4 (.int (nI m))) [] S v Sf := by
  refine Bod.go dc_294_168 rfl ?_
  refine Bod.go dc_294_169 rfl ?_
  refine Bod.get dc_294_170 fr_294_34 (mk_61 _) rfl ?_
  refine Bod.eqV (.ref g) hv ?_
  refine Bod.go dc_294_173 rfl ?_
  refine Bod.stat (r := [_]) dc_294_175 kr_294_31 (Or.inl rfl) (by rw [np_186]; rfl) (by rw [np_186]; rfl) (by rw [np_186]; exact Nat.le_of_ble_eq_true rfl) (Nat.le_of_ble_eq_true rfl) (hC  ) ?_
  show Bod _ _ _ _ [_, _] _ _ _
  refine Bod.put dc_294_178 fr_294_34 (mk_61 _) (Nat.le_of_ble_eq_true rfl) pr_14_5 (st_6105 _ _) (mu_V _ _ _) ?_
  exact hx
def r_learn (S : cS) (g0 g1 g3 ab fr n nn : Nat) : cS := wI 6102 (nI (nn + 1)) (wA g3 nn (Int32.ofInt (-1)) (wA g1 nn (nI n) (wF g0 (va_cpy (sA S ab) (sA S g0) fr (12 * nn) n) S)))
theorem nl_putF {d nn g0 g1 g3 gn ab NB fr n k : Nat} {w z : Int32} {S : cS} (hnn : sI S 6102 = nI nn) (hv0 : sV S 6100 = .ref g0) (hv1 : sV S 6101 = .ref g1) (hv3 : sV S 6103 = .ref g3) (hg0 : isK S g0 2 (12 * gn)) (hg1 : isK S g1 0 gn) (hg3 : isK S g3 0 gn) (hgn : gn < 2 ^ 20) (hnl : nn < gn) (hab : (mk S)[ab]? = some (.inl (2, NB, .inl (sA S ab)))) (hNB : NB < 2 ^ 30) (hfr : fr + n ≤ NB) (hn12 : n ≤ 12) (hb : ∀ i, i < n → fits .byte (.int (sA S ab (fr + i))) = true) : Bod d 294 181 (sm_p1 (lv_args 0 [.ref 61, .ref ab, .int (nI fr), .int (nI n)]) 4 (.int (nI 0))) [] S (some (.int (nI nn))) (r_learn S g0 g1 g3 ab fr n nn) := by
  refine Bod.go dc_294_181 rfl ?_
  refine Bod.go dc_294_182 rfl ?_
  refine Bod.go dc_294_183 rfl ?_
  refine Bod.get dc_294_184 fr_294_11 (mk_61 _) rfl ?_
  refine Bod.eqV (.ref g0) hv0 ?_
  refine Bod.bip 12 (by decide) dc_294_187 ?_
  refine Bod.go dc_294_189 rfl ?_
  refine Bod.get dc_294_190 fr_294_1 (mk_61 _) rfl ?_
  refine Bod.eqI (nI nn) (by first | assumption | rfl | exact congrArg nI (by omega) | (simp (disch := omega) only [rI, rIe, rA, rIA, rLA, rJA, rVI, rQI, rVA, rQA, upd_at,  rAI, rLI, rJI, nI_add, pk_sub, kc_0, kc_1, kc_2, kc_3, kc_4, kc_5, reduceIte, Nat.reduceEqDiff, Nat.add_zero, rI_hold, rI_hold, rL_hold, hnn]; done)) ?_
  refine Bod.mulN (12 * nn) (by omega) dc_294_193 ?_
  refine Bod.go dc_294_194 rfl ?_
  refine Bod.cpyB (sp := fr) (dp := 12 * nn) (m := n) (r := []) dc_294_195 kr_294_37 hab (mk_isB hg0) (by omega) (by omega) (by omega) (by omega) (Nat.zero_le _) hb (sf_isB hg0) rfl ?_
  unfold r_learn
  generalize hF : va_cpy (sA S ab) (sA S g0) fr (12 * nn) n = F
  obtain ⟨S2, hS2⟩ : ∃ S2, S2 = wF g0 F S := ⟨_, rfl⟩
  have hnn2 : sI S2 6102 = nI nn := by rw [hS2]; exact hnn
  have hv1x : sV S2 6101 = .ref g1 := by rw [hS2]; exact hv1
  have hv3x : sV S2 6103 = .ref g3 := by rw [hS2]; exact hv3
  have hg1x : isK S2 g1 0 gn := by rw [hS2]; exact isK_S rfl hg1
  have hg3x : isK S2 g3 0 gn := by rw [hS2]; exact isK_S rfl hg3
  rw [← hS2]
  refine Bod.go dc_294_198 rfl ?_
  refine Bod.get dc_294_199 fr_294_7 (mk_61 _) rfl ?_
  refine Bod.eqV (.ref g1) (by first | exact hv1x | (simp only [rIV, rJV, rAV, rLV, rQV]; exact hv1x)) ?_
  refine Bod.go dc_294_202 rfl ?_
  refine Bod.get dc_294_203 fr_294_1 (mk_61 _) rfl ?_
  refine Bod.eqI (nI nn) (by first | (simp (disch := omega) only [rI, rIe, rA, rIA, rLA, rJA, rVI, rQI, rVA, rQA, upd_at,  rAI, rLI, rJI, nI_add, pk_sub, kc_0, kc_1, kc_2, kc_3, kc_4, kc_5, reduceIte, Nat.reduceEqDiff, Nat.add_zero, rI_hold, rI_hold, rL_hold, hnn2]; done) | (simp (disch := omega) only [rI, rIe, rA, rIA, rLA, rJA, rVI, rQI, rVA, rQA, upd_at,  rAI, rLI, rJI, nI_add, pk_sub, kc_0, kc_1, kc_2, kc_3, kc_4, kc_5, reduceIte, Nat.reduceEqDiff, Nat.add_zero, rI_hold, rI_hold, rL_hold, hnn2]; exact congrArg nI (by omega))) ?_
  refine Bod.go dc_294_206 rfl ?_
  refine Bod.iastN (N := gn) nn rfl (by omega) (by omega) dc_294_207 (mk_isI (by first | exact hg1x | exact isK_S (by simp only [rIS, rJS, rAS, rLS, rVS, rQS, rS_hold]) hg1x)) (sa_isI (by first | exact hg1x | exact isK_S (by simp only [rIS, rJS, rAS, rLS, rVS, rQS, rS_hold]) hg1x)) (mu_A _ _ _ _) ?_
  refine Bod.go dc_294_208 rfl ?_
  refine Bod.get dc_294_209 fr_294_24 (mk_61 _) rfl ?_
  refine Bod.eqV (.ref g3) (by first | exact hv3x | (simp only [rIV, rJV, rAV, rLV, rQV]; exact hv3x)) ?_
  refine Bod.go dc_294_212 rfl ?_
  refine Bod.get dc_294_213 fr_294_1 (mk_61 _) rfl ?_
  refine Bod.eqI (nI nn) (by first | (simp (disch := omega) only [rI, rIe, rA, rIA, rLA, rJA, rVI, rQI, rVA, rQA, upd_at,  rAI, rLI, rJI, nI_add, pk_sub, kc_0, kc_1, kc_2, kc_3, kc_4, kc_5, reduceIte, Nat.reduceEqDiff, Nat.add_zero, rI_hold, rI_hold, rL_hold, hnn2]; done) | (simp (disch := omega) only [rI, rIe, rA, rIA, rLA, rJA, rVI, rQI, rVA, rQA, upd_at,  rAI, rLI, rJI, nI_add, pk_sub, kc_0, kc_1, kc_2, kc_3, kc_4, kc_5, reduceIte, Nat.reduceEqDiff, Nat.add_zero, rI_hold, rI_hold, rL_hold, hnn2]; exact congrArg nI (by omega))) ?_
  refine Bod.go dc_294_216 rfl ?_
  refine Bod.iastN (N := gn) nn rfl (by omega) (by omega) dc_294_217 (mk_isI (by first | exact hg3x | exact isK_S (by simp only [rIS, rJS, rAS, rLS, rVS, rQS, rS_hold]) hg3x)) (sa_isI (by first | exact hg3x | exact isK_S (by simp only [rIS, rJS, rAS, rLS, rVS, rQS, rS_hold]) hg3x)) (mu_A _ _ _ _) ?_
  refine Bod.go dc_294_218 rfl ?_
  refine Bod.go dc_294_219 rfl ?_
  refine Bod.get dc_294_220 fr_294_1 (mk_61 _) rfl ?_
  refine Bod.eqI (nI nn) (by first | (simp (disch := omega) only [rI, rIe, rA, rIA, rLA, rJA, rVI, rQI, rVA, rQA, upd_at,  rAI, rLI, rJI, nI_add, pk_sub, kc_0, kc_1, kc_2, kc_3, kc_4, kc_5, reduceIte, Nat.reduceEqDiff, Nat.add_zero, rI_hold, rI_hold, rL_hold, hnn2]; done) | (simp (disch := omega) only [rI, rIe, rA, rIA, rLA, rJA, rVI, rQI, rVA, rQA, upd_at,  rAI, rLI, rJI, nI_add, pk_sub, kc_0, kc_1, kc_2, kc_3, kc_4, kc_5, reduceIte, Nat.reduceEqDiff, Nat.add_zero, rI_hold, rI_hold, rL_hold, hnn2]; exact congrArg nI (by omega))) ?_
  refine Bod.ic 1 (by decide) dc_294_223 ?_
  refine Bod.addN (nn + 1) (by omega) dc_294_224 ?_
  refine Bod.put dc_294_225 fr_294_1 (mk_61 _) (Nat.le_of_ble_eq_true rfl) pf_14_2 (st_6102 _ _) (mu_I _ _ _) ?_
  refine Bod.go dc_294_228 rfl ?_
  refine Bod.get dc_294_229 fr_294_1 (mk_61 _) rfl ?_
  refine Bod.eqI (nI (nn + 1)) (by first | (simp (disch := omega) only [rI, rIe, rA, rIA, rLA, rJA, rVI, rQI, rVA, rQA, upd_at,  rAI, rLI, rJI, nI_add, pk_sub, kc_0, kc_1, kc_2, kc_3, kc_4, kc_5, reduceIte, Nat.reduceEqDiff, Nat.add_zero, rI_hold, rI_hold, rL_hold, hnn2]; done) | (simp (disch := omega) only [rI, rIe, rA, rIA, rLA, rJA, rVI, rQI, rVA, rQA, upd_at,  rAI, rLI, rJI, nI_add, pk_sub, kc_0, kc_1, kc_2, kc_3, kc_4, kc_5, reduceIte, Nat.reduceEqDiff, Nat.add_zero, rI_hold, rI_hold, rL_hold, hnn2]; exact congrArg nI (by omega))) ?_
  refine Bod.ic 1 (by decide) dc_294_232 ?_
  refine Bod.subN nn (by omega) (by omega) dc_294_233 ?_
  exact Bod.retI dc_294_234 rt_294
theorem nl_putN {d nn g0 g1 g3 gn ab NB fr n k : Nat} {w z : Int32} {S : cS} (hnn : sI S 6102 = nI nn) (hv0 : sV S 6100 = .ref g0) (hv1 : sV S 6101 = .ref g1) (hv3 : sV S 6103 = .ref g3) (hg0 : isK S g0 2 (12 * gn)) (hg1 : isK S g1 0 gn) (hg3 : isK S g3 0 gn) (hgn : gn < 2 ^ 20) (hnl : nn < gn) (hab : (mk S)[ab]? = some (.inl (2, NB, .inl (sA S ab)))) (hNB : NB < 2 ^ 30) (hfr : fr + n ≤ NB) (hn12 : n ≤ 12) (hb : ∀ i, i < n → fits .byte (.int (sA S ab (fr + i))) = true) : Bod d 294 181 (sm_p1 (sm_p1 (sm_p1 (lv_args 0 [.ref 61, .ref ab, .int (nI fr), .int (nI n)]) 5 (.int w)) 6 (.int z)) 4 (.int (nI k))) [] S (some (.int (nI nn))) (r_learn S g0 g1 g3 ab fr n nn) := by
  refine Bod.go dc_294_181 rfl ?_
  refine Bod.go dc_294_182 rfl ?_
  refine Bod.go dc_294_183 rfl ?_
  refine Bod.get dc_294_184 fr_294_11 (mk_61 _) rfl ?_
  refine Bod.eqV (.ref g0) hv0 ?_
  refine Bod.bip 12 (by decide) dc_294_187 ?_
  refine Bod.go dc_294_189 rfl ?_
  refine Bod.get dc_294_190 fr_294_1 (mk_61 _) rfl ?_
  refine Bod.eqI (nI nn) (by first | assumption | rfl | exact congrArg nI (by omega) | (simp (disch := omega) only [rI, rIe, rA, rIA, rLA, rJA, rVI, rQI, rVA, rQA, upd_at,  rAI, rLI, rJI, nI_add, pk_sub, kc_0, kc_1, kc_2, kc_3, kc_4, kc_5, reduceIte, Nat.reduceEqDiff, Nat.add_zero, rI_hold, rI_hold, rL_hold, hnn]; done)) ?_
  refine Bod.mulN (12 * nn) (by omega) dc_294_193 ?_
  refine Bod.go dc_294_194 rfl ?_
  refine Bod.cpyB (sp := fr) (dp := 12 * nn) (m := n) (r := []) dc_294_195 kr_294_37 hab (mk_isB hg0) (by omega) (by omega) (by omega) (by omega) (Nat.zero_le _) hb (sf_isB hg0) rfl ?_
  unfold r_learn
  generalize hF : va_cpy (sA S ab) (sA S g0) fr (12 * nn) n = F
  obtain ⟨S2, hS2⟩ : ∃ S2, S2 = wF g0 F S := ⟨_, rfl⟩
  have hnn2 : sI S2 6102 = nI nn := by rw [hS2]; exact hnn
  have hv1x : sV S2 6101 = .ref g1 := by rw [hS2]; exact hv1
  have hv3x : sV S2 6103 = .ref g3 := by rw [hS2]; exact hv3
  have hg1x : isK S2 g1 0 gn := by rw [hS2]; exact isK_S rfl hg1
  have hg3x : isK S2 g3 0 gn := by rw [hS2]; exact isK_S rfl hg3
  rw [← hS2]
  refine Bod.go dc_294_198 rfl ?_
  refine Bod.get dc_294_199 fr_294_7 (mk_61 _) rfl ?_
  refine Bod.eqV (.ref g1) (by first | exact hv1x | (simp only [rIV, rJV, rAV, rLV, rQV]; exact hv1x)) ?_
  refine Bod.go dc_294_202 rfl ?_
  refine Bod.get dc_294_203 fr_294_1 (mk_61 _) rfl ?_
  refine Bod.eqI (nI nn) (by first | (simp (disch := omega) only [rI, rIe, rA, rIA, rLA, rJA, rVI, rQI, rVA, rQA, upd_at,  rAI, rLI, rJI, nI_add, pk_sub, kc_0, kc_1, kc_2, kc_3, kc_4, kc_5, reduceIte, Nat.reduceEqDiff, Nat.add_zero, rI_hold, rI_hold, rL_hold, hnn2]; done) | (simp (disch := omega) only [rI, rIe, rA, rIA, rLA, rJA, rVI, rQI, rVA, rQA, upd_at,  rAI, rLI, rJI, nI_add, pk_sub, kc_0, kc_1, kc_2, kc_3, kc_4, kc_5, reduceIte, Nat.reduceEqDiff, Nat.add_zero, rI_hold, rI_hold, rL_hold, hnn2]; exact congrArg nI (by omega))) ?_
  refine Bod.go dc_294_206 rfl ?_
  refine Bod.iastN (N := gn) nn rfl (by omega) (by omega) dc_294_207 (mk_isI (by first | exact hg1x | exact isK_S (by simp only [rIS, rJS, rAS, rLS, rVS, rQS, rS_hold]) hg1x)) (sa_isI (by first | exact hg1x | exact isK_S (by simp only [rIS, rJS, rAS, rLS, rVS, rQS, rS_hold]) hg1x)) (mu_A _ _ _ _) ?_
  refine Bod.go dc_294_208 rfl ?_
  refine Bod.get dc_294_209 fr_294_24 (mk_61 _) rfl ?_
  refine Bod.eqV (.ref g3) (by first | exact hv3x | (simp only [rIV, rJV, rAV, rLV, rQV]; exact hv3x)) ?_
  refine Bod.go dc_294_212 rfl ?_
  refine Bod.get dc_294_213 fr_294_1 (mk_61 _) rfl ?_
  refine Bod.eqI (nI nn) (by first | (simp (disch := omega) only [rI, rIe, rA, rIA, rLA, rJA, rVI, rQI, rVA, rQA, upd_at,  rAI, rLI, rJI, nI_add, pk_sub, kc_0, kc_1, kc_2, kc_3, kc_4, kc_5, reduceIte, Nat.reduceEqDiff, Nat.add_zero, rI_hold, rI_hold, rL_hold, hnn2]; done) | (simp (disch := omega) only [rI, rIe, rA, rIA, rLA, rJA, rVI, rQI, rVA, rQA, upd_at,  rAI, rLI, rJI, nI_add, pk_sub, kc_0, kc_1, kc_2, kc_3, kc_4, kc_5, reduceIte, Nat.reduceEqDiff, Nat.add_zero, rI_hold, rI_hold, rL_hold, hnn2]; exact congrArg nI (by omega))) ?_
  refine Bod.go dc_294_216 rfl ?_
  refine Bod.iastN (N := gn) nn rfl (by omega) (by omega) dc_294_217 (mk_isI (by first | exact hg3x | exact isK_S (by simp only [rIS, rJS, rAS, rLS, rVS, rQS, rS_hold]) hg3x)) (sa_isI (by first | exact hg3x | exact isK_S (by simp only [rIS, rJS, rAS, rLS, rVS, rQS, rS_hold]) hg3x)) (mu_A _ _ _ _) ?_
  refine Bod.go dc_294_218 rfl ?_
  refine Bod.go dc_294_219 rfl ?_
  refine Bod.get dc_294_220 fr_294_1 (mk_61 _) rfl ?_
  refine Bod.eqI (nI nn) (by first | (simp (disch := omega) only [rI, rIe, rA, rIA, rLA, rJA, rVI, rQI, rVA, rQA, upd_at,  rAI, rLI, rJI, nI_add, pk_sub, kc_0, kc_1, kc_2, kc_3, kc_4, kc_5, reduceIte, Nat.reduceEqDiff, Nat.add_zero, rI_hold, rI_hold, rL_hold, hnn2]; done) | (simp (disch := omega) only [rI, rIe, rA, rIA, rLA, rJA, rVI, rQI, rVA, rQA, upd_at,  rAI, rLI, rJI, nI_add, pk_sub, kc_0, kc_1, kc_2, kc_3, kc_4, kc_5, reduceIte, Nat.reduceEqDiff, Nat.add_zero, rI_hold, rI_hold, rL_hold, hnn2]; exact congrArg nI (by omega))) ?_
  refine Bod.ic 1 (by decide) dc_294_223 ?_
  refine Bod.addN (nn + 1) (by omega) dc_294_224 ?_
  refine Bod.put dc_294_225 fr_294_1 (mk_61 _) (Nat.le_of_ble_eq_true rfl) pf_14_2 (st_6102 _ _) (mu_I _ _ _) ?_
  refine Bod.go dc_294_228 rfl ?_
  refine Bod.get dc_294_229 fr_294_1 (mk_61 _) rfl ?_
  refine Bod.eqI (nI (nn + 1)) (by first | (simp (disch := omega) only [rI, rIe, rA, rIA, rLA, rJA, rVI, rQI, rVA, rQA, upd_at,  rAI, rLI, rJI, nI_add, pk_sub, kc_0, kc_1, kc_2, kc_3, kc_4, kc_5, reduceIte, Nat.reduceEqDiff, Nat.add_zero, rI_hold, rI_hold, rL_hold, hnn2]; done) | (simp (disch := omega) only [rI, rIe, rA, rIA, rLA, rJA, rVI, rQI, rVA, rQA, upd_at,  rAI, rLI, rJI, nI_add, pk_sub, kc_0, kc_1, kc_2, kc_3, kc_4, kc_5, reduceIte, Nat.reduceEqDiff, Nat.add_zero, rI_hold, rI_hold, rL_hold, hnn2]; exact congrArg nI (by omega))) ?_
  refine Bod.ic 1 (by decide) dc_294_232 ?_
  refine Bod.subN nn (by omega) (by omega) dc_294_233 ?_
  exact Bod.retI dc_294_234 rt_294
