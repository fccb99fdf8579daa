/-! SIGNS -/
theorem dc_49_0 : decode (sm_cc 49) 0 = .ok (.iload_n 0, 1) := by decide +kernel
theorem dc_49_1 : decode (sm_cc 49) 1 = .ok (.lookupswitch (88) #[(33, 79), (42, 73), (43, 67), (45, 70), (60, 82), (61, 76), (62, 85)], 67) := by decide +kernel
theorem dc_49_80 : decode (sm_cc 49) 80 = .ok (.bipush (27), 2) := by decide +kernel
theorem dc_49_82 : decode (sm_cc 49) 82 = .ok (.ireturn, 1) := by decide +kernel
theorem rt_49 : sm_rt 49 = some .int := by decide +kernel
theorem ml_49 : sm_ml 49 = 1 := by decide +kernel
theorem dc_49_74 : decode (sm_cc 49) 74 = .ok (.bipush (25), 2) := by decide +kernel
theorem dc_49_76 : decode (sm_cc 49) 76 = .ok (.ireturn, 1) := by decide +kernel
theorem dc_49_68 : decode (sm_cc 49) 68 = .ok (.bipush (23), 2) := by decide +kernel
theorem dc_49_70 : decode (sm_cc 49) 70 = .ok (.ireturn, 1) := by decide +kernel
theorem dc_49_71 : decode (sm_cc 49) 71 = .ok (.bipush (24), 2) := by decide +kernel
theorem dc_49_73 : decode (sm_cc 49) 73 = .ok (.ireturn, 1) := by decide +kernel
theorem dc_49_83 : decode (sm_cc 49) 83 = .ok (.bipush (28), 2) := by decide +kernel
theorem dc_49_85 : decode (sm_cc 49) 85 = .ok (.ireturn, 1) := by decide +kernel
theorem dc_49_77 : decode (sm_cc 49) 77 = .ok (.bipush (26), 2) := by decide +kernel
theorem dc_49_79 : decode (sm_cc 49) 79 = .ok (.ireturn, 1) := by decide +kernel
theorem dc_49_86 : decode (sm_cc 49) 86 = .ok (.bipush (29), 2) := by decide +kernel
theorem dc_49_88 : decode (sm_cc 49) 88 = .ok (.ireturn, 1) := by decide +kernel
theorem dc_49_89 : decode (sm_cc 49) 89 = .ok (.iconst 0, 1) := by decide +kernel
theorem dc_49_90 : decode (sm_cc 49) 90 = .ok (.ireturn, 1) := by decide +kernel
theorem dc_50_0 : decode (sm_cc 50) 0 = .ok (.iload_n 0, 1) := by decide +kernel
theorem dc_50_1 : decode (sm_cc 50) 1 = .ok (.lookupswitch (187) #[(37, 175), (40, 139), (41, 142), (42, 172), (43, 166), (44, 157), (45, 169), (46, 163), (58, 160), (60, 181), (61, 178), (62, 184), (91, 145), (93, 148), (123, 151), (125, 154)], 139) := by decide +kernel
theorem dc_50_176 : decode (sm_cc 50) 176 = .ok (.bipush (18), 2) := by decide +kernel
theorem dc_50_178 : decode (sm_cc 50) 178 = .ok (.ireturn, 1) := by decide +kernel
theorem rt_50 : sm_rt 50 = some .int := by decide +kernel
theorem ml_50 : sm_ml 50 = 1 := by decide +kernel
theorem dc_50_140 : decode (sm_cc 50) 140 = .ok (.bipush (6), 2) := by decide +kernel
theorem dc_50_142 : decode (sm_cc 50) 142 = .ok (.ireturn, 1) := by decide +kernel
theorem dc_50_143 : decode (sm_cc 50) 143 = .ok (.bipush (7), 2) := by decide +kernel
theorem dc_50_145 : decode (sm_cc 50) 145 = .ok (.ireturn, 1) := by decide +kernel
theorem dc_50_173 : decode (sm_cc 50) 173 = .ok (.bipush (17), 2) := by decide +kernel
theorem dc_50_175 : decode (sm_cc 50) 175 = .ok (.ireturn, 1) := by decide +kernel
theorem dc_50_167 : decode (sm_cc 50) 167 = .ok (.bipush (15), 2) := by decide +kernel
theorem dc_50_169 : decode (sm_cc 50) 169 = .ok (.ireturn, 1) := by decide +kernel
theorem dc_50_158 : decode (sm_cc 50) 158 = .ok (.bipush (12), 2) := by decide +kernel
theorem dc_50_160 : decode (sm_cc 50) 160 = .ok (.ireturn, 1) := by decide +kernel
theorem dc_50_170 : decode (sm_cc 50) 170 = .ok (.bipush (16), 2) := by decide +kernel
theorem dc_50_172 : decode (sm_cc 50) 172 = .ok (.ireturn, 1) := by decide +kernel
theorem dc_50_164 : decode (sm_cc 50) 164 = .ok (.bipush (14), 2) := by decide +kernel
theorem dc_50_166 : decode (sm_cc 50) 166 = .ok (.ireturn, 1) := by decide +kernel
theorem dc_50_161 : decode (sm_cc 50) 161 = .ok (.bipush (13), 2) := by decide +kernel
theorem dc_50_163 : decode (sm_cc 50) 163 = .ok (.ireturn, 1) := by decide +kernel
theorem dc_50_182 : decode (sm_cc 50) 182 = .ok (.bipush (20), 2) := by decide +kernel
theorem dc_50_184 : decode (sm_cc 50) 184 = .ok (.ireturn, 1) := by decide +kernel
theorem dc_50_179 : decode (sm_cc 50) 179 = .ok (.bipush (19), 2) := by decide +kernel
theorem dc_50_181 : decode (sm_cc 50) 181 = .ok (.ireturn, 1) := by decide +kernel
theorem dc_50_185 : decode (sm_cc 50) 185 = .ok (.bipush (21), 2) := by decide +kernel
theorem dc_50_187 : decode (sm_cc 50) 187 = .ok (.ireturn, 1) := by decide +kernel
theorem dc_50_146 : decode (sm_cc 50) 146 = .ok (.bipush (8), 2) := by decide +kernel
theorem dc_50_148 : decode (sm_cc 50) 148 = .ok (.ireturn, 1) := by decide +kernel
theorem dc_50_149 : decode (sm_cc 50) 149 = .ok (.bipush (9), 2) := by decide +kernel
theorem dc_50_151 : decode (sm_cc 50) 151 = .ok (.ireturn, 1) := by decide +kernel
theorem dc_50_152 : decode (sm_cc 50) 152 = .ok (.bipush (10), 2) := by decide +kernel
theorem dc_50_154 : decode (sm_cc 50) 154 = .ok (.ireturn, 1) := by decide +kernel
theorem dc_50_155 : decode (sm_cc 50) 155 = .ok (.bipush (11), 2) := by decide +kernel
theorem dc_50_157 : decode (sm_cc 50) 157 = .ok (.ireturn, 1) := by decide +kernel
theorem dc_50_188 : decode (sm_cc 50) 188 = .ok (.iconst 0, 1) := by decide +kernel
theorem dc_50_189 : decode (sm_cc 50) 189 = .ok (.ireturn, 1) := by decide +kernel
theorem signEq_sw : ∀ b, b < 256 → (b = 33 ∨ b = 42 ∨ b = 43 ∨ b = 45 ∨ b = 60 ∨ b = 61 ∨ b = 62 ∨ sm_br (.lookupswitch (88) #[(33, 79), (42, 73), (43, 67), (45, 70), (60, 82), (61, 76), (62, 85)]) 67 1 [.int (nI b)] = some (89, [])) := by decide +kernel
theorem signEq_33 {d : Nat} {S : cS}   : Ans (d + 1) 49 [.int (nI 33)] S (some (.int (nI 27))) (S) := by
  refine Ans.of (by rw [ml_49]; exact Nat.le_of_ble_eq_true rfl) ?_
  refine Bod.go dc_49_0 rfl ?_
  refine Bod.sw (t := 80) dc_49_1 rfl rfl (by decide +kernel) ?_
  refine Bod.bip 27 (by decide) dc_49_80 ?_
  exact Bod.retI dc_49_82 rt_49
theorem signEq_42 {d : Nat} {S : cS}   : Ans (d + 1) 49 [.int (nI 42)] S (some (.int (nI 25))) (S) := by
  refine Ans.of (by rw [ml_49]; exact Nat.le_of_ble_eq_true rfl) ?_
  refine Bod.go dc_49_0 rfl ?_
  refine Bod.sw (t := 74) dc_49_1 rfl rfl (by decide +kernel) ?_
  refine Bod.bip 25 (by decide) dc_49_74 ?_
  exact Bod.retI dc_49_76 rt_49
theorem signEq_43 {d : Nat} {S : cS}   : Ans (d + 1) 49 [.int (nI 43)] S (some (.int (nI 23))) (S) := by
  refine Ans.of (by rw [ml_49]; exact Nat.le_of_ble_eq_true rfl) ?_
  refine Bod.go dc_49_0 rfl ?_
  refine Bod.sw (t := 68) dc_49_1 rfl rfl (by decide +kernel) ?_
  refine Bod.bip 23 (by decide) dc_49_68 ?_
  exact Bod.retI dc_49_70 rt_49
theorem signEq_45 {d : Nat} {S : cS}   : Ans (d + 1) 49 [.int (nI 45)] S (some (.int (nI 24))) (S) := by
  refine Ans.of (by rw [ml_49]; exact Nat.le_of_ble_eq_true rfl) ?_
  refine Bod.go dc_49_0 rfl ?_
  refine Bod.sw (t := 71) dc_49_1 rfl rfl (by decide +kernel) ?_
  refine Bod.bip 24 (by decide) dc_49_71 ?_
  exact Bod.retI dc_49_73 rt_49
theorem signEq_60 {d : Nat} {S : cS}   : Ans (d + 1) 49 [.int (nI 60)] S (some (.int (nI 28))) (S) := by
  refine Ans.of (by rw [ml_49]; exact Nat.le_of_ble_eq_true rfl) ?_
  refine Bod.go dc_49_0 rfl ?_
  refine Bod.sw (t := 83) dc_49_1 rfl rfl (by decide +kernel) ?_
  refine Bod.bip 28 (by decide) dc_49_83 ?_
  exact Bod.retI dc_49_85 rt_49
theorem signEq_61 {d : Nat} {S : cS}   : Ans (d + 1) 49 [.int (nI 61)] S (some (.int (nI 26))) (S) := by
  refine Ans.of (by rw [ml_49]; exact Nat.le_of_ble_eq_true rfl) ?_
  refine Bod.go dc_49_0 rfl ?_
  refine Bod.sw (t := 77) dc_49_1 rfl rfl (by decide +kernel) ?_
  refine Bod.bip 26 (by decide) dc_49_77 ?_
  exact Bod.retI dc_49_79 rt_49
theorem signEq_62 {d : Nat} {S : cS}   : Ans (d + 1) 49 [.int (nI 62)] S (some (.int (nI 29))) (S) := by
  refine Ans.of (by rw [ml_49]; exact Nat.le_of_ble_eq_true rfl) ?_
  refine Bod.go dc_49_0 rfl ?_
  refine Bod.sw (t := 86) dc_49_1 rfl rfl (by decide +kernel) ?_
  refine Bod.bip 29 (by decide) dc_49_86 ?_
  exact Bod.retI dc_49_88 rt_49
theorem signEq_no {d : Nat} {S : cS} {b : Nat} (hb : b < 256) (h33 : b ≠ 33) (h42 : b ≠ 42) (h43 : b ≠ 43) (h45 : b ≠ 45) (h60 : b ≠ 60) (h61 : b ≠ 61) (h62 : b ≠ 62) : Ans (d + 1) 49 [.int (nI b)] S (some (.int (nI 0))) (S) := by
  refine Ans.of (by rw [ml_49]; exact Nat.le_of_ble_eq_true rfl) ?_
  refine Bod.go dc_49_0 rfl ?_
  refine Bod.sw (t := 89) dc_49_1 rfl rfl ((((((((signEq_sw b hb).resolve_left h33).resolve_left h42).resolve_left h43).resolve_left h45).resolve_left h60).resolve_left h61).resolve_left h62) ?_
  refine Bod.ic 0 (by decide) dc_49_89 ?_
  exact Bod.retI dc_49_90 rt_49
/-- the token of a sign with = behind it; 0: none -/
def c_signEq (b : Nat) : Nat := if b = 33 then 27 else if b = 42 then 25 else if b = 43 then 23 else if b = 45 then 24 else if b = 60 then 28 else if b = 61 then 26 else if b = 62 then 29 else 0
theorem signEq_ev {d : Nat} {S : cS} {b : Nat} (hb : b < 256) : Ans (d + 1) 49 [.int (nI b)] S (some (.int (nI (c_signEq b)))) S := by
  unfold c_signEq
  by_cases h33 : b = 33
  · subst h33
    exact signEq_33
  rw [if_neg h33]
  by_cases h42 : b = 42
  · subst h42
    exact signEq_42
  rw [if_neg h42]
  by_cases h43 : b = 43
  · subst h43
    exact signEq_43
  rw [if_neg h43]
  by_cases h45 : b = 45
  · subst h45
    exact signEq_45
  rw [if_neg h45]
  by_cases h60 : b = 60
  · subst h60
    exact signEq_60
  rw [if_neg h60]
  by_cases h61 : b = 61
  · subst h61
    exact signEq_61
  rw [if_neg h61]
  by_cases h62 : b = 62
  · subst h62
    exact signEq_62
  rw [if_neg h62]
  exact signEq_no hb h33 h42 h43 h45 h60 h61 h62
theorem signOne_sw : ∀ b, b < 256 → (b = 37 ∨ b = 40 ∨ b = 41 ∨ b = 42 ∨ b = 43 ∨ b = 44 ∨ b = 45 ∨ b = 46 ∨ b = 58 ∨ b = 60 ∨ b = 61 ∨ b = 62 ∨ b = 91 ∨ b = 93 ∨ b = 123 ∨ b = 125 ∨ sm_br (.lookupswitch (187) #[(37, 175), (40, 139), (41, 142), (42, 172), (43, 166), (44, 157), (45, 169), (46, 163), (58, 160), (60, 181), (61, 178), (62, 184), (91, 145), (93, 148), (123, 151), (125, 154)]) 139 1 [.int (nI b)] = some (188, [])) := by decide +kernel
theorem signOne_37 {d : Nat} {S : cS}   : Ans (d + 1) 50 [.int (nI 37)] S (some (.int (nI 18))) (S) := by
  refine Ans.of (by rw [ml_50]; exact Nat.le_of_ble_eq_true rfl) ?_
  refine Bod.go dc_50_0 rfl ?_
  refine Bod.sw (t := 176) dc_50_1 rfl rfl (by decide +kernel) ?_
  refine Bod.bip 18 (by decide) dc_50_176 ?_
  exact Bod.retI dc_50_178 rt_50
theorem signOne_40 {d : Nat} {S : cS}   : Ans (d + 1) 50 [.int (nI 40)] S (some (.int (nI 6))) (S) := by
  refine Ans.of (by rw [ml_50]; exact Nat.le_of_ble_eq_true rfl) ?_
  refine Bod.go dc_50_0 rfl ?_
  refine Bod.sw (t := 140) dc_50_1 rfl rfl (by decide +kernel) ?_
  refine Bod.bip 6 (by decide) dc_50_140 ?_
  exact Bod.retI dc_50_142 rt_50
theorem signOne_41 {d : Nat} {S : cS}   : Ans (d + 1) 50 [.int (nI 41)] S (some (.int (nI 7))) (S) := by
  refine Ans.of (by rw [ml_50]; exact Nat.le_of_ble_eq_true rfl) ?_
  refine Bod.go dc_50_0 rfl ?_
  refine Bod.sw (t := 143) dc_50_1 rfl rfl (by decide +kernel) ?_
  refine Bod.bip 7 (by decide) dc_50_143 ?_
  exact Bod.retI dc_50_145 rt_50
theorem signOne_42 {d : Nat} {S : cS}   : Ans (d + 1) 50 [.int (nI 42)] S (some (.int (nI 17))) (S) := by
  refine Ans.of (by rw [ml_50]; exact Nat.le_of_ble_eq_true rfl) ?_
  refine Bod.go dc_50_0 rfl ?_
  refine Bod.sw (t := 173) dc_50_1 rfl rfl (by decide +kernel) ?_
  refine Bod.bip 17 (by decide) dc_50_173 ?_
  exact Bod.retI dc_50_175 rt_50
theorem signOne_43 {d : Nat} {S : cS}   : Ans (d + 1) 50 [.int (nI 43)] S (some (.int (nI 15))) (S) := by
  refine Ans.of (by rw [ml_50]; exact Nat.le_of_ble_eq_true rfl) ?_
  refine Bod.go dc_50_0 rfl ?_
  refine Bod.sw (t := 167) dc_50_1 rfl rfl (by decide +kernel) ?_
  refine Bod.bip 15 (by decide) dc_50_167 ?_
  exact Bod.retI dc_50_169 rt_50
theorem signOne_44 {d : Nat} {S : cS}   : Ans (d + 1) 50 [.int (nI 44)] S (some (.int (nI 12))) (S) := by
  refine Ans.of (by rw [ml_50]; exact Nat.le_of_ble_eq_true rfl) ?_
  refine Bod.go dc_50_0 rfl ?_
  refine Bod.sw (t := 158) dc_50_1 rfl rfl (by decide +kernel) ?_
  refine Bod.bip 12 (by decide) dc_50_158 ?_
  exact Bod.retI dc_50_160 rt_50
theorem signOne_45 {d : Nat} {S : cS}   : Ans (d + 1) 50 [.int (nI 45)] S (some (.int (nI 16))) (S) := by
  refine Ans.of (by rw [ml_50]; exact Nat.le_of_ble_eq_true rfl) ?_
  refine Bod.go dc_50_0 rfl ?_
  refine Bod.sw (t := 170) dc_50_1 rfl rfl (by decide +kernel) ?_
  refine Bod.bip 16 (by decide) dc_50_170 ?_
  exact Bod.retI dc_50_172 rt_50
theorem signOne_46 {d : Nat} {S : cS}   : Ans (d + 1) 50 [.int (nI 46)] S (some (.int (nI 14))) (S) := by
  refine Ans.of (by rw [ml_50]; exact Nat.le_of_ble_eq_true rfl) ?_
  refine Bod.go dc_50_0 rfl ?_
  refine Bod.sw (t := 164) dc_50_1 rfl rfl (by decide +kernel) ?_
  refine Bod.bip 14 (by decide) dc_50_164 ?_
  exact Bod.retI dc_50_166 rt_50
theorem signOne_58 {d : Nat} {S : cS}   : Ans (d + 1) 50 [.int (nI 58)] S (some (.int (nI 13))) (S) := by
  refine Ans.of (by rw [ml_50]; exact Nat.le_of_ble_eq_true rfl) ?_
  refine Bod.go dc_50_0 rfl ?_
  refine Bod.sw (t := 161) dc_50_1 rfl rfl (by decide +kernel) ?_
  refine Bod.bip 13 (by decide) dc_50_161 ?_
  exact Bod.retI dc_50_163 rt_50
theorem signOne_60 {d : Nat} {S : cS}   : Ans (d + 1) 50 [.int (nI 60)] S (some (.int (nI 20))) (S) := by
  refine Ans.of (by rw [ml_50]; exact Nat.le_of_ble_eq_true rfl) ?_
  refine Bod.go dc_50_0 rfl ?_
  refine Bod.sw (t := 182) dc_50_1 rfl rfl (by decide +kernel) ?_
  refine Bod.bip 20 (by decide) dc_50_182 ?_
  exact Bod.retI dc_50_184 rt_50
theorem signOne_61 {d : Nat} {S : cS}   : Ans (d + 1) 50 [.int (nI 61)] S (some (.int (nI 19))) (S) := by
  refine Ans.of (by rw [ml_50]; exact Nat.le_of_ble_eq_true rfl) ?_
  refine Bod.go dc_50_0 rfl ?_
  refine Bod.sw (t := 179) dc_50_1 rfl rfl (by decide +kernel) ?_
  refine Bod.bip 19 (by decide) dc_50_179 ?_
  exact Bod.retI dc_50_181 rt_50
theorem signOne_62 {d : Nat} {S : cS}   : Ans (d + 1) 50 [.int (nI 62)] S (some (.int (nI 21))) (S) := by
  refine Ans.of (by rw [ml_50]; exact Nat.le_of_ble_eq_true rfl) ?_
  refine Bod.go dc_50_0 rfl ?_
  refine Bod.sw (t := 185) dc_50_1 rfl rfl (by decide +kernel) ?_
  refine Bod.bip 21 (by decide) dc_50_185 ?_
  exact Bod.retI dc_50_187 rt_50
theorem signOne_91 {d : Nat} {S : cS}   : Ans (d + 1) 50 [.int (nI 91)] S (some (.int (nI 8))) (S) := by
  refine Ans.of (by rw [ml_50]; exact Nat.le_of_ble_eq_true rfl) ?_
  refine Bod.go dc_50_0 rfl ?_
  refine Bod.sw (t := 146) dc_50_1 rfl rfl (by decide +kernel) ?_
  refine Bod.bip 8 (by decide) dc_50_146 ?_
  exact Bod.retI dc_50_148 rt_50
theorem signOne_93 {d : Nat} {S : cS}   : Ans (d + 1) 50 [.int (nI 93)] S (some (.int (nI 9))) (S) := by
  refine Ans.of (by rw [ml_50]; exact Nat.le_of_ble_eq_true rfl) ?_
  refine Bod.go dc_50_0 rfl ?_
  refine Bod.sw (t := 149) dc_50_1 rfl rfl (by decide +kernel) ?_
  refine Bod.bip 9 (by decide) dc_50_149 ?_
  exact Bod.retI dc_50_151 rt_50
theorem signOne_123 {d : Nat} {S : cS}   : Ans (d + 1) 50 [.int (nI 123)] S (some (.int (nI 10))) (S) := by
  refine Ans.of (by rw [ml_50]; exact Nat.le_of_ble_eq_true rfl) ?_
  refine Bod.go dc_50_0 rfl ?_
  refine Bod.sw (t := 152) dc_50_1 rfl rfl (by decide +kernel) ?_
  refine Bod.bip 10 (by decide) dc_50_152 ?_
  exact Bod.retI dc_50_154 rt_50
theorem signOne_125 {d : Nat} {S : cS}   : Ans (d + 1) 50 [.int (nI 125)] S (some (.int (nI 11))) (S) := by
  refine Ans.of (by rw [ml_50]; exact Nat.le_of_ble_eq_true rfl) ?_
  refine Bod.go dc_50_0 rfl ?_
  refine Bod.sw (t := 155) dc_50_1 rfl rfl (by decide +kernel) ?_
  refine Bod.bip 11 (by decide) dc_50_155 ?_
  exact Bod.retI dc_50_157 rt_50
theorem signOne_no {d : Nat} {S : cS} {b : Nat} (hb : b < 256) (h37 : b ≠ 37) (h40 : b ≠ 40) (h41 : b ≠ 41) (h42 : b ≠ 42) (h43 : b ≠ 43) (h44 : b ≠ 44) (h45 : b ≠ 45) (h46 : b ≠ 46) (h58 : b ≠ 58) (h60 : b ≠ 60) (h61 : b ≠ 61) (h62 : b ≠ 62) (h91 : b ≠ 91) (h93 : b ≠ 93) (h123 : b ≠ 123) (h125 : b ≠ 125) : Ans (d + 1) 50 [.int (nI b)] S (some (.int (nI 0))) (S) := by
  refine Ans.of (by rw [ml_50]; exact Nat.le_of_ble_eq_true rfl) ?_
  refine Bod.go dc_50_0 rfl ?_
  refine Bod.sw (t := 188) dc_50_1 rfl rfl (((((((((((((((((signOne_sw b hb).resolve_left h37).resolve_left h40).resolve_left h41).resolve_left h42).resolve_left h43).resolve_left h44).resolve_left h45).resolve_left h46).resolve_left h58).resolve_left h60).resolve_left h61).resolve_left h62).resolve_left h91).resolve_left h93).resolve_left h123).resolve_left h125) ?_
  refine Bod.ic 0 (by decide) dc_50_188 ?_
  exact Bod.retI dc_50_189 rt_50
/-- the token of a sign; 0: none -/
def c_signOne (b : Nat) : Nat := if b = 37 then 18 else if b = 40 then 6 else if b = 41 then 7 else if b = 42 then 17 else if b = 43 then 15 else if b = 44 then 12 else if b = 45 then 16 else if b = 46 then 14 else if b = 58 then 13 else if b = 60 then 20 else if b = 61 then 19 else if b = 62 then 21 else if b = 91 then 8 else if b = 93 then 9 else if b = 123 then 10 else if b = 125 then 11 else 0
theorem signOne_ev {d : Nat} {S : cS} {b : Nat} (hb : b < 256) : Ans (d + 1) 50 [.int (nI b)] S (some (.int (nI (c_signOne b)))) S := by
  unfold c_signOne
  by_cases h37 : b = 37
  · subst h37
    exact signOne_37
  rw [if_neg h37]
  by_cases h40 : b = 40
  · subst h40
    exact signOne_40
  rw [if_neg h40]
  by_cases h41 : b = 41
  · subst h41
    exact signOne_41
  rw [if_neg h41]
  by_cases h42 : b = 42
  · subst h42
    exact signOne_42
  rw [if_neg h42]
  by_cases h43 : b = 43
  · subst h43
    exact signOne_43
  rw [if_neg h43]
  by_cases h44 : b = 44
  · subst h44
    exact signOne_44
  rw [if_neg h44]
  by_cases h45 : b = 45
  · subst h45
    exact signOne_45
  rw [if_neg h45]
  by_cases h46 : b = 46
  · subst h46
    exact signOne_46
  rw [if_neg h46]
  by_cases h58 : b = 58
  · subst h58
    exact signOne_58
  rw [if_neg h58]
  by_cases h60 : b = 60
  · subst h60
    exact signOne_60
  rw [if_neg h60]
  by_cases h61 : b = 61
  · subst h61
    exact signOne_61
  rw [if_neg h61]
  by_cases h62 : b = 62
  · subst h62
    exact signOne_62
  rw [if_neg h62]
  by_cases h91 : b = 91
  · subst h91
    exact signOne_91
  rw [if_neg h91]
  by_cases h93 : b = 93
  · subst h93
    exact signOne_93
  rw [if_neg h93]
  by_cases h123 : b = 123
  · subst h123
    exact signOne_123
  rw [if_neg h123]
  by_cases h125 : b = 125
  · subst h125
    exact signOne_125
  rw [if_neg h125]
  exact signOne_no hb h37 h40 h41 h42 h43 h44 h45 h46 h58 h60 h61 h62 h91 h93 h123 h125
