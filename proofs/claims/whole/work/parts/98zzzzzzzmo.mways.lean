/-! WAYS of the class's machine: every call is a hypothesis -/
theorem dc_128_114 : decode (sm_cc 128) 114 = .ok (.aload_n 0, 1) := by decide +kernel
theorem dc_128_115 : decode (sm_cc 128) 115 = .ok (.iconst 0, 1) := by decide +kernel
theorem dc_128_116 : decode (sm_cc 128) 116 = .ok (.iconst 1, 1) := by decide +kernel
theorem dc_128_117 : decode (sm_cc 128) 117 = .ok (.invokevirtual 168, 3) := by decide +kernel
theorem ow_130 : 4 = sm_ow 130 := by decide +kernel
theorem kr_128_168 : sm_at mt_k (sm_ow 128) 168 = some (168, 0, 130, 0, 1356) := by decide +kernel
theorem np_130 : sm_np 130 = 2 := by decide +kernel
theorem dc_128_120 : decode (sm_cc 128) 120 = .ok (.ireturn, 1) := by decide +kernel
theorem dc_128_121 : decode (sm_cc 128) 121 = .ok (.aload_n 0, 1) := by decide +kernel
theorem dc_128_122 : decode (sm_cc 128) 122 = .ok (.iconst 0, 1) := by decide +kernel
theorem dc_128_123 : decode (sm_cc 128) 123 = .ok (.iconst 0, 1) := by decide +kernel
theorem dc_128_124 : decode (sm_cc 128) 124 = .ok (.invokevirtual 168, 3) := by decide +kernel
theorem dc_128_127 : decode (sm_cc 128) 127 = .ok (.ireturn, 1) := by decide +kernel
theorem dc_128_128 : decode (sm_cc 128) 128 = .ok (.aload_n 0, 1) := by decide +kernel
theorem dc_128_129 : decode (sm_cc 128) 129 = .ok (.iconst 1, 1) := by decide +kernel
theorem dc_128_130 : decode (sm_cc 128) 130 = .ok (.iconst 0, 1) := by decide +kernel
theorem dc_128_131 : decode (sm_cc 128) 131 = .ok (.invokevirtual 168, 3) := by decide +kernel
theorem dc_128_134 : decode (sm_cc 128) 134 = .ok (.ireturn, 1) := by decide +kernel
theorem dc_128_135 : decode (sm_cc 128) 135 = .ok (.aload_n 0, 1) := by decide +kernel
theorem dc_128_136 : decode (sm_cc 128) 136 = .ok (.invokevirtual 172, 3) := by decide +kernel
theorem ow_147 : 4 = sm_ow 147 := by decide +kernel
theorem kr_128_172 : sm_at mt_k (sm_ow 128) 172 = some (172, 0, 147, 0, 1423) := by decide +kernel
theorem np_147 : sm_np 147 = 0 := by decide +kernel
theorem dc_128_139 : decode (sm_cc 128) 139 = .ok (.ireturn, 1) := by decide +kernel
theorem dc_128_140 : decode (sm_cc 128) 140 = .ok (.aload_n 0, 1) := by decide +kernel
theorem dc_128_141 : decode (sm_cc 128) 141 = .ok (.invokevirtual 175, 3) := by decide +kernel
theorem ow_151 : 4 = sm_ow 151 := by decide +kernel
theorem kr_128_175 : sm_at mt_k (sm_ow 128) 175 = some (175, 0, 151, 0, 1443) := by decide +kernel
theorem np_151 : sm_np 151 = 0 := by decide +kernel
theorem dc_128_144 : decode (sm_cc 128) 144 = .ok (.ireturn, 1) := by decide +kernel
theorem dc_128_145 : decode (sm_cc 128) 145 = .ok (.aload_n 0, 1) := by decide +kernel
theorem dc_128_146 : decode (sm_cc 128) 146 = .ok (.aload_n 0, 1) := by decide +kernel
theorem dc_128_147 : decode (sm_cc 128) 147 = .ok (.invokevirtual 82, 3) := by decide +kernel
theorem dc_128_150 : decode (sm_cc 128) 150 = .ok (.invokevirtual 178, 3) := by decide +kernel
theorem ow_154 : 4 = sm_ow 154 := by decide +kernel
theorem kr_128_178 : sm_at mt_k (sm_ow 128) 178 = some (178, 0, 154, 0, 1456) := by decide +kernel
theorem np_154 : sm_np 154 = 1 := by decide +kernel
theorem dc_128_153 : decode (sm_cc 128) 153 = .ok (.ireturn, 1) := by decide +kernel
theorem dc_128_154 : decode (sm_cc 128) 154 = .ok (.aload_n 0, 1) := by decide +kernel
theorem dc_128_155 : decode (sm_cc 128) 155 = .ok (.getfield 23, 3) := by decide +kernel
theorem fr_128_23 : sm_at mt_f (sm_ow 128) 23 = some (23, 4, 3, 0, 839) := by decide +kernel
theorem dc_128_158 : decode (sm_cc 128) 158 = .ok (.iconst 2, 1) := by decide +kernel
theorem dc_128_159 : decode (sm_cc 128) 159 = .ok (.invokevirtual 127, 3) := by decide +kernel
theorem kr_128_127 : sm_at mt_k (sm_ow 128) 127 = some (127, 1, 141, 1, 1399) := by decide +kernel
theorem dc_128_162 : decode (sm_cc 128) 162 = .ok (.iconst 0, 1) := by decide +kernel
theorem dc_128_163 : decode (sm_cc 128) 163 = .ok (.ireturn, 1) := by decide +kernel
theorem dc_128_188 : decode (sm_cc 128) 188 = .ok (.aload_n 0, 1) := by decide +kernel
theorem dc_128_189 : decode (sm_cc 128) 189 = .ok (.invokevirtual 184, 3) := by decide +kernel
theorem ow_160 : 4 = sm_ow 160 := by decide +kernel
theorem kr_128_184 : sm_at mt_k (sm_ow 128) 184 = some (184, 0, 160, 0, 1481) := by decide +kernel
theorem np_160 : sm_np 160 = 0 := by decide +kernel
theorem dc_128_192 : decode (sm_cc 128) 192 = .ok (.ireturn, 1) := by decide +kernel
theorem mFw5_1 {d : Nat} {S : cS} {S1 : cS} {rb : Int32} (c1 : Ans (d + 8) 130 [.ref 52, .int (nI 0), .int (nI 1)] S (some (.int rb)) S1) : Bod (d + 8) 128 0 [(0, .ref 52), (1, .int (nI 5))] [] S (some (.int rb)) (S1) := by
  refine Bod.go dc_128_0 rfl ?_
  refine Bod.sw (t := 114) dc_128_1 rfl rfl (by decide +kernel) ?_
  refine Bod.go dc_128_114 rfl ?_
  refine Bod.ic 0 (by decide) dc_128_115 ?_
  refine Bod.ic 1 (by decide) dc_128_116 ?_
  refine Bod.virt (r := []) dc_128_117 kr_128_168 ⟨Or.inl rfl, ow_130, cl_4⟩ (by rw [np_130]; rfl) (by rw [np_130]; rfl) (ob_of (mk_52 _)) (Nat.le_of_ble_eq_true rfl) (c1  ) ?_
  show Bod _ _ _ _ [_] _ _ _
  exact Bod.retI dc_128_120 rt_128
theorem mFw6_1 {d : Nat} {S : cS} {S1 : cS} {rb : Int32} (c1 : Ans (d + 8) 130 [.ref 52, .int (nI 0), .int (nI 0)] S (some (.int rb)) S1) : Bod (d + 8) 128 0 [(0, .ref 52), (1, .int (nI 6))] [] S (some (.int rb)) (S1) := by
  refine Bod.go dc_128_0 rfl ?_
  refine Bod.sw (t := 121) dc_128_1 rfl rfl (by decide +kernel) ?_
  refine Bod.go dc_128_121 rfl ?_
  refine Bod.ic 0 (by decide) dc_128_122 ?_
  refine Bod.ic 0 (by decide) dc_128_123 ?_
  refine Bod.virt (r := []) dc_128_124 kr_128_168 ⟨Or.inl rfl, ow_130, cl_4⟩ (by rw [np_130]; rfl) (by rw [np_130]; rfl) (ob_of (mk_52 _)) (Nat.le_of_ble_eq_true rfl) (c1  ) ?_
  show Bod _ _ _ _ [_] _ _ _
  exact Bod.retI dc_128_127 rt_128
theorem mFw7_1 {d : Nat} {S : cS} {S1 : cS} {rb : Int32} (c1 : Ans (d + 8) 130 [.ref 52, .int (nI 1), .int (nI 0)] S (some (.int rb)) S1) : Bod (d + 8) 128 0 [(0, .ref 52), (1, .int (nI 7))] [] S (some (.int rb)) (S1) := by
  refine Bod.go dc_128_0 rfl ?_
  refine Bod.sw (t := 128) dc_128_1 rfl rfl (by decide +kernel) ?_
  refine Bod.go dc_128_128 rfl ?_
  refine Bod.ic 1 (by decide) dc_128_129 ?_
  refine Bod.ic 0 (by decide) dc_128_130 ?_
  refine Bod.virt (r := []) dc_128_131 kr_128_168 ⟨Or.inl rfl, ow_130, cl_4⟩ (by rw [np_130]; rfl) (by rw [np_130]; rfl) (ob_of (mk_52 _)) (Nat.le_of_ble_eq_true rfl) (c1  ) ?_
  show Bod _ _ _ _ [_] _ _ _
  exact Bod.retI dc_128_134 rt_128
theorem mFw8_1 {d : Nat} {S : cS} {S1 : cS} {rb : Int32} (c1 : Ans (d + 8) 147 [.ref 52] S (some (.int rb)) S1) : Bod (d + 8) 128 0 [(0, .ref 52), (1, .int (nI 8))] [] S (some (.int rb)) (S1) := by
  refine Bod.go dc_128_0 rfl ?_
  refine Bod.sw (t := 135) dc_128_1 rfl rfl (by decide +kernel) ?_
  refine Bod.go dc_128_135 rfl ?_
  refine Bod.virt (r := []) dc_128_136 kr_128_172 ⟨Or.inl rfl, ow_147, cl_4⟩ (by rw [np_147]; rfl) (by rw [np_147]; rfl) (ob_of (mk_52 _)) (Nat.le_of_ble_eq_true rfl) (c1  ) ?_
  show Bod _ _ _ _ [_] _ _ _
  exact Bod.retI dc_128_139 rt_128
theorem mFw9_1 {d : Nat} {S : cS} {S1 : cS} {rb : Int32} (c1 : Ans (d + 8) 151 [.ref 52] S (some (.int rb)) S1) : Bod (d + 8) 128 0 [(0, .ref 52), (1, .int (nI 9))] [] S (some (.int rb)) (S1) := by
  refine Bod.go dc_128_0 rfl ?_
  refine Bod.sw (t := 140) dc_128_1 rfl rfl (by decide +kernel) ?_
  refine Bod.go dc_128_140 rfl ?_
  refine Bod.virt (r := []) dc_128_141 kr_128_175 ⟨Or.inl rfl, ow_151, cl_4⟩ (by rw [np_151]; rfl) (by rw [np_151]; rfl) (ob_of (mk_52 _)) (Nat.le_of_ble_eq_true rfl) (c1  ) ?_
  show Bod _ _ _ _ [_] _ _ _
  exact Bod.retI dc_128_144 rt_128
theorem mFw10_1 {d : Nat} {S : cS} {S1 : cS} {rb : Int32} {S2 : cS} {rb1 : Int32} (c1 : Ans (d + 8) 127 [.ref 52] S (some (.int rb)) S1) (c2 : Ans (d + 8) 154 [.ref 52, .int rb] S1 (some (.int rb1)) S2) : Bod (d + 8) 128 0 [(0, .ref 52), (1, .int (nI 10))] [] S (some (.int rb1)) (S2) := by
  refine Bod.go dc_128_0 rfl ?_
  refine Bod.sw (t := 145) dc_128_1 rfl rfl (by decide +kernel) ?_
  refine Bod.go dc_128_145 rfl ?_
  refine Bod.go dc_128_146 rfl ?_
  refine Bod.virt (r := [_]) dc_128_147 kr_128_82 ⟨Or.inl rfl, ow_127, cl_4⟩ (by rw [np_127]; rfl) (by rw [np_127]; rfl) (ob_of (mk_52 _)) (Nat.le_of_ble_eq_true rfl) (c1  ) ?_
  show Bod _ _ _ _ [_, _] _ _ _
  refine Bod.virt (r := []) dc_128_150 kr_128_178 ⟨Or.inl rfl, ow_154, cl_4⟩ (by rw [np_154]; rfl) (by rw [np_154]; rfl) (ob_of (mk_52 _)) (Nat.le_of_ble_eq_true rfl) (c2  ) ?_
  show Bod _ _ _ _ [_] _ _ _
  exact Bod.retI dc_128_153 rt_128
theorem mFw11_1 {d : Nat} {S : cS} {S1 : cS} (c1 : Ans (d + 8) 141 [.ref 46, .int (nI 2)] S none S1) : Bod (d + 8) 128 0 [(0, .ref 52), (1, .int (nI 11))] [] S (some (.int (nI 0))) (S1) := by
  refine Bod.go dc_128_0 rfl ?_
  refine Bod.sw (t := 154) dc_128_1 rfl rfl (by decide +kernel) ?_
  refine Bod.go dc_128_154 rfl ?_
  refine Bod.get dc_128_155 fr_128_23 (mk_52 _) rfl ?_
  refine Bod.ic 2 (by decide) dc_128_158 ?_
  refine Bod.virt (r := []) dc_128_159 kr_128_127 ⟨Or.inr rfl, ow_141, cl_9⟩ (by rw [np_141]; rfl) (by rw [np_141]; rfl) (ob_of (mk_46 _)) (Nat.le_of_ble_eq_true rfl) (c1  ) ?_
  show Bod _ _ _ _ [] _ _ _
  refine Bod.ic 0 (by decide) dc_128_162 ?_
  exact Bod.retI dc_128_163 rt_128
theorem mFw14_1 {d : Nat} {S : cS} {S1 : cS} {rb : Int32} (c1 : Ans (d + 8) 160 [.ref 52] S (some (.int rb)) S1) : Bod (d + 8) 128 0 [(0, .ref 52), (1, .int (nI 14))] [] S (some (.int rb)) (S1) := by
  refine Bod.go dc_128_0 rfl ?_
  refine Bod.sw (t := 188) dc_128_1 rfl rfl (by decide +kernel) ?_
  refine Bod.go dc_128_188 rfl ?_
  refine Bod.virt (r := []) dc_128_189 kr_128_184 ⟨Or.inl rfl, ow_160, cl_4⟩ (by rw [np_160]; rfl) (by rw [np_160]; rfl) (ob_of (mk_52 _)) (Nat.le_of_ble_eq_true rfl) (c1  ) ?_
  show Bod _ _ _ _ [_] _ _ _
  exact Bod.retI dc_128_192 rt_128
