/-! THE LAW ON A FRESH PAIR: one call -/
theorem ow_29 : 11 = sm_ow 29 := by decide +kernel
theorem kr_1000_18 : sm_at mt_k (sm_ow 1000) 18 = some (18, 0, 29, 0, 933) := by decide +kernel
theorem cl_11 : 11 < mt_cl.length := by decide +kernel
theorem np_29 : sm_np 29 = 1 := by decide +kernel
theorem ow_283 : 14 = sm_ow 283 := by decide +kernel
theorem kr_1000_22 : sm_at mt_k (sm_ow 1000) 22 = some (22, 0, 283, 0, 2309) := by decide +kernel
theorem np_283 : sm_np 283 = 1 := by decide +kernel
theorem dc_1000_143 : decode (sm_cc 1000) 143 = .ok (.aload_n 1, 1) := by decide +kernel
theorem dc_1000_144 : decode (sm_cc 1000) 144 = .ok (.aload_n 0, 1) := by decide +kernel
theorem dc_1000_145 : decode (sm_cc 1000) 145 = .ok (.iload_n 3, 1) := by decide +kernel
theorem dc_1000_146 : decode (sm_cc 1000) 146 = .ok (.iconst 1, 1) := by decide +kernel
theorem dc_1000_147 : decode (sm_cc 1000) 147 = .ok (.iadd, 1) := by decide +kernel
theorem dc_1000_148 : decode (sm_cc 1000) 148 = .ok (.iaload, 1) := by decide +kernel
theorem dc_1000_149 : decode (sm_cc 1000) 149 = .ok (.invokevirtual 18, 3) := by decide +kernel
theorem dc_1000_152 : decode (sm_cc 1000) 152 = .ok (.aload_n 2, 1) := by decide +kernel
theorem dc_1000_153 : decode (sm_cc 1000) 153 = .ok (.aload_n 0, 1) := by decide +kernel
theorem dc_1000_154 : decode (sm_cc 1000) 154 = .ok (.iload_n 3, 1) := by decide +kernel
theorem dc_1000_155 : decode (sm_cc 1000) 155 = .ok (.iconst 1, 1) := by decide +kernel
theorem dc_1000_156 : decode (sm_cc 1000) 156 = .ok (.iadd, 1) := by decide +kernel
theorem dc_1000_157 : decode (sm_cc 1000) 157 = .ok (.iaload, 1) := by decide +kernel
theorem dc_1000_158 : decode (sm_cc 1000) 158 = .ok (.invokevirtual 22, 3) := by decide +kernel
theorem dc_1000_161 : decode (sm_cc 1000) 161 = .ok (.if_icmp .eq (154), 3) := by decide +kernel
theorem dc_1000_315 : decode (sm_cc 1000) 315 = .ok (.iinc 3 (6), 3) := by decide +kernel
theorem dc_1000_318 : decode (sm_cc 1000) 318 = .ok (.goto (-300), 3) := by decide +kernel
theorem ow_30 : 11 = sm_ow 30 := by decide +kernel
theorem kr_1000_23 : sm_at mt_k (sm_ow 1000) 23 = some (23, 0, 30, 0, 937) := by decide +kernel
theorem np_30 : sm_np 30 = 1 := by decide +kernel
theorem ow_285 : 14 = sm_ow 285 := by decide +kernel
theorem kr_1000_26 : sm_at mt_k (sm_ow 1000) 26 = some (26, 0, 285, 0, 2316) := by decide +kernel
theorem np_285 : sm_np 285 = 1 := by decide +kernel
theorem dc_1000_166 : decode (sm_cc 1000) 166 = .ok (.aload_n 1, 1) := by decide +kernel
theorem dc_1000_167 : decode (sm_cc 1000) 167 = .ok (.aload_n 0, 1) := by decide +kernel
theorem dc_1000_168 : decode (sm_cc 1000) 168 = .ok (.iload_n 3, 1) := by decide +kernel
theorem dc_1000_169 : decode (sm_cc 1000) 169 = .ok (.iconst 1, 1) := by decide +kernel
theorem dc_1000_170 : decode (sm_cc 1000) 170 = .ok (.iadd, 1) := by decide +kernel
theorem dc_1000_171 : decode (sm_cc 1000) 171 = .ok (.iaload, 1) := by decide +kernel
theorem dc_1000_172 : decode (sm_cc 1000) 172 = .ok (.invokevirtual 23, 3) := by decide +kernel
theorem dc_1000_175 : decode (sm_cc 1000) 175 = .ok (.aload_n 2, 1) := by decide +kernel
theorem dc_1000_176 : decode (sm_cc 1000) 176 = .ok (.aload_n 0, 1) := by decide +kernel
theorem dc_1000_177 : decode (sm_cc 1000) 177 = .ok (.iload_n 3, 1) := by decide +kernel
theorem dc_1000_178 : decode (sm_cc 1000) 178 = .ok (.iconst 1, 1) := by decide +kernel
theorem dc_1000_179 : decode (sm_cc 1000) 179 = .ok (.iadd, 1) := by decide +kernel
theorem dc_1000_180 : decode (sm_cc 1000) 180 = .ok (.iaload, 1) := by decide +kernel
theorem dc_1000_181 : decode (sm_cc 1000) 181 = .ok (.invokevirtual 26, 3) := by decide +kernel
theorem dc_1000_184 : decode (sm_cc 1000) 184 = .ok (.if_icmp .eq (131), 3) := by decide +kernel
theorem ow_270 : 11 = sm_ow 270 := by decide +kernel
theorem kr_1000_32 : sm_at mt_k (sm_ow 1000) 32 = some (32, 0, 270, 0, 2012) := by decide +kernel
theorem np_270 : sm_np 270 = 1 := by decide +kernel
theorem ow_422 : 14 = sm_ow 422 := by decide +kernel
theorem kr_1000_35 : sm_at mt_k (sm_ow 1000) 35 = some (35, 0, 422, 0, 3023) := by decide +kernel
theorem np_422 : sm_np 422 = 1 := by decide +kernel
theorem dc_1000_202 : decode (sm_cc 1000) 202 = .ok (.aload_n 1, 1) := by decide +kernel
theorem dc_1000_203 : decode (sm_cc 1000) 203 = .ok (.aload_n 0, 1) := by decide +kernel
theorem dc_1000_204 : decode (sm_cc 1000) 204 = .ok (.iload_n 3, 1) := by decide +kernel
theorem dc_1000_205 : decode (sm_cc 1000) 205 = .ok (.iconst 1, 1) := by decide +kernel
theorem dc_1000_206 : decode (sm_cc 1000) 206 = .ok (.iadd, 1) := by decide +kernel
theorem dc_1000_207 : decode (sm_cc 1000) 207 = .ok (.iaload, 1) := by decide +kernel
theorem dc_1000_208 : decode (sm_cc 1000) 208 = .ok (.invokevirtual 32, 3) := by decide +kernel
theorem dc_1000_211 : decode (sm_cc 1000) 211 = .ok (.aload_n 2, 1) := by decide +kernel
theorem dc_1000_212 : decode (sm_cc 1000) 212 = .ok (.aload_n 0, 1) := by decide +kernel
theorem dc_1000_213 : decode (sm_cc 1000) 213 = .ok (.iload_n 3, 1) := by decide +kernel
theorem dc_1000_214 : decode (sm_cc 1000) 214 = .ok (.iconst 1, 1) := by decide +kernel
theorem dc_1000_215 : decode (sm_cc 1000) 215 = .ok (.iadd, 1) := by decide +kernel
theorem dc_1000_216 : decode (sm_cc 1000) 216 = .ok (.iaload, 1) := by decide +kernel
theorem dc_1000_217 : decode (sm_cc 1000) 217 = .ok (.invokevirtual 35, 3) := by decide +kernel
theorem dc_1000_220 : decode (sm_cc 1000) 220 = .ok (.if_icmp .eq (95), 3) := by decide +kernel
theorem ow_273 : 11 = sm_ow 273 := by decide +kernel
theorem kr_1000_36 : sm_at mt_k (sm_ow 1000) 36 = some (36, 0, 273, 0, 2024) := by decide +kernel
theorem np_273 : sm_np 273 = 1 := by decide +kernel
theorem ow_423 : 14 = sm_ow 423 := by decide +kernel
theorem kr_1000_39 : sm_at mt_k (sm_ow 1000) 39 = some (39, 0, 423, 0, 3027) := by decide +kernel
theorem np_423 : sm_np 423 = 1 := by decide +kernel
theorem dc_1000_225 : decode (sm_cc 1000) 225 = .ok (.aload_n 1, 1) := by decide +kernel
theorem dc_1000_226 : decode (sm_cc 1000) 226 = .ok (.aload_n 0, 1) := by decide +kernel
theorem dc_1000_227 : decode (sm_cc 1000) 227 = .ok (.iload_n 3, 1) := by decide +kernel
theorem dc_1000_228 : decode (sm_cc 1000) 228 = .ok (.iconst 1, 1) := by decide +kernel
theorem dc_1000_229 : decode (sm_cc 1000) 229 = .ok (.iadd, 1) := by decide +kernel
theorem dc_1000_230 : decode (sm_cc 1000) 230 = .ok (.iaload, 1) := by decide +kernel
theorem dc_1000_231 : decode (sm_cc 1000) 231 = .ok (.invokevirtual 36, 3) := by decide +kernel
theorem dc_1000_234 : decode (sm_cc 1000) 234 = .ok (.aload_n 2, 1) := by decide +kernel
theorem dc_1000_235 : decode (sm_cc 1000) 235 = .ok (.aload_n 0, 1) := by decide +kernel
theorem dc_1000_236 : decode (sm_cc 1000) 236 = .ok (.iload_n 3, 1) := by decide +kernel
theorem dc_1000_237 : decode (sm_cc 1000) 237 = .ok (.iconst 1, 1) := by decide +kernel
theorem dc_1000_238 : decode (sm_cc 1000) 238 = .ok (.iadd, 1) := by decide +kernel
theorem dc_1000_239 : decode (sm_cc 1000) 239 = .ok (.iaload, 1) := by decide +kernel
theorem dc_1000_240 : decode (sm_cc 1000) 240 = .ok (.invokevirtual 39, 3) := by decide +kernel
theorem dc_1000_243 : decode (sm_cc 1000) 243 = .ok (.if_icmp .eq (72), 3) := by decide +kernel
def cell_fs (σ : sm_H) (a : Nat) : List Value := match σ[a]? with
  | some (.inr (_, fs)) => fs
  | _ => []
def cell_c (σ : sm_H) (a c : Nat) : Bool := match σ[a]? with
  | some (.inr (c1, _)) => c1 == c
  | _ => false
theorem cell_of {σ : sm_H} {a c : Nat} (h : cell_c σ a c = true) : σ[a]? = some (.inr (c, cell_fs σ a)) := by
  unfold cell_c at h
  unfold cell_fs
  split at h
  · rename_i c1 fs h1
    rw [h1, eq_of_beq h]
  · cases h
def cell_r (σ : sm_H) (a k : Nat) : Nat := match (cell_fs σ a)[k]? with
  | some (.ref b) => b
  | _ => 0
theorem cell_fd {σ : sm_H} {a c k : Nat} {v : Value} (h : cell_c σ a c = true) (h1 : (cell_fs σ a)[k]? = some v) : sx_fd σ a c k = some v := by
  unfold sx_fd
  rw [cell_of h]
  simp only [if_true]
  exact h1
theorem cell_ob {σ : sm_H} {a c : Nat} (h : cell_c σ a c = true) : sx_ob σ a = some c := by
  unfold sx_ob
  rw [cell_of h]
def sb_e : Nat := cell_r sb_h2 sb_m 43
def sb_q : Nat := cell_r sb_h2 sb_m 45
def sb_bu : Nat := cell_r sb_h2 0 5
theorem sb_k0 : cell_c sb_h2 0 11 = true := by decide +kernel
theorem sb_km : cell_c sb_h2 sb_m 14 = true := by decide +kernel
theorem sb_kb : cell_c sb_h2 sb_bu 0 = true := by decide +kernel
theorem sb_fx : (cell_fs sb_h2 0)[7]? = some (.int 0) ∧ (cell_fs sb_h2 0)[5]? = some (.ref sb_bu) ∧ (cell_fs sb_h2 sb_bu)[6]? = some (.int 0) := by decide +kernel
theorem sb_fm : (cell_fs sb_h2 sb_m)[2]? = some (.int 0) ∧ (cell_fs sb_h2 sb_m)[51]? = some (.int 0) ∧ (cell_fs sb_h2 sb_m)[59]? = some (.int 0) ∧ (cell_fs sb_h2 sb_m)[43]? = some (.ref sb_e) ∧ (cell_fs sb_h2 sb_m)[45]? = some (.ref sb_q) ∧ (cell_fs sb_h2 sb_m)[66]? = some (.int 0) ∧ (cell_fs sb_h2 sb_m)[72]? = some (.int 0) ∧ (cell_fs sb_h2 sb_m)[75]? = some (.int 0) ∧ sb_e ≠ sb_q ∧ sb_q ≠ sb_m := by decide +kernel
theorem sb_rm : sb_h2.length ≤ 600000 ∧ sb_u2 ≤ 7302250 := by decide +kernel
set_option maxRecDepth 1000000 in
theorem sb_ee : sb_h2[sb_e]? = some (.inl (3, 1500, .inl (fun _ => 0))) := by eq_refl
set_option maxRecDepth 1000000 in
theorem sb_qq : sb_h2[sb_q]? = some (.inl (0, 1500, .inl (fun _ => 0))) := by eq_refl
theorem sb_z : sz_Z sb_h2 sb_m sb_e sb_q (cell_fs sb_h2 sb_m) (fun _ => 0) := ⟨cell_of sb_km, sb_fm.1, sb_fm.2.1, sb_fm.2.2.1, sb_fm.2.2.2.1, sb_fm.2.2.2.2.1, sb_fm.2.2.2.2.2.1, sb_ee, sb_qq, sb_fm.2.2.2.2.2.2.2.2.1, sb_fm.2.2.2.2.2.2.2.2.2⟩
set_option maxRecDepth 1000000 in
theorem cc_0 : sf_ev none 30 1000 273 [.ref 0, .int 0] sb_h2 sb_u2 = some (some (.int 0), sb_h2, sb_u2) := by eq_refl
set_option maxRecDepth 1000000 in
theorem cc_1 : sf_ev none 30 1000 273 [.ref 0, .int 1] sb_h2 sb_u2 = some (some (.int 0), sb_h2, sb_u2) := by eq_refl
set_option maxRecDepth 1000000 in
theorem cc_2 : sf_ev none 30 1000 273 [.ref 0, .int 2] sb_h2 sb_u2 = some (some (.int 0), sb_h2, sb_u2) := by eq_refl
set_option maxRecDepth 1000000 in
theorem cc_3 : sf_ev none 30 1000 273 [.ref 0, .int 3] sb_h2 sb_u2 = some (some (.int 0), sb_h2, sb_u2) := by eq_refl
set_option maxRecDepth 1000000 in
theorem cc_4 : sf_ev none 30 1000 273 [.ref 0, .int 4] sb_h2 sb_u2 = some (some (.int 0), sb_h2, sb_u2) := by eq_refl
set_option maxRecDepth 1000000 in
theorem cc_5 : sf_ev none 30 1000 273 [.ref 0, .int 5] sb_h2 sb_u2 = some (some (.int 0), sb_h2, sb_u2) := by eq_refl
set_option maxRecDepth 1000000 in
theorem cc_6 : sf_ev none 30 1000 273 [.ref 0, .int 6] sb_h2 sb_u2 = some (some (.int 0), sb_h2, sb_u2) := by eq_refl
set_option maxRecDepth 1000000 in
theorem cc_7 : sf_ev none 30 1000 273 [.ref 0, .int 7] sb_h2 sb_u2 = some (some (.int 0), sb_h2, sb_u2) := by eq_refl
set_option maxRecDepth 1000000 in
theorem cc_8 : sf_ev none 30 1000 273 [.ref 0, .int 8] sb_h2 sb_u2 = some (some (.int 0), sb_h2, sb_u2) := by eq_refl
set_option maxRecDepth 1000000 in
theorem cc_9 : sf_ev none 30 1000 273 [.ref 0, .int 9] sb_h2 sb_u2 = some (some (.int 0), sb_h2, sb_u2) := by eq_refl
theorem so_end {xs : Nat → Int32} {v : Int32} {σ1 σ2 : sm_H} {u1 u2 n N : Nat} (h1 : sm_ev (some (6, xs)) 30 N 29 [.ref 0, .int (xs 1)] sb_h2 sb_u2 = some (some (.int v), σ1, u1)) (hm : sx_ob σ1 sb_m = some 14) (h2 : sm_ev (some (6, xs)) 30 N 283 [.ref sb_m, .int (xs 1)] σ1 u1 = some (some (.int v), σ2, u2)) : sm_run (some (6, xs)) (sm_ev (some (6, xs)) 30 N) 1000 (n + 25) (143, sb_lv 0, [], sb_h2, sb_u2) = some (some (.int 1), σ2, u2) := by
  refine (sx_go dc_1000_143 rfl).trans ?_
  refine (sx_go dc_1000_144 rfl).trans ?_
  refine (sx_go dc_1000_145 rfl).trans ?_
  refine (sx_go dc_1000_146 rfl).trans ?_
  refine (sx_go dc_1000_147 rfl).trans ?_
  refine (sx_xget dc_1000_148 (by decide)).trans ?_
  rw [show ((0 : Int32) + Int32.ofInt 1).toNatClampNeg = 1 by decide]
  refine (sx_virt (r := []) (v := some (.int v)) dc_1000_149 kr_1000_18 ⟨Or.inl rfl, ow_29, cl_11⟩ (by rw [np_29]; rfl) (cell_ob sb_k0) (Nat.le_of_ble_eq_true rfl) (by rw [np_29]; exact h1)).trans ?_
  show sm_run _ _ _ _ (_, _, [Value.int v], _, _) = _
  refine (sx_go dc_1000_152 rfl).trans ?_
  refine (sx_go dc_1000_153 rfl).trans ?_
  refine (sx_go dc_1000_154 rfl).trans ?_
  refine (sx_go dc_1000_155 rfl).trans ?_
  refine (sx_go dc_1000_156 rfl).trans ?_
  refine (sx_xget dc_1000_157 (by decide)).trans ?_
  rw [show ((0 : Int32) + Int32.ofInt 1).toNatClampNeg = 1 by decide]
  refine (sx_virt (r := [.int v]) (v := some (.int v)) dc_1000_158 kr_1000_22 ⟨Or.inl rfl, ow_283, cl_14⟩ (by rw [np_283]; rfl) hm (Nat.le_of_ble_eq_true rfl) (by rw [np_283]; exact h2)).trans ?_
  show sm_run _ _ _ _ (_, _, [Value.int v, Value.int v], _, _) = _
  refine (sx_ic_t dc_1000_161 rfl (if_pos rfl)).trans ?_
  refine (sx_iinc dc_1000_315 (by rw [ml_law]; decide) rfl).trans ?_
  refine (sx_go dc_1000_318 rfl).trans ?_
  exact sl_end (by decide)
theorem so_run {xs : Nat → Int32} {v : Int32} {σ1 σ2 : sm_H} {u1 u2 n N : Nat} (h1 : sm_ev (some (6, xs)) 30 N 30 [.ref 0, .int (xs 1)] sb_h2 sb_u2 = some (some (.int v), σ1, u1)) (hm : sx_ob σ1 sb_m = some 14) (h2 : sm_ev (some (6, xs)) 30 N 285 [.ref sb_m, .int (xs 1)] σ1 u1 = some (some (.int v), σ2, u2)) : sm_run (some (6, xs)) (sm_ev (some (6, xs)) 30 N) 1000 (n + 25) (166, sb_lv 0, [], sb_h2, sb_u2) = some (some (.int 1), σ2, u2) := by
  refine (sx_go dc_1000_166 rfl).trans ?_
  refine (sx_go dc_1000_167 rfl).trans ?_
  refine (sx_go dc_1000_168 rfl).trans ?_
  refine (sx_go dc_1000_169 rfl).trans ?_
  refine (sx_go dc_1000_170 rfl).trans ?_
  refine (sx_xget dc_1000_171 (by decide)).trans ?_
  rw [show ((0 : Int32) + Int32.ofInt 1).toNatClampNeg = 1 by decide]
  refine (sx_virt (r := []) (v := some (.int v)) dc_1000_172 kr_1000_23 ⟨Or.inl rfl, ow_30, cl_11⟩ (by rw [np_30]; rfl) (cell_ob sb_k0) (Nat.le_of_ble_eq_true rfl) (by rw [np_30]; exact h1)).trans ?_
  show sm_run _ _ _ _ (_, _, [Value.int v], _, _) = _
  refine (sx_go dc_1000_175 rfl).trans ?_
  refine (sx_go dc_1000_176 rfl).trans ?_
  refine (sx_go dc_1000_177 rfl).trans ?_
  refine (sx_go dc_1000_178 rfl).trans ?_
  refine (sx_go dc_1000_179 rfl).trans ?_
  refine (sx_xget dc_1000_180 (by decide)).trans ?_
  rw [show ((0 : Int32) + Int32.ofInt 1).toNatClampNeg = 1 by decide]
  refine (sx_virt (r := [.int v]) (v := some (.int v)) dc_1000_181 kr_1000_26 ⟨Or.inl rfl, ow_285, cl_14⟩ (by rw [np_285]; rfl) hm (Nat.le_of_ble_eq_true rfl) (by rw [np_285]; exact h2)).trans ?_
  show sm_run _ _ _ _ (_, _, [Value.int v, Value.int v], _, _) = _
  refine (sx_ic_t dc_1000_184 rfl (if_pos rfl)).trans ?_
  refine (sx_iinc dc_1000_315 (by rw [ml_law]; decide) rfl).trans ?_
  refine (sx_go dc_1000_318 rfl).trans ?_
  exact sl_end (by decide)
theorem so_octet {xs : Nat → Int32} {v : Int32} {σ1 σ2 : sm_H} {u1 u2 n N : Nat} (h1 : sm_ev (some (6, xs)) 30 N 270 [.ref 0, .int (xs 1)] sb_h2 sb_u2 = some (some (.int v), σ1, u1)) (hm : sx_ob σ1 sb_m = some 14) (h2 : sm_ev (some (6, xs)) 30 N 422 [.ref sb_m, .int (xs 1)] σ1 u1 = some (some (.int v), σ2, u2)) : sm_run (some (6, xs)) (sm_ev (some (6, xs)) 30 N) 1000 (n + 25) (202, sb_lv 0, [], sb_h2, sb_u2) = some (some (.int 1), σ2, u2) := by
  refine (sx_go dc_1000_202 rfl).trans ?_
  refine (sx_go dc_1000_203 rfl).trans ?_
  refine (sx_go dc_1000_204 rfl).trans ?_
  refine (sx_go dc_1000_205 rfl).trans ?_
  refine (sx_go dc_1000_206 rfl).trans ?_
  refine (sx_xget dc_1000_207 (by decide)).trans ?_
  rw [show ((0 : Int32) + Int32.ofInt 1).toNatClampNeg = 1 by decide]
  refine (sx_virt (r := []) (v := some (.int v)) dc_1000_208 kr_1000_32 ⟨Or.inl rfl, ow_270, cl_11⟩ (by rw [np_270]; rfl) (cell_ob sb_k0) (Nat.le_of_ble_eq_true rfl) (by rw [np_270]; exact h1)).trans ?_
  show sm_run _ _ _ _ (_, _, [Value.int v], _, _) = _
  refine (sx_go dc_1000_211 rfl).trans ?_
  refine (sx_go dc_1000_212 rfl).trans ?_
  refine (sx_go dc_1000_213 rfl).trans ?_
  refine (sx_go dc_1000_214 rfl).trans ?_
  refine (sx_go dc_1000_215 rfl).trans ?_
  refine (sx_xget dc_1000_216 (by decide)).trans ?_
  rw [show ((0 : Int32) + Int32.ofInt 1).toNatClampNeg = 1 by decide]
  refine (sx_virt (r := [.int v]) (v := some (.int v)) dc_1000_217 kr_1000_35 ⟨Or.inl rfl, ow_422, cl_14⟩ (by rw [np_422]; rfl) hm (Nat.le_of_ble_eq_true rfl) (by rw [np_422]; exact h2)).trans ?_
  show sm_run _ _ _ _ (_, _, [Value.int v, Value.int v], _, _) = _
  refine (sx_ic_t dc_1000_220 rfl (if_pos rfl)).trans ?_
  refine (sx_iinc dc_1000_315 (by rw [ml_law]; decide) rfl).trans ?_
  refine (sx_go dc_1000_318 rfl).trans ?_
  exact sl_end (by decide)
theorem so_count {xs : Nat → Int32} {v : Int32} {σ1 σ2 : sm_H} {u1 u2 n N : Nat} (h1 : sm_ev (some (6, xs)) 30 N 273 [.ref 0, .int (xs 1)] sb_h2 sb_u2 = some (some (.int v), σ1, u1)) (hm : sx_ob σ1 sb_m = some 14) (h2 : sm_ev (some (6, xs)) 30 N 423 [.ref sb_m, .int (xs 1)] σ1 u1 = some (some (.int v), σ2, u2)) : sm_run (some (6, xs)) (sm_ev (some (6, xs)) 30 N) 1000 (n + 25) (225, sb_lv 0, [], sb_h2, sb_u2) = some (some (.int 1), σ2, u2) := by
  refine (sx_go dc_1000_225 rfl).trans ?_
  refine (sx_go dc_1000_226 rfl).trans ?_
  refine (sx_go dc_1000_227 rfl).trans ?_
  refine (sx_go dc_1000_228 rfl).trans ?_
  refine (sx_go dc_1000_229 rfl).trans ?_
  refine (sx_xget dc_1000_230 (by decide)).trans ?_
  rw [show ((0 : Int32) + Int32.ofInt 1).toNatClampNeg = 1 by decide]
  refine (sx_virt (r := []) (v := some (.int v)) dc_1000_231 kr_1000_36 ⟨Or.inl rfl, ow_273, cl_11⟩ (by rw [np_273]; rfl) (cell_ob sb_k0) (Nat.le_of_ble_eq_true rfl) (by rw [np_273]; exact h1)).trans ?_
  show sm_run _ _ _ _ (_, _, [Value.int v], _, _) = _
  refine (sx_go dc_1000_234 rfl).trans ?_
  refine (sx_go dc_1000_235 rfl).trans ?_
  refine (sx_go dc_1000_236 rfl).trans ?_
  refine (sx_go dc_1000_237 rfl).trans ?_
  refine (sx_go dc_1000_238 rfl).trans ?_
  refine (sx_xget dc_1000_239 (by decide)).trans ?_
  rw [show ((0 : Int32) + Int32.ofInt 1).toNatClampNeg = 1 by decide]
  refine (sx_virt (r := [.int v]) (v := some (.int v)) dc_1000_240 kr_1000_39 ⟨Or.inl rfl, ow_423, cl_14⟩ (by rw [np_423]; rfl) hm (Nat.le_of_ble_eq_true rfl) (by rw [np_423]; exact h2)).trans ?_
  show sm_run _ _ _ _ (_, _, [Value.int v, Value.int v], _, _) = _
  refine (sx_ic_t dc_1000_243 rfl (if_pos rfl)).trans ?_
  refine (sx_iinc dc_1000_315 (by rw [ml_law]; decide) rfl).trans ?_
  refine (sx_go dc_1000_318 rfl).trans ?_
  exact sl_end (by decide)
/-- run on an empty tape, behind its look at the fuel: both answer the same -/
def sr_P (xs : Nat → Int32) : Bool := match sg_at (some (6, xs)) 29 200000 30 md_30 199994 (15, lv_args 0 [.ref 0, .int (xs 1)], [], sb_h2, sb_u2) with
  | some (some (.int v), σ1, u1) => (match sg_at (some (6, xs)) 29 200000 285 md_285 199994 (15, lv_args 0 [.ref sb_m, .int (xs 1)], [], σ1, u1) with
    | some (some (.int w), σ2, u2) => v == w && (cell_c σ1 sb_m 14 && (decide (σ2.length ≤ 600000) && decide (u2 ≤ 7302250)))
    | _ => false)
  | _ => false
theorem sr_all (xs : Nat → Int32) : sr_P xs = true := sb_all sr_P (by decide +kernel) xs
theorem sr_c {X : Option (Nat × (Nat → Int32))} {σ : sm_H} {u b : Nat} {a : Int32} (h1 : ¬ a < 1) (h2 : ¬ 20000 < a) : sm_ev X 30 200000 30 [.ref b, .int a] σ u = sm_run X (sm_ev X 29 200000) 30 199994 (15, lv_args 0 [.ref b, .int a], [], σ, u) := by
  rw [sx_ev (by rw [ml_30]; exact Nat.le_of_ble_eq_true rfl)]
  refine (sx_go dc_30_0 rfl).trans ?_
  refine (sx_go dc_30_1 rfl).trans ?_
  refine (sx_ic_f dc_30_2 rfl (if_neg h1)).trans ?_
  refine (sx_go dc_30_5 rfl).trans ?_
  refine (sx_go dc_30_6 rfl).trans ?_
  refine (sx_ic_t dc_30_9 rfl (if_pos (Int32.not_lt.mp h2))).trans ?_
  rfl
theorem sr_r {X : Option (Nat × (Nat → Int32))} {σ : sm_H} {u b : Nat} {a : Int32} (h1 : ¬ a < 1) (h2 : ¬ 20000 < a) : sm_ev X 30 200000 285 [.ref b, .int a] σ u = sm_run X (sm_ev X 29 200000) 285 199994 (15, lv_args 0 [.ref b, .int a], [], σ, u) := by
  rw [sx_ev (by rw [ml_285]; exact Nat.le_of_ble_eq_true rfl)]
  refine (sx_go dc_285_0 rfl).trans ?_
  refine (sx_go dc_285_1 rfl).trans ?_
  refine (sx_go dc_285_2 rfl).trans ?_
  refine (sx_ldc2 dc_285_3 cj_285_857).trans ?_
  refine (sx_stat (st := [.long 20000, .long 1, .long a.toInt64]) (v := some (.int 1)) dc_285_6 kr_285_680 (Or.inl rfl) (by rw [np_284]; exact Nat.le_of_ble_eq_true rfl) (by rw [np_284]; exact Nat.le_of_ble_eq_true rfl) (by rw [np_284]; exact in_yes (n := 199988) (fun h => h1 (cq_lowi h)) (fun h => h2 (cq_lowi h)))).trans ?_
  rw [np_284]
  show sm_run _ _ _ _ (_, _, [Value.int 1], _, _) = _
  refine (sx_if_t dc_285_9 rfl (by decide)).trans ?_
  rfl
/-- a call's answer and room, from its place in the law on -/
def so_G (pc : Nat) (xs : Nat → Int32) : Prop := ∃ σ1 u1, sm_run (some (6, xs)) (sm_ev (some (6, xs)) 30 200000) 1000 199978 (pc, sb_lv 0, [], sb_h2, sb_u2) = some (some (.int 1), σ1, u1) ∧ σ1.length ≤ 600000 ∧ u1 ≤ 7302250
theorem so_P {pc : Nat} {xs : Nat → Int32} (h : sb_P pc xs = true) : so_G pc xs := by
  obtain ⟨σ1, u1, h1, h2⟩ := sb_ok_of h
  exact ⟨σ1, u1, sg_at_ok dq_1000 h1, h2⟩
theorem so_Q {pc : Nat} {c : Int32} {xs : Nat → Int32} (h : sb_Q pc c xs = true) (hx : xs 1 = c) : so_G pc xs := by
  have e : upd xs 1 c = xs := funext (fun i => by
    by_cases hi : i = 1
    · rw [hi, pk_us, hx]
    · rw [pk_un hi])
  unfold sb_Q at h
  rw [e] at h
  obtain ⟨σ1, u1, h1, h2⟩ := sb_ok_of h
  exact ⟨σ1, u1, sf_at_ok dq_1000 h1, h2⟩
theorem so_0 {v : Int32} (h : ¬ (v < 0 ∨ 0 < v)) : v = 0 := Int32.toInt_inj.mp (by
  have h1 : ¬ v.toInt < (0 : Int32).toInt := fun h2 => h (Or.inl (Int32.lt_iff_toInt_lt.mpr h2))
  have h2 : ¬ (0 : Int32).toInt < v.toInt := fun h2 => h (Or.inr (Int32.lt_iff_toInt_lt.mpr h2))
  omega)
theorem so_end_G (xs : Nat → Int32) : so_G 143 xs := by
  by_cases h : xs 1 < 0 ∨ 0 < xs 1
  · exact ⟨sb_h2, sb_u2, so_end (n := 199953) (ce_no (n := 199980) (cell_fd sb_k0 sb_fx.1) h) (cell_ob sb_km) (re_no (n := 199980) (cell_fd sb_km sb_fm.2.2.2.2.2.2.2.1) h), sb_rm⟩
  · exact so_Q (sb_q143 xs) (so_0 h)
theorem so_octet_G (xs : Nat → Int32) : so_G 202 xs := by
  by_cases h0 : xs 1 = -1
  · exact so_Q (sb_q202 xs) h0
  · have h1 : xs 1 < -1 ∨ 0 - 1 < xs 1 := by
      by_cases h2 : xs 1 < -1
      · exact Or.inl h2
      · refine Or.inr (Int32.lt_iff_toInt_lt.mpr ?_)
        have h3 : ¬ (xs 1).toInt < (-1 : Int32).toInt := fun h4 => h2 (Int32.lt_iff_toInt_lt.mpr h4)
        have h4 : (xs 1).toInt ≠ (-1 : Int32).toInt := fun h5 => h0 (Int32.toInt_inj.mp h5)
        have h5 : (-1 : Int32).toInt = -1 := by decide
        have h6 : ((0 : Int32) - 1).toInt = -1 := by decide
        omega
    have h2 : xs 1 < 0 ∨ 0 ≤ xs 1 := by
      by_cases h3 : xs 1 < 0
      · exact Or.inl h3
      · exact Or.inr (Int32.not_lt.mp h3)
    exact ⟨sb_h2, sb_u2, so_octet (n := 199953) (co_no (n := 199980) (cell_fd sb_k0 sb_fx.2.1) (cell_ob sb_kb) (cell_fd sb_kb sb_fx.2.2) h0 h2) (cell_ob sb_km) (ro_no (n := 199980) (cell_fd sb_km sb_fm.2.2.2.2.2.2.1) h1), sb_rm⟩
theorem so_run_G (xs : Nat → Int32) : so_G 166 xs := by
  by_cases h : xs 1 < 1 ∨ 20000 < xs 1
  · exact ⟨sb_h2, sb_u2, so_run (n := 199953) (cr_no (n := 199980) h) (cell_ob sb_km) (rr_no (n := 199980) h), sb_rm⟩
  · have h1 : ¬ xs 1 < 1 := fun h2 => h (Or.inl h2)
    have h2 : ¬ 20000 < xs 1 := fun h2 => h (Or.inr h2)
    have h3 := sr_all xs
    unfold sr_P at h3
    split at h3
    · rename_i v σ1 u1 e1
      split at h3
      · rename_i w σ2 u2 e2
        simp only [Bool.and_eq_true, decide_eq_true_eq, beq_iff_eq] at h3
        obtain ⟨rfl, h4, h5, h6⟩ := h3
        exact ⟨σ2, u2, so_run (n := 199953) ((sr_c h1 h2).trans (sg_at_ok dq_30 e1)) (cell_ob h4) ((sr_r h1 h2).trans (sg_at_ok dq_285 e2)), h5, h6⟩
      · cases h3
    · cases h3
theorem so_cc {X : Option (Nat × (Nat → Int32))} {v : Int32} (h : sf_ev none 30 1000 273 [.ref 0, .int v] sb_h2 sb_u2 = some (some (.int 0), sb_h2, sb_u2)) : sm_ev X 30 200000 273 [.ref 0, .int v] sb_h2 sb_u2 = some (some (.int 0), sb_h2, sb_u2) := sm_ev_none 30 30 1000 200000 273 _ _ _ _ (Nat.le_refl _) (by decide) (sf_ev_ok _ _ _ _ _ _ _ h)
theorem so_count_G (xs : Nat → Int32) : so_G 225 xs := by
  by_cases h : xs 1 < 0 ∨ 9 < xs 1
  · have e : ∀ c : Int32, (c < 0 ∨ 9 < c) = False → xs 1 ≠ c := fun c hc he => by
      rw [he, hc] at h
      exact h
    have h1 : xs 1 < 1 ∨ 7 < xs 1 := by
      have h2 : ((0 : Int32).toInt = 0 ∧ (1 : Int32).toInt = 1) ∧ (7 : Int32).toInt = 7 ∧ (9 : Int32).toInt = 9 := by decide
      rcases h with h | h
      · have h3 := Int32.lt_iff_toInt_lt.mp h
        exact Or.inl (Int32.lt_iff_toInt_lt.mpr (by omega))
      · have h3 := Int32.lt_iff_toInt_lt.mp h
        exact Or.inr (Int32.lt_iff_toInt_lt.mpr (by omega))
    exact ⟨sb_h2, sb_u2, so_count (n := 199953) (cc_no (n := 199980) (e 0 (by decide)) (e 8 (by decide)) (e 9 (by decide)) h1) (cell_ob sb_km) (rc_no (n := 199980) h), sb_rm⟩
  · have h1 : ¬ xs 1 < 0 := fun h2 => h (Or.inl h2)
    have h2 : ¬ 9 < xs 1 := fun h2 => h (Or.inr h2)
    obtain ⟨k, hk, hx⟩ := nI_of2 (M := 9) (n := 9) (by decide) h1 (Int32.not_lt.mp h2)
    have hc : sm_ev (some (6, xs)) 30 200000 273 [.ref 0, .int (xs 1)] sb_h2 sb_u2 = some (some (.int 0), sb_h2, sb_u2) := by
      rw [hx]
      have h3 : k = 0 ∨ k = 1 ∨ k = 2 ∨ k = 3 ∨ k = 4 ∨ k = 5 ∨ k = 6 ∨ k = 7 ∨ k = 8 ∨ k = 9 := by omega
      rcases h3 with rfl | rfl | rfl | rfl | rfl | rfl | rfl | rfl | rfl | rfl
      · exact so_cc cc_0
      · exact so_cc cc_1
      · exact so_cc cc_2
      · exact so_cc cc_3
      · exact so_cc cc_4
      · exact so_cc cc_5
      · exact so_cc cc_6
      · exact so_cc cc_7
      · exact so_cc cc_8
      · exact so_cc cc_9
    refine ⟨_, sb_u2, so_count (n := 199953) hc (cell_ob sb_km) (co_ev sb_z (by decide) h1 h2), ?_, sb_rm.2⟩
    rw [List.length_set]
    exact sb_rm.1
/-- the claim for a script of at most one call -/
theorem one_ev (L : Nat) (xs : Nat → Int32) (hL : L ≤ 6) : ∃ (d n : Nat) (σ1 : sm_H) (u1 : Nat), d + 1 ≤ 2048 ∧ 100 * (d + 1) ≤ 84000 ∧ σ1.length ≤ 600000 ∧ u1 ≤ 7302250 ∧ sm_run (some (L, xs)) (sm_ev (some (L, xs)) d n) 1000 n (0, [(0, .retAddr 100000)], [], [], 0) = some (some (.int 1), σ1, u1) := by
  by_cases h6 : L = 6
  · subst h6
    have key : ∀ (x : Int32) (t : Nat), xs 0 &&& 7 = x → sm_br (.tableswitch 282 0 7 #[47, 110, 133, 156, 169, 192, 215, 268]) 47 33 [.int x] = some (t, []) → so_G t xs → ∃ (d n : Nat) (σ1 : sm_H) (u1 : Nat), d + 1 ≤ 2048 ∧ 100 * (d + 1) ≤ 84000 ∧ σ1.length ≤ 600000 ∧ u1 ≤ 7302250 ∧ sm_run (some (6, xs)) (sm_ev (some (6, xs)) d n) 1000 n (0, [(0, .retAddr 100000)], [], [], 0) = some (some (.int 1), σ1, u1) := by
      intro x t hx ht hG
      obtain ⟨σ1, u1, h1, h2, h3⟩ := hG
      refine ⟨30, 200000, σ1, u1, by decide, by decide, h2, h3, ?_⟩
      refine (sl_pre (some (6, xs)) 199990 200000 (Nat.le_refl _)).trans ?_
      refine (sl_sw (n := 199978) (x := x) (t := t) (by decide) (by decide) hx ht).trans ?_
      exact h1
    rcases sl_and7 (xs 0) with h | h | h | h | h | h | h | h
    · exact key 0 80 h (by decide) (so_P (sb_c80 xs))
    · exact key 1 143 h (by decide) (so_end_G xs)
    · exact key 2 166 h (by decide) (so_run_G xs)
    · exact key 3 189 h (by decide) (so_P (sb_c189 xs))
    · exact key 4 202 h (by decide) (so_octet_G xs)
    · exact key 5 225 h (by decide) (so_count_G xs)
    · exact key 6 248 h (by decide) (so_P (sb_c248 xs))
    · exact key 7 301 h (by decide) (so_P (sb_c301 xs))
  · refine ⟨30, 200000, sb_h2, sb_u2, by decide, by decide, sb_rm.1, sb_rm.2, ?_⟩
    refine (sl_pre (some (L, xs)) 199990 200000 (Nat.le_refl _)).trans ?_
    refine sl_end (n := 199982) ?_
    have h3 : L = 0 ∨ L = 1 ∨ L = 2 ∨ L = 3 ∨ L = 4 ∨ L = 5 := by omega
    rcases h3 with rfl | rfl | rfl | rfl | rfl | rfl <;> decide
