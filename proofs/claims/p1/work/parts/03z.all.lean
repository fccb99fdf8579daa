/-! THE CHECKS TOGETHER, for every owner, class and method -/
theorem sm_fwok_all : ∀ o : Nat, sm_fwok o
  | 0 => sm_fwok_0
  | 1 => sm_fwok_1
  | 2 => sm_fwok_2
  | 3 => sm_fwok_3
  | 4 => sm_fwok_4
  | 5 => sm_fwok_5
  | 6 => sm_fwok_6
  | 7 => sm_fwok_7
  | 8 => sm_fwok_8
  | 9 => sm_fwok_9
  | 10 => sm_fwok_10
  | 11 => sm_fwok_11
  | 12 => sm_fwok_12
  | 13 => sm_fwok_13
  | 14 => sm_fwok_14
  | 15 => sm_fwok_15
  | 16 => sm_fwok_16
  | 17 => sm_fwok_17
  | 18 => sm_fwok_18
  | 19 => sm_fwok_19
  | 20 => sm_fwok_20
  | 21 => sm_fwok_21
  | 22 => sm_fwok_22
  | n + 23 => by unfold sm_fwok; rfl
theorem sm_kwok_all : ∀ o : Nat, sm_kwok o
  | 0 => sm_kwok_0
  | 1 => sm_kwok_1
  | 2 => sm_kwok_2
  | 3 => sm_kwok_3
  | 4 => sm_kwok_4
  | 5 => sm_kwok_5
  | 6 => sm_kwok_6
  | 7 => sm_kwok_7
  | 8 => sm_kwok_8
  | 9 => sm_kwok_9
  | 10 => sm_kwok_10
  | 11 => sm_kwok_11
  | 12 => sm_kwok_12
  | 13 => sm_kwok_13
  | 14 => sm_kwok_14
  | 15 => sm_kwok_15
  | 16 => sm_kwok_16
  | 17 => sm_kwok_17
  | 18 => sm_kwok_18
  | 19 => sm_kwok_19
  | 20 => sm_kwok_20
  | 21 => sm_kwok_21
  | 22 => sm_kwok_22
  | n + 23 => by unfold sm_kwok; rfl
theorem sm_nwok_all : ∀ o : Nat, sm_nwok o
  | 0 => sm_nwok_0
  | 1 => sm_nwok_1
  | 2 => sm_nwok_2
  | 3 => sm_nwok_3
  | 4 => sm_nwok_4
  | 5 => sm_nwok_5
  | 6 => sm_nwok_6
  | 7 => sm_nwok_7
  | 8 => sm_nwok_8
  | 9 => sm_nwok_9
  | 10 => sm_nwok_10
  | 11 => sm_nwok_11
  | 12 => sm_nwok_12
  | 13 => sm_nwok_13
  | 14 => sm_nwok_14
  | 15 => sm_nwok_15
  | 16 => sm_nwok_16
  | 17 => sm_nwok_17
  | 18 => sm_nwok_18
  | 19 => sm_nwok_19
  | 20 => sm_nwok_20
  | 21 => sm_nwok_21
  | 22 => sm_nwok_22
  | n + 23 => by unfold sm_nwok; rfl
theorem sm_awok_all : ∀ o : Nat, sm_awok o
  | 0 => sm_awok_0
  | 1 => sm_awok_1
  | 2 => sm_awok_2
  | 3 => sm_awok_3
  | 4 => sm_awok_4
  | 5 => sm_awok_5
  | 6 => sm_awok_6
  | 7 => sm_awok_7
  | 8 => sm_awok_8
  | 9 => sm_awok_9
  | 10 => sm_awok_10
  | 11 => sm_awok_11
  | 12 => sm_awok_12
  | 13 => sm_awok_13
  | 14 => sm_awok_14
  | 15 => sm_awok_15
  | 16 => sm_awok_16
  | 17 => sm_awok_17
  | 18 => sm_awok_18
  | 19 => sm_awok_19
  | 20 => sm_awok_20
  | 21 => sm_awok_21
  | 22 => sm_awok_22
  | n + 23 => by unfold sm_awok; rfl
theorem sm_ciok_all : ∀ o : Nat, sm_ciok o
  | 0 => sm_ciok_0
  | 1 => sm_ciok_1
  | 2 => sm_ciok_2
  | 3 => sm_ciok_3
  | 4 => sm_ciok_4
  | 5 => sm_ciok_5
  | 6 => sm_ciok_6
  | 7 => sm_ciok_7
  | 8 => sm_ciok_8
  | 9 => sm_ciok_9
  | 10 => sm_ciok_10
  | 11 => sm_ciok_11
  | 12 => sm_ciok_12
  | 13 => sm_ciok_13
  | 14 => sm_ciok_14
  | 15 => sm_ciok_15
  | 16 => sm_ciok_16
  | 17 => sm_ciok_17
  | 18 => sm_ciok_18
  | 19 => sm_ciok_19
  | 20 => sm_ciok_20
  | 21 => sm_ciok_21
  | 22 => sm_ciok_22
  | n + 23 => by unfold sm_ciok; rfl
theorem sm_cjok_all : ∀ o : Nat, sm_cjok o
  | 0 => sm_cjok_0
  | 1 => sm_cjok_1
  | 2 => sm_cjok_2
  | 3 => sm_cjok_3
  | 4 => sm_cjok_4
  | 5 => sm_cjok_5
  | 6 => sm_cjok_6
  | 7 => sm_cjok_7
  | 8 => sm_cjok_8
  | 9 => sm_cjok_9
  | 10 => sm_cjok_10
  | 11 => sm_cjok_11
  | 12 => sm_cjok_12
  | 13 => sm_cjok_13
  | 14 => sm_cjok_14
  | 15 => sm_cjok_15
  | 16 => sm_cjok_16
  | 17 => sm_cjok_17
  | 18 => sm_cjok_18
  | 19 => sm_cjok_19
  | 20 => sm_cjok_20
  | 21 => sm_cjok_21
  | 22 => sm_cjok_22
  | n + 23 => by unfold sm_cjok; rfl
theorem sm_csok_all : ∀ o : Nat, sm_csok o
  | 0 => sm_csok_0
  | 1 => sm_csok_1
  | 2 => sm_csok_2
  | 3 => sm_csok_3
  | 4 => sm_csok_4
  | 5 => sm_csok_5
  | 6 => sm_csok_6
  | 7 => sm_csok_7
  | 8 => sm_csok_8
  | 9 => sm_csok_9
  | 10 => sm_csok_10
  | 11 => sm_csok_11
  | 12 => sm_csok_12
  | 13 => sm_csok_13
  | 14 => sm_csok_14
  | 15 => sm_csok_15
  | 16 => sm_csok_16
  | 17 => sm_csok_17
  | 18 => sm_csok_18
  | 19 => sm_csok_19
  | 20 => sm_csok_20
  | 21 => sm_csok_21
  | 22 => sm_csok_22
  | n + 23 => by unfold sm_csok; rfl
theorem sm_uw_mem {ws : List Cond} {ps : List Nat} (h : ws.map some = ps.map (fun i => lw_tbl[i]?)) : ∀ w ∈ ws, w ∈ lw_tbl := by
  intro w hw
  have h1 : some w ∈ ws.map some := List.mem_map.mpr ⟨w, hw, rfl⟩
  rw [h] at h1
  obtain ⟨i, -, hi⟩ := List.mem_map.mp h1
  exact List.mem_of_getElem? hi
set_option maxRecDepth 100000 in
theorem sm_uw_0 : (u_ws (sm_T 0).1 (sm_T 0).2.1 (sm_T 0).2.2).map some = ([797, 799, 801, 803, 805, 807, 809, 811] : List Nat).map (fun i => lw_tbl[i]?) := by rfl
set_option maxRecDepth 100000 in
theorem sm_uw_1 : (u_ws (sm_T 1).1 (sm_T 1).2.1 (sm_T 1).2.2).map some = ([711, 713, 715, 717, 719] : List Nat).map (fun i => lw_tbl[i]?) := by rfl
set_option maxRecDepth 100000 in
theorem sm_uw_2 : (u_ws (sm_T 2).1 (sm_T 2).2.1 (sm_T 2).2.2).map some = ([393, 395, 397, 399, 401, 403, 405, 407, 409, 411, 413, 415, 417, 419, 421, 423, 425] : List Nat).map (fun i => lw_tbl[i]?) := by rfl
set_option maxRecDepth 100000 in
theorem sm_uw_3 : (u_ws (sm_T 3).1 (sm_T 3).2.1 (sm_T 3).2.2).map some = ([615, 617, 619, 621, 623, 625, 627, 629, 631, 633, 635, 637, 639, 641] : List Nat).map (fun i => lw_tbl[i]?) := by rfl
set_option maxRecDepth 100000 in
theorem sm_uw_4 : (u_ws (sm_T 4).1 (sm_T 4).2.1 (sm_T 4).2.2).map some = ([856, 858, 860, 862, 864, 866, 868, 870, 872, 874, 876, 878, 880, 882, 884, 886, 888, 890, 892, 894] : List Nat).map (fun i => lw_tbl[i]?) := by rfl
set_option maxRecDepth 100000 in
theorem sm_uw_5 : (u_ws (sm_T 5).1 (sm_T 5).2.1 (sm_T 5).2.2).map some = ([517, 519, 521, 523, 525, 527, 529, 531, 533] : List Nat).map (fun i => lw_tbl[i]?) := by rfl
set_option maxRecDepth 100000 in
theorem sm_uw_6 : (u_ws (sm_T 6).1 (sm_T 6).2.1 (sm_T 6).2.2).map some = ([829, 831, 833] : List Nat).map (fun i => lw_tbl[i]?) := by rfl
set_option maxRecDepth 100000 in
theorem sm_uw_7 : (u_ws (sm_T 7).1 (sm_T 7).2.1 (sm_T 7).2.2).map some = ([561, 563, 565, 567, 569, 571, 573, 575, 577, 579, 581] : List Nat).map (fun i => lw_tbl[i]?) := by rfl
set_option maxRecDepth 100000 in
theorem sm_uw_8 : (u_ws (sm_T 8).1 (sm_T 8).2.1 (sm_T 8).2.2).map some = ([665, 667, 669, 671, 673, 675, 677, 679, 681, 683, 685, 687, 689, 691, 693] : List Nat).map (fun i => lw_tbl[i]?) := by rfl
set_option maxRecDepth 100000 in
theorem sm_uw_9 : (u_ws (sm_T 9).1 (sm_T 9).2.1 (sm_T 9).2.2).map some = ([774, 776, 778, 780] : List Nat).map (fun i => lw_tbl[i]?) := by rfl
set_option maxRecDepth 100000 in
theorem sm_uw_10 : (u_ws (sm_T 10).1 (sm_T 10).2.1 (sm_T 10).2.2).map some = ([738, 740, 742, 744, 746, 748, 750, 752, 754, 756, 758, 760] : List Nat).map (fun i => lw_tbl[i]?) := by rfl
set_option maxRecDepth 100000 in
theorem sm_uw_11 : (u_ws (sm_T 11).1 (sm_T 11).2.1 (sm_T 11).2.2).map some = ([906, 908, 910, 912, 914, 916, 918, 920, 922] : List Nat).map (fun i => lw_tbl[i]?) := by rfl
set_option maxRecDepth 100000 in
theorem sm_uw_12 : (u_ws (sm_T 12).1 (sm_T 12).2.1 (sm_T 12).2.2).map some = ([2429, 2431, 2433, 2435, 2437, 2439, 2441, 2443, 2445, 2447, 2449, 2451] : List Nat).map (fun i => lw_tbl[i]?) := by rfl
set_option maxRecDepth 100000 in
theorem sm_uw_13 : (u_ws (sm_T 13).1 (sm_T 13).2.1 (sm_T 13).2.2).map some = ([2790, 2792, 2794, 2796, 2798, 2800, 2802, 2804, 2806, 2808, 2810, 2812, 2814] : List Nat).map (fun i => lw_tbl[i]?) := by rfl
set_option maxRecDepth 100000 in
theorem sm_uw_14 : (u_ws (sm_T 14).1 (sm_T 14).2.1 (sm_T 14).2.2).map some = ([2150, 2152, 2154, 2156, 2158, 2160, 2162, 2164, 2166, 2168, 2170, 2172, 2174, 2176, 2178, 2180, 2182, 2184, 2186, 2188, 2190, 2192, 2194, 2196, 2198, 2200, 2202, 2204, 2206, 2208, 2210, 2212, 2214, 2216, 2218, 2220, 2222, 2224, 2226, 2228, 2230, 2232, 2234, 2236, 2238, 2240, 2242, 2244, 2246, 2248, 2250, 2252, 2254, 2256, 2258, 2260, 2262, 2264, 2266, 2268, 2270, 2272, 2274, 2276, 2278, 2280, 2282, 2284, 2286, 2288, 2290, 2292, 2294, 2296, 2298, 2300, 2302] : List Nat).map (fun i => lw_tbl[i]?) := by rfl
theorem sm_uw_all : ∀ ci : Nat, ci < mt_cl.length → ∀ w ∈ u_ws (sm_T ci).1 (sm_T ci).2.1 (sm_T ci).2.2, w ∈ lw_tbl
  | 0, _ => sm_uw_mem sm_uw_0
  | 1, _ => sm_uw_mem sm_uw_1
  | 2, _ => sm_uw_mem sm_uw_2
  | 3, _ => sm_uw_mem sm_uw_3
  | 4, _ => sm_uw_mem sm_uw_4
  | 5, _ => sm_uw_mem sm_uw_5
  | 6, _ => sm_uw_mem sm_uw_6
  | 7, _ => sm_uw_mem sm_uw_7
  | 8, _ => sm_uw_mem sm_uw_8
  | 9, _ => sm_uw_mem sm_uw_9
  | 10, _ => sm_uw_mem sm_uw_10
  | 11, _ => sm_uw_mem sm_uw_11
  | 12, _ => sm_uw_mem sm_uw_12
  | 13, _ => sm_uw_mem sm_uw_13
  | 14, _ => sm_uw_mem sm_uw_14
  | n + 15, h => absurd (show n + 15 < 15 from h) (by omega)
theorem sm_mall {P : mt_M → Prop} (h : ∀ e, (e ∈ mt_m_0 ∨ e ∈ mt_m_1 ∨ e ∈ mt_m_2 ∨ e ∈ mt_m_3 ∨ e ∈ mt_m_4 ∨ e ∈ mt_m_5 ∨ e ∈ mt_m_6 ∨ e ∈ mt_m_7 ∨ e ∈ mt_m_8 ∨ e ∈ mt_m_9 ∨ e ∈ mt_m_10) → P e) : ∀ e ∈ mt_m, P e := by
  intro e he
  refine h e ?_
  unfold mt_m at he
  simpa only [List.mem_append, or_assoc] using he
theorem sm_mok_all : ∀ e ∈ mt_m, (lw_tbl[e.2.2.2.2.2.2.2.1]?, lw_tbl[e.2.2.2.2.2.2.2.2.1]?, lw_tbl[e.2.2.2.2.2.2.2.2.2.2]?) = ((some (.code e.1 e.2.1 e.2.2.1 e.2.2.2.1), some (if e.2.2.2.2.2.2.1 = true then .static e.1 else .instanceMethod e.1), some (.initialized e.1.cls)) : Option Cond × Option Cond × Option Cond) := by
  refine sm_mall (fun e he => ?_)
  rcases he with h | h | h | h | h | h | h | h | h | h | h
  · exact List.map_inj_left.mp sm_mok_0 e h
  · exact List.map_inj_left.mp sm_mok_1 e h
  · exact List.map_inj_left.mp sm_mok_2 e h
  · exact List.map_inj_left.mp sm_mok_3 e h
  · exact List.map_inj_left.mp sm_mok_4 e h
  · exact List.map_inj_left.mp sm_mok_5 e h
  · exact List.map_inj_left.mp sm_mok_6 e h
  · exact List.map_inj_left.mp sm_mok_7 e h
  · exact List.map_inj_left.mp sm_mok_8 e h
  · exact List.map_inj_left.mp sm_mok_9 e h
  · exact List.map_inj_left.mp sm_mok_10 e h
theorem sm_mse_all : ∀ e ∈ mt_m, (if e.2.2.2.2.2.2.1 = true ∨ (e.1.name == "<init>") = true then none else lw_tbl[e.2.2.2.2.2.2.2.2.2.1]?) = (if e.2.2.2.2.2.2.1 = true ∨ (e.1.name == "<init>") = true then none else some (Cond.selects e.1.cls e.1 e.1)) := by
  refine sm_mall (fun e he => ?_)
  rcases he with h | h | h | h | h | h | h | h | h | h | h
  · exact List.map_inj_left.mp sm_mse_0 e h
  · exact List.map_inj_left.mp sm_mse_1 e h
  · exact List.map_inj_left.mp sm_mse_2 e h
  · exact List.map_inj_left.mp sm_mse_3 e h
  · exact List.map_inj_left.mp sm_mse_4 e h
  · exact List.map_inj_left.mp sm_mse_5 e h
  · exact List.map_inj_left.mp sm_mse_6 e h
  · exact List.map_inj_left.mp sm_mse_7 e h
  · exact List.map_inj_left.mp sm_mse_8 e h
  · exact List.map_inj_left.mp sm_mse_9 e h
  · exact List.map_inj_left.mp sm_mse_10 e h
theorem sm_mpl_all : ∀ e ∈ mt_m, (plainFor e.1 && (e.1.cls != "java/lang/invoke/MethodHandle") && (e.1.cls != "java/lang/invoke/VarHandle") && (e.1.cls == sm_on e.2.2.2.2.1) && decide ((parseMethodDescriptor e.1.desc).map (fun d => d.parameters.length) = some e.2.2.2.2.2.1)) = true := by
  refine sm_mall (fun e he => ?_)
  rcases he with h | h | h | h | h | h | h | h | h | h | h
  · exact List.all_eq_true.mp sm_mpl_0 e h
  · exact List.all_eq_true.mp sm_mpl_1 e h
  · exact List.all_eq_true.mp sm_mpl_2 e h
  · exact List.all_eq_true.mp sm_mpl_3 e h
  · exact List.all_eq_true.mp sm_mpl_4 e h
  · exact List.all_eq_true.mp sm_mpl_5 e h
  · exact List.all_eq_true.mp sm_mpl_6 e h
  · exact List.all_eq_true.mp sm_mpl_7 e h
  · exact List.all_eq_true.mp sm_mpl_8 e h
  · exact List.all_eq_true.mp sm_mpl_9 e h
  · exact List.all_eq_true.mp sm_mpl_10 e h
theorem sm_tyok : ∀ ci : Nat, ci < mt_cl.length → ∀ k, k < (sm_T ci).2.2 → parseFieldDescriptor ((sm_T ci).2.1 k).2.2.1 = some (sm_ty ci k)
  | 0, _ => tyX0_ok
  | 1, _ => tyX1_ok
  | 2, _ => tyX2_ok
  | 3, _ => tyX3_ok
  | 4, _ => tyX4_ok
  | 5, _ => tyX5_ok
  | 6, _ => tyX6_ok
  | 7, _ => tyX7_ok
  | 8, _ => tyX8_ok
  | 9, _ => tyX9_ok
  | 10, _ => tyX10_ok
  | 11, _ => tyX11_ok
  | 12, _ => tyX12_ok
  | 13, _ => tyX13_ok
  | 14, _ => tyX14_ok
  | n + 15, h => absurd (show n + 15 < 15 from h) (by omega)
theorem sm_nmok : ∀ ci : Nat, ci < mt_cl.length → ∀ a, a < (sm_T ci).2.2 → ∀ b, b < (sm_T ci).2.2 → a ≠ b → ((sm_T ci).2.1 a).2.1 ≠ ((sm_T ci).2.1 b).2.1
  | 0, _ => nmX0
  | 1, _ => nmX1
  | 2, _ => nmX2
  | 3, _ => nmX3
  | 4, _ => nmX4
  | 5, _ => nmX5
  | 6, _ => nmX6
  | 7, _ => nmX7
  | 8, _ => nmX8
  | 9, _ => nmX9
  | 10, _ => nmX10
  | 11, _ => nmX11
  | 12, _ => nmX12
  | 13, _ => nmX13
  | 14, _ => nmX14
  | n + 15, h => absurd (show n + 15 < 15 from h) (by omega)
theorem sm_nchk : (mt_n.all fun r => r.all fun e => decide (e.2.1 < mt_cl.length)) = true := by decide +kernel
theorem sm_achk : (mt_a.all fun r => r.all fun e => decide (e.2.1 < mt_el.length) && (sm_el e.2.1).isReference) = true := by decide +kernel
theorem sm_kchk : (mt_k.all fun r => r.all fun e => decide (e.2.1 = 6 ∨ e.2.1 = 7 ∨ e.2.2.1 < mt_m.length)) = true := by decide +kernel
set_option maxRecDepth 100000 in
theorem sm_objw : ([.instanceMethod Lib.objectInit, .code Lib.objectInit ⟨#[0xb1]⟩ 1 none, .native arraycopyName, .static arraycopyName, .initialized "java/lang/System"] : List Cond).map some = ([363, 364, 1610, 1609, 352] : List Nat).map (fun i => lw_tbl[i]?) := by rfl
theorem sm_kchk2 : (mt_k.all fun r => r.all fun e => decide (e.2.1 = 6 ∨ e.2.1 = 7 ∨ (e.2.2.1 < mt_m.length ∧ (e.2.2.2.1 = 0 ↔ e.2.1 % 2 = 0) ∧ e.2.1 < 6 ∧ ((e.2.1 = 2 ∨ e.2.1 = 3) → sm_is e.2.2.1 = true) ∧ ((e.2.1 = 0 ∨ e.2.1 = 1) → sm_is e.2.2.1 = false ∧ ((sm_y e.2.2.1).name == "<init>") = false) ∧ ((e.2.1 = 4 ∨ e.2.1 = 5) → sm_is e.2.2.1 = false ∧ ((sm_y e.2.2.1).name == "<init>") = true ∧ sm_rt e.2.2.1 = none)))) = true := by decide +kernel
theorem sm_sbN : ∀ i : Nat, i < mt_sb.length → (mt_sb.getD i []).length < 2 ^ 31 := by decide +kernel
theorem sm_gschk : (mt_gs.all fun r => r.all fun e => decide ((e.2.2.1 = 0 ∧ e.2.1 = .int 1) ∨ (e.2.2.1 = 1 ∧ e.2.1 = .retAddr 100001))) = true := by decide +kernel
theorem sm_mlc : (mt_m.all fun e => decide (e.2.2.1 ≤ 60)) = true := by decide +kernel
theorem sm_ocl : ∀ c, c < mt_cl.length → sm_on c = (sm_T c).1 := by decide +kernel
theorem sm_oso : sm_on mt_so = "java/lang/String" := by decide +kernel
set_option maxRecDepth 100000 in
theorem sm_arrc : ([.arrayClass .int, .arrayClass .long, .arrayClass .byte, .arrayClass .boolean] : List Cond).map some = ([429, 536, 428, 430] : List Nat).map (fun i => lw_tbl[i]?) := by rfl
