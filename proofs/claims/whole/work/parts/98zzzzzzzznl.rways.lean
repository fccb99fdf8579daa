/-! WAYS of the reference's machine: every call is a hypothesis -/

theorem rPq_1 {d : Nat} {S : cS} {g : Nat} {zg : Nat} {i0 : Nat} {fd0 : Nat} {e91 : Nat} {S1 : cS} {o : Nat} (mi0 : i0 < 2 ^ 20) (ag : 108 ≤ g) (hz1 : (sS S)[g - 108]? = some (13, zg)) (hfd0 : sI S (100 * g + 0) = nI fd0) (mfd0 : fd0 < 2 ^ 20) (b1 : fd0 ≠ 2) (b2 : i0 < 20480) (he91 : sA S 91 i0 = nI e91) (me91 : e91 < 2 ^ 20) (b3 : e91 = 1) (w11 : sm_c1 .ge (lg_cmp (sL S 92 i0) 0) true false = true) (c1 : Ans (d + 8) 284 [.long (sL S 92 i0), .long 0, .long (((sI S (100 * g + 1)) - (nI 1)).toInt64)] S (some (.int (nI 1))) S1) (ho : (sL S 92 i0).toInt32 = nI o) (mo : o < 1500) : Bod (d + 8) 410 0 [(0, .ref 61), (1, .ref g), (2, .int (nI i0))] [] S (some (.int (nI o))) (S1) := by
  refine Bod.go dc_410_0 rfl ?_
  refine Bod.get dc_410_1 fr_410_531 (mk_thing ag (by first | exact hz1 | (simp only [rIS, rJS, rAS, rLS, rVS, rQS, rS_hold]; exact hz1))) rfl ?_
  refine Bod.eqI (nI fd0) (by first | assumption | rfl | exact congrArg nI (by omega) | (simp (disch := omega) only [rI, rIe, rA, rIA, rLA, rJA, rVI, rQI, rVA, rQA, upd_at,  rAI, rLI, rJI, nI_add, pk_sub, kc_0, kc_1, kc_2, kc_3, kc_4, kc_5, reduceIte, Nat.reduceEqDiff, Nat.add_zero, rI_hold, rI_hold, rL_hold, hfd0]; done)) ?_
  refine Bod.ic 2 (by decide) dc_410_4 ?_
  refine Bod.icT dc_410_5 rfl (k2_ne_T (k_ne fd0 2 rfl rfl (by omega) (by omega) (by omega))) ?_
  refine Bod.go dc_410_73 rfl ?_
  refine Bod.get dc_410_74 fr_410_496 (mk_61 _) rfl ?_
  refine Bod.go dc_410_77 rfl ?_
  refine Bod.ialdN i0 rfl (by omega) (by omega) dc_410_78 (mk_91 _) ?_
  refine Bod.eqI (nI e91) (by first | assumption | rfl | exact congrArg nI (by omega) | (simp (disch := omega) only [rI, rIe, rA, rIA, rLA, rJA, rVI, rQI, rVA, rQA, upd_at,  rAI, rLI, rJI, nI_add, pk_sub, kc_0, kc_1, kc_2, kc_3, kc_4, kc_5, reduceIte, Nat.reduceEqDiff, Nat.add_zero, rI_hold, rI_hold, rL_hold, hfd0, he91]; done)) ?_
  refine Bod.ic 1 (by decide) dc_410_79 ?_
  refine Bod.icT dc_410_80 rfl (k2_eq_T (k_eq e91 1 rfl rfl (by omega))) ?_
  refine Bod.go dc_410_89 rfl ?_
  refine Bod.get dc_410_90 fr_410_499 (mk_61 _) rfl ?_
  refine Bod.go dc_410_93 rfl ?_
  refine Bod.laldN i0 rfl (by omega) (by omega) dc_410_94 (mk_92 _) ?_
  refine Bod.go dc_410_95 rfl ?_
  refine Bod.go dc_410_96 rfl ?_
  refine Bod.ifT dc_410_97 rfl w11 ?_
  refine Bod.go dc_410_115 rfl ?_
  refine Bod.get dc_410_116 fr_410_499 (mk_61 _) rfl ?_
  refine Bod.go dc_410_119 rfl ?_
  refine Bod.laldN i0 rfl (by omega) (by omega) dc_410_120 (mk_92 _) ?_
  refine Bod.lstn dc_410_121 (by rw [ml_410]; exact Nat.le_of_ble_eq_true rfl) ?_
  refine Bod.go dc_410_122 rfl ?_
  refine Bod.go dc_410_123 rfl ?_
  refine Bod.go dc_410_124 rfl ?_
  refine Bod.get dc_410_125 fr_410_459 (mk_thing ag (by first | exact hz1 | (simp only [rIS, rJS, rAS, rLS, rVS, rQS, rS_hold]; exact hz1))) rfl ?_
  refine Bod.ic 1 (by decide) dc_410_128 ?_
  refine Bod.go dc_410_129 rfl ?_
  refine Bod.go dc_410_130 rfl ?_
  refine Bod.stat (r := []) dc_410_131 kr_410_680 (Or.inl rfl) (by rw [np_284]; rfl) (by rw [np_284]; rfl) (by rw [np_284]; exact Nat.le_of_ble_eq_true rfl) (Nat.le_of_ble_eq_true rfl) (c1  ) ?_
  show Bod _ _ _ _ [_] _ _ _
  refine Bod.ifF dc_410_134 rfl (k1_eq_F (k_ne 1 0 rfl rfl (by omega) (by omega) (by omega))) ?_
  refine Bod.go dc_410_137 rfl ?_
  refine Bod.go dc_410_138 rfl ?_
  refine Bod.eqI (nI o) (by first | exact ho | (simp only [rI, rIe, rA, rIA, rLA, rJA, rVI, rQI, rVA, rQA, upd_at,  rAI, rLI, rJI, nI_add, pk_sub, kc_0, kc_1, kc_2, kc_3, kc_4, kc_5, reduceIte, Nat.reduceEqDiff, Nat.add_zero, rI_hold, rI_hold, rL_hold]; exact ho)) ?_
  refine Bod.go dc_410_139 rfl ?_
  exact Bod.retI dc_410_147 rt_410
theorem rPq_2 {d : Nat} {S : cS} {g : Nat} {zg : Nat} {i0 : Nat} {fd0 : Nat} {e91 : Nat} {S1 : cS} {S2 : cS} {a : Nat} (mi0 : i0 < 2 ^ 20) (ag : 108 ≤ g) (hz1 : (sS S)[g - 108]? = some (13, zg)) (hfd0 : sI S (100 * g + 0) = nI fd0) (mfd0 : fd0 < 2 ^ 20) (b1 : fd0 ≠ 2) (b2 : i0 < 20480) (he91 : sA S 91 i0 = nI e91) (me91 : e91 < 2 ^ 20) (b3 : e91 = 1) (w11 : sm_c1 .ge (lg_cmp (sL S 92 i0) 0) true false = true) (c1 : Ans (d + 8) 284 [.long (sL S 92 i0), .long 0, .long (((sI S (100 * g + 1)) - (nI 1)).toInt64)] S (some (.int (nI 0))) S1) (ma : a < 2 ^ 20) (c2 : Ans (d + 8) 411 [.ref 61, .int (nI 3)] S1 (some (.int (nI a))) S2) : Bod (d + 8) 410 0 [(0, .ref 61), (1, .ref g), (2, .int (nI i0))] [] S (some (.int (nI a))) (S2) := by
  refine Bod.go dc_410_0 rfl ?_
  refine Bod.get dc_410_1 fr_410_531 (mk_thing ag (by first | exact hz1 | (simp only [rIS, rJS, rAS, rLS, rVS, rQS, rS_hold]; exact hz1))) rfl ?_
  refine Bod.eqI (nI fd0) (by first | assumption | rfl | exact congrArg nI (by omega) | (simp (disch := omega) only [rI, rIe, rA, rIA, rLA, rJA, rVI, rQI, rVA, rQA, upd_at,  rAI, rLI, rJI, nI_add, pk_sub, kc_0, kc_1, kc_2, kc_3, kc_4, kc_5, reduceIte, Nat.reduceEqDiff, Nat.add_zero, rI_hold, rI_hold, rL_hold, hfd0]; done)) ?_
  refine Bod.ic 2 (by decide) dc_410_4 ?_
  refine Bod.icT dc_410_5 rfl (k2_ne_T (k_ne fd0 2 rfl rfl (by omega) (by omega) (by omega))) ?_
  refine Bod.go dc_410_73 rfl ?_
  refine Bod.get dc_410_74 fr_410_496 (mk_61 _) rfl ?_
  refine Bod.go dc_410_77 rfl ?_
  refine Bod.ialdN i0 rfl (by omega) (by omega) dc_410_78 (mk_91 _) ?_
  refine Bod.eqI (nI e91) (by first | assumption | rfl | exact congrArg nI (by omega) | (simp (disch := omega) only [rI, rIe, rA, rIA, rLA, rJA, rVI, rQI, rVA, rQA, upd_at,  rAI, rLI, rJI, nI_add, pk_sub, kc_0, kc_1, kc_2, kc_3, kc_4, kc_5, reduceIte, Nat.reduceEqDiff, Nat.add_zero, rI_hold, rI_hold, rL_hold, hfd0, he91]; done)) ?_
  refine Bod.ic 1 (by decide) dc_410_79 ?_
  refine Bod.icT dc_410_80 rfl (k2_eq_T (k_eq e91 1 rfl rfl (by omega))) ?_
  refine Bod.go dc_410_89 rfl ?_
  refine Bod.get dc_410_90 fr_410_499 (mk_61 _) rfl ?_
  refine Bod.go dc_410_93 rfl ?_
  refine Bod.laldN i0 rfl (by omega) (by omega) dc_410_94 (mk_92 _) ?_
  refine Bod.go dc_410_95 rfl ?_
  refine Bod.go dc_410_96 rfl ?_
  refine Bod.ifT dc_410_97 rfl w11 ?_
  refine Bod.go dc_410_115 rfl ?_
  refine Bod.get dc_410_116 fr_410_499 (mk_61 _) rfl ?_
  refine Bod.go dc_410_119 rfl ?_
  refine Bod.laldN i0 rfl (by omega) (by omega) dc_410_120 (mk_92 _) ?_
  refine Bod.lstn dc_410_121 (by rw [ml_410]; exact Nat.le_of_ble_eq_true rfl) ?_
  refine Bod.go dc_410_122 rfl ?_
  refine Bod.go dc_410_123 rfl ?_
  refine Bod.go dc_410_124 rfl ?_
  refine Bod.get dc_410_125 fr_410_459 (mk_thing ag (by first | exact hz1 | (simp only [rIS, rJS, rAS, rLS, rVS, rQS, rS_hold]; exact hz1))) rfl ?_
  refine Bod.ic 1 (by decide) dc_410_128 ?_
  refine Bod.go dc_410_129 rfl ?_
  refine Bod.go dc_410_130 rfl ?_
  refine Bod.stat (r := []) dc_410_131 kr_410_680 (Or.inl rfl) (by rw [np_284]; rfl) (by rw [np_284]; rfl) (by rw [np_284]; exact Nat.le_of_ble_eq_true rfl) (Nat.le_of_ble_eq_true rfl) (c1  ) ?_
  show Bod _ _ _ _ [_] _ _ _
  refine Bod.ifT dc_410_134 rfl (k1_eq_T (k_eq 0 0 rfl rfl (by omega))) ?_
  refine Bod.go dc_410_142 rfl ?_
  refine Bod.ic 3 (by decide) dc_410_143 ?_
  refine Bod.virt (r := []) dc_410_144 kr_410_762 ⟨Or.inl rfl, ow_411, cl_14⟩ (by rw [np_411]; rfl) (by rw [np_411]; rfl) (ob_of (mk_61 _)) (Nat.le_of_ble_eq_true rfl) (c2  ) ?_
  show Bod _ _ _ _ [_] _ _ _
  exact Bod.retI dc_410_147 rt_410
theorem rPq_3 {d : Nat} {S : cS} {g : Nat} {zg : Nat} {i0 : Nat} {fd0 : Nat} {e91 : Nat} {S1 : cS} {S2 : cS} (mi0 : i0 < 2 ^ 20) (ag : 108 ≤ g) (hz1 : (sS S)[g - 108]? = some (13, zg)) (hfd0 : sI S (100 * g + 0) = nI fd0) (mfd0 : fd0 < 2 ^ 20) (b1 : fd0 ≠ 2) (b2 : i0 < 20480) (he91 : sA S 91 i0 = nI e91) (me91 : e91 < 2 ^ 20) (b3 : e91 = 1) (w11 : sm_c1 .ge (lg_cmp (sL S 92 i0) 0) true false = true) (c1 : Ans (d + 8) 284 [.long (sL S 92 i0), .long 0, .long (((sI S (100 * g + 1)) - (nI 1)).toInt64)] S (some (.int (nI 0))) S1) (c2 : Ans (d + 8) 411 [.ref 61, .int (nI 3)] S1 (some (.int (Int32.ofInt (-1)))) S2) : Bod (d + 8) 410 0 [(0, .ref 61), (1, .ref g), (2, .int (nI i0))] [] S (some (.int (Int32.ofInt (-1)))) (S2) := by
  refine Bod.go dc_410_0 rfl ?_
  refine Bod.get dc_410_1 fr_410_531 (mk_thing ag (by first | exact hz1 | (simp only [rIS, rJS, rAS, rLS, rVS, rQS, rS_hold]; exact hz1))) rfl ?_
  refine Bod.eqI (nI fd0) (by first | assumption | rfl | exact congrArg nI (by omega) | (simp (disch := omega) only [rI, rIe, rA, rIA, rLA, rJA, rVI, rQI, rVA, rQA, upd_at,  rAI, rLI, rJI, nI_add, pk_sub, kc_0, kc_1, kc_2, kc_3, kc_4, kc_5, reduceIte, Nat.reduceEqDiff, Nat.add_zero, rI_hold, rI_hold, rL_hold, hfd0]; done)) ?_
  refine Bod.ic 2 (by decide) dc_410_4 ?_
  refine Bod.icT dc_410_5 rfl (k2_ne_T (k_ne fd0 2 rfl rfl (by omega) (by omega) (by omega))) ?_
  refine Bod.go dc_410_73 rfl ?_
  refine Bod.get dc_410_74 fr_410_496 (mk_61 _) rfl ?_
  refine Bod.go dc_410_77 rfl ?_
  refine Bod.ialdN i0 rfl (by omega) (by omega) dc_410_78 (mk_91 _) ?_
  refine Bod.eqI (nI e91) (by first | assumption | rfl | exact congrArg nI (by omega) | (simp (disch := omega) only [rI, rIe, rA, rIA, rLA, rJA, rVI, rQI, rVA, rQA, upd_at,  rAI, rLI, rJI, nI_add, pk_sub, kc_0, kc_1, kc_2, kc_3, kc_4, kc_5, reduceIte, Nat.reduceEqDiff, Nat.add_zero, rI_hold, rI_hold, rL_hold, hfd0, he91]; done)) ?_
  refine Bod.ic 1 (by decide) dc_410_79 ?_
  refine Bod.icT dc_410_80 rfl (k2_eq_T (k_eq e91 1 rfl rfl (by omega))) ?_
  refine Bod.go dc_410_89 rfl ?_
  refine Bod.get dc_410_90 fr_410_499 (mk_61 _) rfl ?_
  refine Bod.go dc_410_93 rfl ?_
  refine Bod.laldN i0 rfl (by omega) (by omega) dc_410_94 (mk_92 _) ?_
  refine Bod.go dc_410_95 rfl ?_
  refine Bod.go dc_410_96 rfl ?_
  refine Bod.ifT dc_410_97 rfl w11 ?_
  refine Bod.go dc_410_115 rfl ?_
  refine Bod.get dc_410_116 fr_410_499 (mk_61 _) rfl ?_
  refine Bod.go dc_410_119 rfl ?_
  refine Bod.laldN i0 rfl (by omega) (by omega) dc_410_120 (mk_92 _) ?_
  refine Bod.lstn dc_410_121 (by rw [ml_410]; exact Nat.le_of_ble_eq_true rfl) ?_
  refine Bod.go dc_410_122 rfl ?_
  refine Bod.go dc_410_123 rfl ?_
  refine Bod.go dc_410_124 rfl ?_
  refine Bod.get dc_410_125 fr_410_459 (mk_thing ag (by first | exact hz1 | (simp only [rIS, rJS, rAS, rLS, rVS, rQS, rS_hold]; exact hz1))) rfl ?_
  refine Bod.ic 1 (by decide) dc_410_128 ?_
  refine Bod.go dc_410_129 rfl ?_
  refine Bod.go dc_410_130 rfl ?_
  refine Bod.stat (r := []) dc_410_131 kr_410_680 (Or.inl rfl) (by rw [np_284]; rfl) (by rw [np_284]; rfl) (by rw [np_284]; exact Nat.le_of_ble_eq_true rfl) (Nat.le_of_ble_eq_true rfl) (c1  ) ?_
  show Bod _ _ _ _ [_] _ _ _
  refine Bod.ifT dc_410_134 rfl (k1_eq_T (k_eq 0 0 rfl rfl (by omega))) ?_
  refine Bod.go dc_410_142 rfl ?_
  refine Bod.ic 3 (by decide) dc_410_143 ?_
  refine Bod.virt (r := []) dc_410_144 kr_410_762 ⟨Or.inl rfl, ow_411, cl_14⟩ (by rw [np_411]; rfl) (by rw [np_411]; rfl) (ob_of (mk_61 _)) (Nat.le_of_ble_eq_true rfl) (c2  ) ?_
  show Bod _ _ _ _ [_] _ _ _
  exact Bod.retI dc_410_147 rt_410
theorem rPq_4 {d : Nat} {S : cS} {g : Nat} {zg : Nat} {i0 : Nat} {fd0 : Nat} {e91 : Nat} {S1 : cS} {o : Nat} (mi0 : i0 < 2 ^ 20) (ag : 108 ≤ g) (hz1 : (sS S)[g - 108]? = some (13, zg)) (hfd0 : sI S (100 * g + 0) = nI fd0) (mfd0 : fd0 < 2 ^ 20) (b1 : fd0 ≠ 2) (b2 : i0 < 20480) (he91 : sA S 91 i0 = nI e91) (me91 : e91 < 2 ^ 20) (b3 : e91 = 1) (w11 : sm_c1 .ge (lg_cmp (sL S 92 i0) 0) true false = false) (c1 : Ans (d + 8) 284 [.long ((sL S 92 i0) + ((sI S (100 * g + 1)).toInt64)), .long 0, .long (((sI S (100 * g + 1)) - (nI 1)).toInt64)] S (some (.int (nI 1))) S1) (ho : ((sL S 92 i0) + ((sI S (100 * g + 1)).toInt64)).toInt32 = nI o) (mo : o < 1500) : Bod (d + 8) 410 0 [(0, .ref 61), (1, .ref g), (2, .int (nI i0))] [] S (some (.int (nI o))) (S1) := by
  refine Bod.go dc_410_0 rfl ?_
  refine Bod.get dc_410_1 fr_410_531 (mk_thing ag (by first | exact hz1 | (simp only [rIS, rJS, rAS, rLS, rVS, rQS, rS_hold]; exact hz1))) rfl ?_
  refine Bod.eqI (nI fd0) (by first | assumption | rfl | exact congrArg nI (by omega) | (simp (disch := omega) only [rI, rIe, rA, rIA, rLA, rJA, rVI, rQI, rVA, rQA, upd_at,  rAI, rLI, rJI, nI_add, pk_sub, kc_0, kc_1, kc_2, kc_3, kc_4, kc_5, reduceIte, Nat.reduceEqDiff, Nat.add_zero, rI_hold, rI_hold, rL_hold, hfd0]; done)) ?_
  refine Bod.ic 2 (by decide) dc_410_4 ?_
  refine Bod.icT dc_410_5 rfl (k2_ne_T (k_ne fd0 2 rfl rfl (by omega) (by omega) (by omega))) ?_
  refine Bod.go dc_410_73 rfl ?_
  refine Bod.get dc_410_74 fr_410_496 (mk_61 _) rfl ?_
  refine Bod.go dc_410_77 rfl ?_
  refine Bod.ialdN i0 rfl (by omega) (by omega) dc_410_78 (mk_91 _) ?_
  refine Bod.eqI (nI e91) (by first | assumption | rfl | exact congrArg nI (by omega) | (simp (disch := omega) only [rI, rIe, rA, rIA, rLA, rJA, rVI, rQI, rVA, rQA, upd_at,  rAI, rLI, rJI, nI_add, pk_sub, kc_0, kc_1, kc_2, kc_3, kc_4, kc_5, reduceIte, Nat.reduceEqDiff, Nat.add_zero, rI_hold, rI_hold, rL_hold, hfd0, he91]; done)) ?_
  refine Bod.ic 1 (by decide) dc_410_79 ?_
  refine Bod.icT dc_410_80 rfl (k2_eq_T (k_eq e91 1 rfl rfl (by omega))) ?_
  refine Bod.go dc_410_89 rfl ?_
  refine Bod.get dc_410_90 fr_410_499 (mk_61 _) rfl ?_
  refine Bod.go dc_410_93 rfl ?_
  refine Bod.laldN i0 rfl (by omega) (by omega) dc_410_94 (mk_92 _) ?_
  refine Bod.go dc_410_95 rfl ?_
  refine Bod.go dc_410_96 rfl ?_
  refine Bod.ifF dc_410_97 rfl w11 ?_
  refine Bod.go dc_410_100 rfl ?_
  refine Bod.get dc_410_101 fr_410_499 (mk_61 _) rfl ?_
  refine Bod.go dc_410_104 rfl ?_
  refine Bod.laldN i0 rfl (by omega) (by omega) dc_410_105 (mk_92 _) ?_
  refine Bod.go dc_410_106 rfl ?_
  refine Bod.get dc_410_107 fr_410_459 (mk_thing ag (by first | exact hz1 | (simp only [rIS, rJS, rAS, rLS, rVS, rQS, rS_hold]; exact hz1))) rfl ?_
  refine Bod.go dc_410_110 rfl ?_
  refine Bod.go dc_410_111 rfl ?_
  refine Bod.go dc_410_112 rfl ?_
  refine Bod.lstn dc_410_121 (by rw [ml_410]; exact Nat.le_of_ble_eq_true rfl) ?_
  refine Bod.go dc_410_122 rfl ?_
  refine Bod.go dc_410_123 rfl ?_
  refine Bod.go dc_410_124 rfl ?_
  refine Bod.get dc_410_125 fr_410_459 (mk_thing ag (by first | exact hz1 | (simp only [rIS, rJS, rAS, rLS, rVS, rQS, rS_hold]; exact hz1))) rfl ?_
  refine Bod.ic 1 (by decide) dc_410_128 ?_
  refine Bod.go dc_410_129 rfl ?_
  refine Bod.go dc_410_130 rfl ?_
  refine Bod.stat (r := []) dc_410_131 kr_410_680 (Or.inl rfl) (by rw [np_284]; rfl) (by rw [np_284]; rfl) (by rw [np_284]; exact Nat.le_of_ble_eq_true rfl) (Nat.le_of_ble_eq_true rfl) (c1  ) ?_
  show Bod _ _ _ _ [_] _ _ _
  refine Bod.ifF dc_410_134 rfl (k1_eq_F (k_ne 1 0 rfl rfl (by omega) (by omega) (by omega))) ?_
  refine Bod.go dc_410_137 rfl ?_
  refine Bod.go dc_410_138 rfl ?_
  refine Bod.eqI (nI o) (by first | exact ho | (simp only [rI, rIe, rA, rIA, rLA, rJA, rVI, rQI, rVA, rQA, upd_at,  rAI, rLI, rJI, nI_add, pk_sub, kc_0, kc_1, kc_2, kc_3, kc_4, kc_5, reduceIte, Nat.reduceEqDiff, Nat.add_zero, rI_hold, rI_hold, rL_hold]; exact ho)) ?_
  refine Bod.go dc_410_139 rfl ?_
  exact Bod.retI dc_410_147 rt_410
theorem rPq_5 {d : Nat} {S : cS} {g : Nat} {zg : Nat} {i0 : Nat} {fd0 : Nat} {e91 : Nat} {S1 : cS} {S2 : cS} {a : Nat} (mi0 : i0 < 2 ^ 20) (ag : 108 ≤ g) (hz1 : (sS S)[g - 108]? = some (13, zg)) (hfd0 : sI S (100 * g + 0) = nI fd0) (mfd0 : fd0 < 2 ^ 20) (b1 : fd0 ≠ 2) (b2 : i0 < 20480) (he91 : sA S 91 i0 = nI e91) (me91 : e91 < 2 ^ 20) (b3 : e91 = 1) (w11 : sm_c1 .ge (lg_cmp (sL S 92 i0) 0) true false = false) (c1 : Ans (d + 8) 284 [.long ((sL S 92 i0) + ((sI S (100 * g + 1)).toInt64)), .long 0, .long (((sI S (100 * g + 1)) - (nI 1)).toInt64)] S (some (.int (nI 0))) S1) (ma : a < 2 ^ 20) (c2 : Ans (d + 8) 411 [.ref 61, .int (nI 3)] S1 (some (.int (nI a))) S2) : Bod (d + 8) 410 0 [(0, .ref 61), (1, .ref g), (2, .int (nI i0))] [] S (some (.int (nI a))) (S2) := by
  refine Bod.go dc_410_0 rfl ?_
  refine Bod.get dc_410_1 fr_410_531 (mk_thing ag (by first | exact hz1 | (simp only [rIS, rJS, rAS, rLS, rVS, rQS, rS_hold]; exact hz1))) rfl ?_
  refine Bod.eqI (nI fd0) (by first | assumption | rfl | exact congrArg nI (by omega) | (simp (disch := omega) only [rI, rIe, rA, rIA, rLA, rJA, rVI, rQI, rVA, rQA, upd_at,  rAI, rLI, rJI, nI_add, pk_sub, kc_0, kc_1, kc_2, kc_3, kc_4, kc_5, reduceIte, Nat.reduceEqDiff, Nat.add_zero, rI_hold, rI_hold, rL_hold, hfd0]; done)) ?_
  refine Bod.ic 2 (by decide) dc_410_4 ?_
  refine Bod.icT dc_410_5 rfl (k2_ne_T (k_ne fd0 2 rfl rfl (by omega) (by omega) (by omega))) ?_
  refine Bod.go dc_410_73 rfl ?_
  refine Bod.get dc_410_74 fr_410_496 (mk_61 _) rfl ?_
  refine Bod.go dc_410_77 rfl ?_
  refine Bod.ialdN i0 rfl (by omega) (by omega) dc_410_78 (mk_91 _) ?_
  refine Bod.eqI (nI e91) (by first | assumption | rfl | exact congrArg nI (by omega) | (simp (disch := omega) only [rI, rIe, rA, rIA, rLA, rJA, rVI, rQI, rVA, rQA, upd_at,  rAI, rLI, rJI, nI_add, pk_sub, kc_0, kc_1, kc_2, kc_3, kc_4, kc_5, reduceIte, Nat.reduceEqDiff, Nat.add_zero, rI_hold, rI_hold, rL_hold, hfd0, he91]; done)) ?_
  refine Bod.ic 1 (by decide) dc_410_79 ?_
  refine Bod.icT dc_410_80 rfl (k2_eq_T (k_eq e91 1 rfl rfl (by omega))) ?_
  refine Bod.go dc_410_89 rfl ?_
  refine Bod.get dc_410_90 fr_410_499 (mk_61 _) rfl ?_
  refine Bod.go dc_410_93 rfl ?_
  refine Bod.laldN i0 rfl (by omega) (by omega) dc_410_94 (mk_92 _) ?_
  refine Bod.go dc_410_95 rfl ?_
  refine Bod.go dc_410_96 rfl ?_
  refine Bod.ifF dc_410_97 rfl w11 ?_
  refine Bod.go dc_410_100 rfl ?_
  refine Bod.get dc_410_101 fr_410_499 (mk_61 _) rfl ?_
  refine Bod.go dc_410_104 rfl ?_
  refine Bod.laldN i0 rfl (by omega) (by omega) dc_410_105 (mk_92 _) ?_
  refine Bod.go dc_410_106 rfl ?_
  refine Bod.get dc_410_107 fr_410_459 (mk_thing ag (by first | exact hz1 | (simp only [rIS, rJS, rAS, rLS, rVS, rQS, rS_hold]; exact hz1))) rfl ?_
  refine Bod.go dc_410_110 rfl ?_
  refine Bod.go dc_410_111 rfl ?_
  refine Bod.go dc_410_112 rfl ?_
  refine Bod.lstn dc_410_121 (by rw [ml_410]; exact Nat.le_of_ble_eq_true rfl) ?_
  refine Bod.go dc_410_122 rfl ?_
  refine Bod.go dc_410_123 rfl ?_
  refine Bod.go dc_410_124 rfl ?_
  refine Bod.get dc_410_125 fr_410_459 (mk_thing ag (by first | exact hz1 | (simp only [rIS, rJS, rAS, rLS, rVS, rQS, rS_hold]; exact hz1))) rfl ?_
  refine Bod.ic 1 (by decide) dc_410_128 ?_
  refine Bod.go dc_410_129 rfl ?_
  refine Bod.go dc_410_130 rfl ?_
  refine Bod.stat (r := []) dc_410_131 kr_410_680 (Or.inl rfl) (by rw [np_284]; rfl) (by rw [np_284]; rfl) (by rw [np_284]; exact Nat.le_of_ble_eq_true rfl) (Nat.le_of_ble_eq_true rfl) (c1  ) ?_
  show Bod _ _ _ _ [_] _ _ _
  refine Bod.ifT dc_410_134 rfl (k1_eq_T (k_eq 0 0 rfl rfl (by omega))) ?_
  refine Bod.go dc_410_142 rfl ?_
  refine Bod.ic 3 (by decide) dc_410_143 ?_
  refine Bod.virt (r := []) dc_410_144 kr_410_762 ⟨Or.inl rfl, ow_411, cl_14⟩ (by rw [np_411]; rfl) (by rw [np_411]; rfl) (ob_of (mk_61 _)) (Nat.le_of_ble_eq_true rfl) (c2  ) ?_
  show Bod _ _ _ _ [_] _ _ _
  exact Bod.retI dc_410_147 rt_410
theorem rPq_6 {d : Nat} {S : cS} {g : Nat} {zg : Nat} {i0 : Nat} {fd0 : Nat} {e91 : Nat} {S1 : cS} {S2 : cS} (mi0 : i0 < 2 ^ 20) (ag : 108 ≤ g) (hz1 : (sS S)[g - 108]? = some (13, zg)) (hfd0 : sI S (100 * g + 0) = nI fd0) (mfd0 : fd0 < 2 ^ 20) (b1 : fd0 ≠ 2) (b2 : i0 < 20480) (he91 : sA S 91 i0 = nI e91) (me91 : e91 < 2 ^ 20) (b3 : e91 = 1) (w11 : sm_c1 .ge (lg_cmp (sL S 92 i0) 0) true false = false) (c1 : Ans (d + 8) 284 [.long ((sL S 92 i0) + ((sI S (100 * g + 1)).toInt64)), .long 0, .long (((sI S (100 * g + 1)) - (nI 1)).toInt64)] S (some (.int (nI 0))) S1) (c2 : Ans (d + 8) 411 [.ref 61, .int (nI 3)] S1 (some (.int (Int32.ofInt (-1)))) S2) : Bod (d + 8) 410 0 [(0, .ref 61), (1, .ref g), (2, .int (nI i0))] [] S (some (.int (Int32.ofInt (-1)))) (S2) := by
  refine Bod.go dc_410_0 rfl ?_
  refine Bod.get dc_410_1 fr_410_531 (mk_thing ag (by first | exact hz1 | (simp only [rIS, rJS, rAS, rLS, rVS, rQS, rS_hold]; exact hz1))) rfl ?_
  refine Bod.eqI (nI fd0) (by first | assumption | rfl | exact congrArg nI (by omega) | (simp (disch := omega) only [rI, rIe, rA, rIA, rLA, rJA, rVI, rQI, rVA, rQA, upd_at,  rAI, rLI, rJI, nI_add, pk_sub, kc_0, kc_1, kc_2, kc_3, kc_4, kc_5, reduceIte, Nat.reduceEqDiff, Nat.add_zero, rI_hold, rI_hold, rL_hold, hfd0]; done)) ?_
  refine Bod.ic 2 (by decide) dc_410_4 ?_
  refine Bod.icT dc_410_5 rfl (k2_ne_T (k_ne fd0 2 rfl rfl (by omega) (by omega) (by omega))) ?_
  refine Bod.go dc_410_73 rfl ?_
  refine Bod.get dc_410_74 fr_410_496 (mk_61 _) rfl ?_
  refine Bod.go dc_410_77 rfl ?_
  refine Bod.ialdN i0 rfl (by omega) (by omega) dc_410_78 (mk_91 _) ?_
  refine Bod.eqI (nI e91) (by first | assumption | rfl | exact congrArg nI (by omega) | (simp (disch := omega) only [rI, rIe, rA, rIA, rLA, rJA, rVI, rQI, rVA, rQA, upd_at,  rAI, rLI, rJI, nI_add, pk_sub, kc_0, kc_1, kc_2, kc_3, kc_4, kc_5, reduceIte, Nat.reduceEqDiff, Nat.add_zero, rI_hold, rI_hold, rL_hold, hfd0, he91]; done)) ?_
  refine Bod.ic 1 (by decide) dc_410_79 ?_
  refine Bod.icT dc_410_80 rfl (k2_eq_T (k_eq e91 1 rfl rfl (by omega))) ?_
  refine Bod.go dc_410_89 rfl ?_
  refine Bod.get dc_410_90 fr_410_499 (mk_61 _) rfl ?_
  refine Bod.go dc_410_93 rfl ?_
  refine Bod.laldN i0 rfl (by omega) (by omega) dc_410_94 (mk_92 _) ?_
  refine Bod.go dc_410_95 rfl ?_
  refine Bod.go dc_410_96 rfl ?_
  refine Bod.ifF dc_410_97 rfl w11 ?_
  refine Bod.go dc_410_100 rfl ?_
  refine Bod.get dc_410_101 fr_410_499 (mk_61 _) rfl ?_
  refine Bod.go dc_410_104 rfl ?_
  refine Bod.laldN i0 rfl (by omega) (by omega) dc_410_105 (mk_92 _) ?_
  refine Bod.go dc_410_106 rfl ?_
  refine Bod.get dc_410_107 fr_410_459 (mk_thing ag (by first | exact hz1 | (simp only [rIS, rJS, rAS, rLS, rVS, rQS, rS_hold]; exact hz1))) rfl ?_
  refine Bod.go dc_410_110 rfl ?_
  refine Bod.go dc_410_111 rfl ?_
  refine Bod.go dc_410_112 rfl ?_
  refine Bod.lstn dc_410_121 (by rw [ml_410]; exact Nat.le_of_ble_eq_true rfl) ?_
  refine Bod.go dc_410_122 rfl ?_
  refine Bod.go dc_410_123 rfl ?_
  refine Bod.go dc_410_124 rfl ?_
  refine Bod.get dc_410_125 fr_410_459 (mk_thing ag (by first | exact hz1 | (simp only [rIS, rJS, rAS, rLS, rVS, rQS, rS_hold]; exact hz1))) rfl ?_
  refine Bod.ic 1 (by decide) dc_410_128 ?_
  refine Bod.go dc_410_129 rfl ?_
  refine Bod.go dc_410_130 rfl ?_
  refine Bod.stat (r := []) dc_410_131 kr_410_680 (Or.inl rfl) (by rw [np_284]; rfl) (by rw [np_284]; rfl) (by rw [np_284]; exact Nat.le_of_ble_eq_true rfl) (Nat.le_of_ble_eq_true rfl) (c1  ) ?_
  show Bod _ _ _ _ [_] _ _ _
  refine Bod.ifT dc_410_134 rfl (k1_eq_T (k_eq 0 0 rfl rfl (by omega))) ?_
  refine Bod.go dc_410_142 rfl ?_
  refine Bod.ic 3 (by decide) dc_410_143 ?_
  refine Bod.virt (r := []) dc_410_144 kr_410_762 ⟨Or.inl rfl, ow_411, cl_14⟩ (by rw [np_411]; rfl) (by rw [np_411]; rfl) (ob_of (mk_61 _)) (Nat.le_of_ble_eq_true rfl) (c2  ) ?_
  show Bod _ _ _ _ [_] _ _ _
  exact Bod.retI dc_410_147 rt_410
theorem rPq_7 {d : Nat} {S : cS} {g : Nat} {zg : Nat} {i0 : Nat} {fd0 : Nat} {e91 : Nat} {S1 : cS} {a : Nat} (mi0 : i0 < 2 ^ 20) (ag : 108 ≤ g) (hz1 : (sS S)[g - 108]? = some (13, zg)) (hfd0 : sI S (100 * g + 0) = nI fd0) (mfd0 : fd0 < 2 ^ 20) (b1 : fd0 ≠ 2) (b2 : i0 < 20480) (he91 : sA S 91 i0 = nI e91) (me91 : e91 < 2 ^ 20) (b3 : e91 ≠ 1) (ma : a < 2 ^ 20) (c1 : Ans (d + 8) 411 [.ref 61, .int (nI 2)] S (some (.int (nI a))) S1) : Bod (d + 8) 410 0 [(0, .ref 61), (1, .ref g), (2, .int (nI i0))] [] S (some (.int (nI a))) (S1) := by
  refine Bod.go dc_410_0 rfl ?_
  refine Bod.get dc_410_1 fr_410_531 (mk_thing ag (by first | exact hz1 | (simp only [rIS, rJS, rAS, rLS, rVS, rQS, rS_hold]; exact hz1))) rfl ?_
  refine Bod.eqI (nI fd0) (by first | assumption | rfl | exact congrArg nI (by omega) | (simp (disch := omega) only [rI, rIe, rA, rIA, rLA, rJA, rVI, rQI, rVA, rQA, upd_at,  rAI, rLI, rJI, nI_add, pk_sub, kc_0, kc_1, kc_2, kc_3, kc_4, kc_5, reduceIte, Nat.reduceEqDiff, Nat.add_zero, rI_hold, rI_hold, rL_hold, hfd0]; done)) ?_
  refine Bod.ic 2 (by decide) dc_410_4 ?_
  refine Bod.icT dc_410_5 rfl (k2_ne_T (k_ne fd0 2 rfl rfl (by omega) (by omega) (by omega))) ?_
  refine Bod.go dc_410_73 rfl ?_
  refine Bod.get dc_410_74 fr_410_496 (mk_61 _) rfl ?_
  refine Bod.go dc_410_77 rfl ?_
  refine Bod.ialdN i0 rfl (by omega) (by omega) dc_410_78 (mk_91 _) ?_
  refine Bod.eqI (nI e91) (by first | assumption | rfl | exact congrArg nI (by omega) | (simp (disch := omega) only [rI, rIe, rA, rIA, rLA, rJA, rVI, rQI, rVA, rQA, upd_at,  rAI, rLI, rJI, nI_add, pk_sub, kc_0, kc_1, kc_2, kc_3, kc_4, kc_5, reduceIte, Nat.reduceEqDiff, Nat.add_zero, rI_hold, rI_hold, rL_hold, hfd0, he91]; done)) ?_
  refine Bod.ic 1 (by decide) dc_410_79 ?_
  refine Bod.icF dc_410_80 rfl (k2_eq_F (k_ne e91 1 rfl rfl (by omega) (by omega) (by omega))) ?_
  refine Bod.go dc_410_83 rfl ?_
  refine Bod.ic 2 (by decide) dc_410_84 ?_
  refine Bod.virt (r := []) dc_410_85 kr_410_762 ⟨Or.inl rfl, ow_411, cl_14⟩ (by rw [np_411]; rfl) (by rw [np_411]; rfl) (ob_of (mk_61 _)) (Nat.le_of_ble_eq_true rfl) (c1  ) ?_
  show Bod _ _ _ _ [_] _ _ _
  exact Bod.retI dc_410_88 rt_410
theorem rPq_8 {d : Nat} {S : cS} {g : Nat} {zg : Nat} {i0 : Nat} {fd0 : Nat} {e91 : Nat} {S1 : cS} (mi0 : i0 < 2 ^ 20) (ag : 108 ≤ g) (hz1 : (sS S)[g - 108]? = some (13, zg)) (hfd0 : sI S (100 * g + 0) = nI fd0) (mfd0 : fd0 < 2 ^ 20) (b1 : fd0 ≠ 2) (b2 : i0 < 20480) (he91 : sA S 91 i0 = nI e91) (me91 : e91 < 2 ^ 20) (b3 : e91 ≠ 1) (c1 : Ans (d + 8) 411 [.ref 61, .int (nI 2)] S (some (.int (Int32.ofInt (-1)))) S1) : Bod (d + 8) 410 0 [(0, .ref 61), (1, .ref g), (2, .int (nI i0))] [] S (some (.int (Int32.ofInt (-1)))) (S1) := by
  refine Bod.go dc_410_0 rfl ?_
  refine Bod.get dc_410_1 fr_410_531 (mk_thing ag (by first | exact hz1 | (simp only [rIS, rJS, rAS, rLS, rVS, rQS, rS_hold]; exact hz1))) rfl ?_
  refine Bod.eqI (nI fd0) (by first | assumption | rfl | exact congrArg nI (by omega) | (simp (disch := omega) only [rI, rIe, rA, rIA, rLA, rJA, rVI, rQI, rVA, rQA, upd_at,  rAI, rLI, rJI, nI_add, pk_sub, kc_0, kc_1, kc_2, kc_3, kc_4, kc_5, reduceIte, Nat.reduceEqDiff, Nat.add_zero, rI_hold, rI_hold, rL_hold, hfd0]; done)) ?_
  refine Bod.ic 2 (by decide) dc_410_4 ?_
  refine Bod.icT dc_410_5 rfl (k2_ne_T (k_ne fd0 2 rfl rfl (by omega) (by omega) (by omega))) ?_
  refine Bod.go dc_410_73 rfl ?_
  refine Bod.get dc_410_74 fr_410_496 (mk_61 _) rfl ?_
  refine Bod.go dc_410_77 rfl ?_
  refine Bod.ialdN i0 rfl (by omega) (by omega) dc_410_78 (mk_91 _) ?_
  refine Bod.eqI (nI e91) (by first | assumption | rfl | exact congrArg nI (by omega) | (simp (disch := omega) only [rI, rIe, rA, rIA, rLA, rJA, rVI, rQI, rVA, rQA, upd_at,  rAI, rLI, rJI, nI_add, pk_sub, kc_0, kc_1, kc_2, kc_3, kc_4, kc_5, reduceIte, Nat.reduceEqDiff, Nat.add_zero, rI_hold, rI_hold, rL_hold, hfd0, he91]; done)) ?_
  refine Bod.ic 1 (by decide) dc_410_79 ?_
  refine Bod.icF dc_410_80 rfl (k2_eq_F (k_ne e91 1 rfl rfl (by omega) (by omega) (by omega))) ?_
  refine Bod.go dc_410_83 rfl ?_
  refine Bod.ic 2 (by decide) dc_410_84 ?_
  refine Bod.virt (r := []) dc_410_85 kr_410_762 ⟨Or.inl rfl, ow_411, cl_14⟩ (by rw [np_411]; rfl) (by rw [np_411]; rfl) (ob_of (mk_61 _)) (Nat.le_of_ble_eq_true rfl) (c1  ) ?_
  show Bod _ _ _ _ [_] _ _ _
  exact Bod.retI dc_410_88 rt_410
theorem rPq_9 {d : Nat} {S : cS} {g : Nat} {zg : Nat} {i0 : Nat} {fd0 : Nat} {S1 : cS} {e91 : Nat} {S2 : cS} {a : Nat} (mi0 : i0 < 2 ^ 20) (ag : 108 ≤ g) (hz1 : (sS S)[g - 108]? = some (13, zg)) (hfd0 : sI S (100 * g + 0) = nI fd0) (mfd0 : fd0 < 2 ^ 20) (b1 : fd0 = 2) (c1 : Ans (d + 8) 403 [.ref 61, .int (nI i0)] S (some (.int (nI 1))) S1) (b2 : i0 < 20480) (he91 : sA S1 91 i0 = nI e91) (me91 : e91 < 2 ^ 20) (b3 : e91 ≠ 1) (ma : a < 2 ^ 20) (c2 : Ans (d + 8) 399 [.ref g, .int (nI e91), .long (sL S1 92 i0), .long (sL S1 93 i0)] S1 (some (.int (nI a))) S2) (hz2 : (sS S1)[g - 108]? = some (13, zg)) : Bod (d + 8) 410 0 [(0, .ref 61), (1, .ref g), (2, .int (nI i0))] [] S (some (.int (nI a))) (S2) := by
  refine Bod.go dc_410_0 rfl ?_
  refine Bod.get dc_410_1 fr_410_531 (mk_thing ag (by first | exact hz1 | (simp only [rIS, rJS, rAS, rLS, rVS, rQS, rS_hold]; exact hz1))) rfl ?_
  refine Bod.eqI (nI fd0) (by first | assumption | rfl | exact congrArg nI (by omega) | (simp (disch := omega) only [rI, rIe, rA, rIA, rLA, rJA, rVI, rQI, rVA, rQA, upd_at,  rAI, rLI, rJI, nI_add, pk_sub, kc_0, kc_1, kc_2, kc_3, kc_4, kc_5, reduceIte, Nat.reduceEqDiff, Nat.add_zero, rI_hold, rI_hold, rL_hold, hfd0]; done)) ?_
  refine Bod.ic 2 (by decide) dc_410_4 ?_
  refine Bod.icF dc_410_5 rfl (k2_ne_F (k_eq fd0 2 rfl rfl (by omega))) ?_
  refine Bod.go dc_410_8 rfl ?_
  refine Bod.go dc_410_9 rfl ?_
  refine Bod.virt (r := []) dc_410_10 kr_410_716 ⟨Or.inl rfl, ow_403, cl_14⟩ (by rw [np_403]; rfl) (by rw [np_403]; rfl) (ob_of (mk_61 _)) (Nat.le_of_ble_eq_true rfl) (c1  ) ?_
  show Bod _ _ _ _ [_] _ _ _
  refine Bod.ifT dc_410_13 rfl (k1_ne_T (k_ne 1 0 rfl rfl (by omega) (by omega) (by omega))) ?_
  refine Bod.go dc_410_22 rfl ?_
  refine Bod.go dc_410_23 rfl ?_
  refine Bod.get dc_410_24 fr_410_496 (mk_61 _) rfl ?_
  refine Bod.go dc_410_27 rfl ?_
  refine Bod.ialdN i0 rfl (by omega) (by omega) dc_410_28 (mk_91 _) ?_
  refine Bod.eqI (nI e91) (by first | assumption | (simp (disch := omega) only [rI, rIe, rA, rIA, rLA, rJA, rVI, rQI, rVA, rQA, upd_at,  rAI, rLI, rJI, nI_add, pk_sub, kc_0, kc_1, kc_2, kc_3, kc_4, kc_5, reduceIte, Nat.reduceEqDiff, Nat.add_zero, rI_hold, rI_hold, rL_hold, hfd0, he91]; done) | (simp (disch := omega) only [rI, rIe, rA, rIA, rLA, rJA, rVI, rQI, rVA, rQA, upd_at,  rAI, rLI, rJI, nI_add, pk_sub, kc_0, kc_1, kc_2, kc_3, kc_4, kc_5, reduceIte, Nat.reduceEqDiff, Nat.add_zero, rI_hold, rI_hold, rL_hold, hfd0, he91]; exact congrArg nI (by omega))) ?_
  refine Bod.go dc_410_29 rfl ?_
  refine Bod.get dc_410_30 fr_410_499 (mk_61 _) rfl ?_
  refine Bod.go dc_410_33 rfl ?_
  refine Bod.laldN i0 rfl (by omega) (by omega) dc_410_34 (mk_92 _) ?_
  refine Bod.go dc_410_35 rfl ?_
  refine Bod.get dc_410_36 fr_410_496 (mk_61 _) rfl ?_
  refine Bod.go dc_410_39 rfl ?_
  refine Bod.ialdN i0 rfl (by omega) (by omega) dc_410_40 (mk_91 _) ?_
  refine Bod.eqI (nI e91) (by first | assumption | (simp (disch := omega) only [rI, rIe, rA, rIA, rLA, rJA, rVI, rQI, rVA, rQA, upd_at,  rAI, rLI, rJI, nI_add, pk_sub, kc_0, kc_1, kc_2, kc_3, kc_4, kc_5, reduceIte, Nat.reduceEqDiff, Nat.add_zero, rI_hold, rI_hold, rL_hold, hfd0, he91]; done) | (simp (disch := omega) only [rI, rIe, rA, rIA, rLA, rJA, rVI, rQI, rVA, rQA, upd_at,  rAI, rLI, rJI, nI_add, pk_sub, kc_0, kc_1, kc_2, kc_3, kc_4, kc_5, reduceIte, Nat.reduceEqDiff, Nat.add_zero, rI_hold, rI_hold, rL_hold, hfd0, he91]; exact congrArg nI (by omega))) ?_
  refine Bod.ic 1 (by decide) dc_410_41 ?_
  refine Bod.icT dc_410_42 rfl (k2_ne_T (k_ne e91 1 rfl rfl (by omega) (by omega) (by omega))) ?_
  refine Bod.go dc_410_49 rfl ?_
  refine Bod.get dc_410_50 fr_410_546 (mk_61 _) rfl ?_
  refine Bod.go dc_410_53 rfl ?_
  refine Bod.laldN i0 rfl (by omega) (by omega) dc_410_54 (mk_93 _) ?_
  refine Bod.virt (r := []) dc_410_55 kr_410_764 ⟨Or.inl rfl, ow_399, cl_13⟩ (by rw [np_399]; rfl) (by rw [np_399]; rfl) (ob_of (mk_thing ag (by first | exact hz2 | (simp only [rIS, rJS, rAS, rLS, rVS, rQS, rS_hold]; exact hz2)))) (Nat.le_of_ble_eq_true rfl) (c2  ) ?_
  show Bod _ _ _ _ [_] _ _ _
  refine Bod.istn dc_410_58 (by rw [ml_410]; exact Nat.le_of_ble_eq_true rfl) ?_
  refine Bod.go dc_410_59 rfl ?_
  refine Bod.ifT dc_410_60 rfl (k1_ge_T a rfl (by omega)) ?_
  refine Bod.go dc_410_71 rfl ?_
  exact Bod.retI dc_410_72 rt_410
theorem rPq_10 {d : Nat} {S : cS} {g : Nat} {zg : Nat} {i0 : Nat} {fd0 : Nat} {S1 : cS} {e91 : Nat} {S2 : cS} {S3 : cS} {a : Nat} (mi0 : i0 < 2 ^ 20) (ag : 108 ≤ g) (hz1 : (sS S)[g - 108]? = some (13, zg)) (hfd0 : sI S (100 * g + 0) = nI fd0) (mfd0 : fd0 < 2 ^ 20) (b1 : fd0 = 2) (c1 : Ans (d + 8) 403 [.ref 61, .int (nI i0)] S (some (.int (nI 1))) S1) (b2 : i0 < 20480) (he91 : sA S1 91 i0 = nI e91) (me91 : e91 < 2 ^ 20) (b3 : e91 ≠ 1) (c2 : Ans (d + 8) 399 [.ref g, .int (nI e91), .long (sL S1 92 i0), .long (sL S1 93 i0)] S1 (some (.int (Int32.ofInt (-1)))) S2) (hz2 : (sS S1)[g - 108]? = some (13, zg)) (ma : a < 2 ^ 20) (c3 : Ans (d + 8) 411 [.ref 61, .int (nI 4)] S2 (some (.int (nI a))) S3) : Bod (d + 8) 410 0 [(0, .ref 61), (1, .ref g), (2, .int (nI i0))] [] S (some (.int (nI a))) (S3) := by
  refine Bod.go dc_410_0 rfl ?_
  refine Bod.get dc_410_1 fr_410_531 (mk_thing ag (by first | exact hz1 | (simp only [rIS, rJS, rAS, rLS, rVS, rQS, rS_hold]; exact hz1))) rfl ?_
  refine Bod.eqI (nI fd0) (by first | assumption | rfl | exact congrArg nI (by omega) | (simp (disch := omega) only [rI, rIe, rA, rIA, rLA, rJA, rVI, rQI, rVA, rQA, upd_at,  rAI, rLI, rJI, nI_add, pk_sub, kc_0, kc_1, kc_2, kc_3, kc_4, kc_5, reduceIte, Nat.reduceEqDiff, Nat.add_zero, rI_hold, rI_hold, rL_hold, hfd0]; done)) ?_
  refine Bod.ic 2 (by decide) dc_410_4 ?_
  refine Bod.icF dc_410_5 rfl (k2_ne_F (k_eq fd0 2 rfl rfl (by omega))) ?_
  refine Bod.go dc_410_8 rfl ?_
  refine Bod.go dc_410_9 rfl ?_
  refine Bod.virt (r := []) dc_410_10 kr_410_716 ⟨Or.inl rfl, ow_403, cl_14⟩ (by rw [np_403]; rfl) (by rw [np_403]; rfl) (ob_of (mk_61 _)) (Nat.le_of_ble_eq_true rfl) (c1  ) ?_
  show Bod _ _ _ _ [_] _ _ _
  refine Bod.ifT dc_410_13 rfl (k1_ne_T (k_ne 1 0 rfl rfl (by omega) (by omega) (by omega))) ?_
  refine Bod.go dc_410_22 rfl ?_
  refine Bod.go dc_410_23 rfl ?_
  refine Bod.get dc_410_24 fr_410_496 (mk_61 _) rfl ?_
  refine Bod.go dc_410_27 rfl ?_
  refine Bod.ialdN i0 rfl (by omega) (by omega) dc_410_28 (mk_91 _) ?_
  refine Bod.eqI (nI e91) (by first | assumption | (simp (disch := omega) only [rI, rIe, rA, rIA, rLA, rJA, rVI, rQI, rVA, rQA, upd_at,  rAI, rLI, rJI, nI_add, pk_sub, kc_0, kc_1, kc_2, kc_3, kc_4, kc_5, reduceIte, Nat.reduceEqDiff, Nat.add_zero, rI_hold, rI_hold, rL_hold, hfd0, he91]; done) | (simp (disch := omega) only [rI, rIe, rA, rIA, rLA, rJA, rVI, rQI, rVA, rQA, upd_at,  rAI, rLI, rJI, nI_add, pk_sub, kc_0, kc_1, kc_2, kc_3, kc_4, kc_5, reduceIte, Nat.reduceEqDiff, Nat.add_zero, rI_hold, rI_hold, rL_hold, hfd0, he91]; exact congrArg nI (by omega))) ?_
  refine Bod.go dc_410_29 rfl ?_
  refine Bod.get dc_410_30 fr_410_499 (mk_61 _) rfl ?_
  refine Bod.go dc_410_33 rfl ?_
  refine Bod.laldN i0 rfl (by omega) (by omega) dc_410_34 (mk_92 _) ?_
  refine Bod.go dc_410_35 rfl ?_
  refine Bod.get dc_410_36 fr_410_496 (mk_61 _) rfl ?_
  refine Bod.go dc_410_39 rfl ?_
  refine Bod.ialdN i0 rfl (by omega) (by omega) dc_410_40 (mk_91 _) ?_
  refine Bod.eqI (nI e91) (by first | assumption | (simp (disch := omega) only [rI, rIe, rA, rIA, rLA, rJA, rVI, rQI, rVA, rQA, upd_at,  rAI, rLI, rJI, nI_add, pk_sub, kc_0, kc_1, kc_2, kc_3, kc_4, kc_5, reduceIte, Nat.reduceEqDiff, Nat.add_zero, rI_hold, rI_hold, rL_hold, hfd0, he91]; done) | (simp (disch := omega) only [rI, rIe, rA, rIA, rLA, rJA, rVI, rQI, rVA, rQA, upd_at,  rAI, rLI, rJI, nI_add, pk_sub, kc_0, kc_1, kc_2, kc_3, kc_4, kc_5, reduceIte, Nat.reduceEqDiff, Nat.add_zero, rI_hold, rI_hold, rL_hold, hfd0, he91]; exact congrArg nI (by omega))) ?_
  refine Bod.ic 1 (by decide) dc_410_41 ?_
  refine Bod.icT dc_410_42 rfl (k2_ne_T (k_ne e91 1 rfl rfl (by omega) (by omega) (by omega))) ?_
  refine Bod.go dc_410_49 rfl ?_
  refine Bod.get dc_410_50 fr_410_546 (mk_61 _) rfl ?_
  refine Bod.go dc_410_53 rfl ?_
  refine Bod.laldN i0 rfl (by omega) (by omega) dc_410_54 (mk_93 _) ?_
  refine Bod.virt (r := []) dc_410_55 kr_410_764 ⟨Or.inl rfl, ow_399, cl_13⟩ (by rw [np_399]; rfl) (by rw [np_399]; rfl) (ob_of (mk_thing ag (by first | exact hz2 | (simp only [rIS, rJS, rAS, rLS, rVS, rQS, rS_hold]; exact hz2)))) (Nat.le_of_ble_eq_true rfl) (c2  ) ?_
  show Bod _ _ _ _ [_] _ _ _
  refine Bod.istn dc_410_58 (by rw [ml_410]; exact Nat.le_of_ble_eq_true rfl) ?_
  refine Bod.go dc_410_59 rfl ?_
  refine Bod.ifF dc_410_60 rfl (by decide) ?_
  refine Bod.go dc_410_63 rfl ?_
  refine Bod.ic 4 (by decide) dc_410_64 ?_
  refine Bod.virt (r := []) dc_410_65 kr_410_762 ⟨Or.inl rfl, ow_411, cl_14⟩ (by rw [np_411]; rfl) (by rw [np_411]; rfl) (ob_of (mk_61 _)) (Nat.le_of_ble_eq_true rfl) (c3  ) ?_
  show Bod _ _ _ _ [_] _ _ _
  refine Bod.go dc_410_68 rfl ?_
  exact Bod.retI dc_410_72 rt_410
theorem rPq_11 {d : Nat} {S : cS} {g : Nat} {zg : Nat} {i0 : Nat} {fd0 : Nat} {S1 : cS} {e91 : Nat} {S2 : cS} {S3 : cS} (mi0 : i0 < 2 ^ 20) (ag : 108 ≤ g) (hz1 : (sS S)[g - 108]? = some (13, zg)) (hfd0 : sI S (100 * g + 0) = nI fd0) (mfd0 : fd0 < 2 ^ 20) (b1 : fd0 = 2) (c1 : Ans (d + 8) 403 [.ref 61, .int (nI i0)] S (some (.int (nI 1))) S1) (b2 : i0 < 20480) (he91 : sA S1 91 i0 = nI e91) (me91 : e91 < 2 ^ 20) (b3 : e91 ≠ 1) (c2 : Ans (d + 8) 399 [.ref g, .int (nI e91), .long (sL S1 92 i0), .long (sL S1 93 i0)] S1 (some (.int (Int32.ofInt (-1)))) S2) (hz2 : (sS S1)[g - 108]? = some (13, zg)) (c3 : Ans (d + 8) 411 [.ref 61, .int (nI 4)] S2 (some (.int (Int32.ofInt (-1)))) S3) : Bod (d + 8) 410 0 [(0, .ref 61), (1, .ref g), (2, .int (nI i0))] [] S (some (.int (Int32.ofInt (-1)))) (S3) := by
  refine Bod.go dc_410_0 rfl ?_
  refine Bod.get dc_410_1 fr_410_531 (mk_thing ag (by first | exact hz1 | (simp only [rIS, rJS, rAS, rLS, rVS, rQS, rS_hold]; exact hz1))) rfl ?_
  refine Bod.eqI (nI fd0) (by first | assumption | rfl | exact congrArg nI (by omega) | (simp (disch := omega) only [rI, rIe, rA, rIA, rLA, rJA, rVI, rQI, rVA, rQA, upd_at,  rAI, rLI, rJI, nI_add, pk_sub, kc_0, kc_1, kc_2, kc_3, kc_4, kc_5, reduceIte, Nat.reduceEqDiff, Nat.add_zero, rI_hold, rI_hold, rL_hold, hfd0]; done)) ?_
  refine Bod.ic 2 (by decide) dc_410_4 ?_
  refine Bod.icF dc_410_5 rfl (k2_ne_F (k_eq fd0 2 rfl rfl (by omega))) ?_
  refine Bod.go dc_410_8 rfl ?_
  refine Bod.go dc_410_9 rfl ?_
  refine Bod.virt (r := []) dc_410_10 kr_410_716 ⟨Or.inl rfl, ow_403, cl_14⟩ (by rw [np_403]; rfl) (by rw [np_403]; rfl) (ob_of (mk_61 _)) (Nat.le_of_ble_eq_true rfl) (c1  ) ?_
  show Bod _ _ _ _ [_] _ _ _
  refine Bod.ifT dc_410_13 rfl (k1_ne_T (k_ne 1 0 rfl rfl (by omega) (by omega) (by omega))) ?_
  refine Bod.go dc_410_22 rfl ?_
  refine Bod.go dc_410_23 rfl ?_
  refine Bod.get dc_410_24 fr_410_496 (mk_61 _) rfl ?_
  refine Bod.go dc_410_27 rfl ?_
  refine Bod.ialdN i0 rfl (by omega) (by omega) dc_410_28 (mk_91 _) ?_
  refine Bod.eqI (nI e91) (by first | assumption | (simp (disch := omega) only [rI, rIe, rA, rIA, rLA, rJA, rVI, rQI, rVA, rQA, upd_at,  rAI, rLI, rJI, nI_add, pk_sub, kc_0, kc_1, kc_2, kc_3, kc_4, kc_5, reduceIte, Nat.reduceEqDiff, Nat.add_zero, rI_hold, rI_hold, rL_hold, hfd0, he91]; done) | (simp (disch := omega) only [rI, rIe, rA, rIA, rLA, rJA, rVI, rQI, rVA, rQA, upd_at,  rAI, rLI, rJI, nI_add, pk_sub, kc_0, kc_1, kc_2, kc_3, kc_4, kc_5, reduceIte, Nat.reduceEqDiff, Nat.add_zero, rI_hold, rI_hold, rL_hold, hfd0, he91]; exact congrArg nI (by omega))) ?_
  refine Bod.go dc_410_29 rfl ?_
  refine Bod.get dc_410_30 fr_410_499 (mk_61 _) rfl ?_
  refine Bod.go dc_410_33 rfl ?_
  refine Bod.laldN i0 rfl (by omega) (by omega) dc_410_34 (mk_92 _) ?_
  refine Bod.go dc_410_35 rfl ?_
  refine Bod.get dc_410_36 fr_410_496 (mk_61 _) rfl ?_
  refine Bod.go dc_410_39 rfl ?_
  refine Bod.ialdN i0 rfl (by omega) (by omega) dc_410_40 (mk_91 _) ?_
  refine Bod.eqI (nI e91) (by first | assumption | (simp (disch := omega) only [rI, rIe, rA, rIA, rLA, rJA, rVI, rQI, rVA, rQA, upd_at,  rAI, rLI, rJI, nI_add, pk_sub, kc_0, kc_1, kc_2, kc_3, kc_4, kc_5, reduceIte, Nat.reduceEqDiff, Nat.add_zero, rI_hold, rI_hold, rL_hold, hfd0, he91]; done) | (simp (disch := omega) only [rI, rIe, rA, rIA, rLA, rJA, rVI, rQI, rVA, rQA, upd_at,  rAI, rLI, rJI, nI_add, pk_sub, kc_0, kc_1, kc_2, kc_3, kc_4, kc_5, reduceIte, Nat.reduceEqDiff, Nat.add_zero, rI_hold, rI_hold, rL_hold, hfd0, he91]; exact congrArg nI (by omega))) ?_
  refine Bod.ic 1 (by decide) dc_410_41 ?_
  refine Bod.icT dc_410_42 rfl (k2_ne_T (k_ne e91 1 rfl rfl (by omega) (by omega) (by omega))) ?_
  refine Bod.go dc_410_49 rfl ?_
  refine Bod.get dc_410_50 fr_410_546 (mk_61 _) rfl ?_
  refine Bod.go dc_410_53 rfl ?_
  refine Bod.laldN i0 rfl (by omega) (by omega) dc_410_54 (mk_93 _) ?_
  refine Bod.virt (r := []) dc_410_55 kr_410_764 ⟨Or.inl rfl, ow_399, cl_13⟩ (by rw [np_399]; rfl) (by rw [np_399]; rfl) (ob_of (mk_thing ag (by first | exact hz2 | (simp only [rIS, rJS, rAS, rLS, rVS, rQS, rS_hold]; exact hz2)))) (Nat.le_of_ble_eq_true rfl) (c2  ) ?_
  show Bod _ _ _ _ [_] _ _ _
  refine Bod.istn dc_410_58 (by rw [ml_410]; exact Nat.le_of_ble_eq_true rfl) ?_
  refine Bod.go dc_410_59 rfl ?_
  refine Bod.ifF dc_410_60 rfl (by decide) ?_
  refine Bod.go dc_410_63 rfl ?_
  refine Bod.ic 4 (by decide) dc_410_64 ?_
  refine Bod.virt (r := []) dc_410_65 kr_410_762 ⟨Or.inl rfl, ow_411, cl_14⟩ (by rw [np_411]; rfl) (by rw [np_411]; rfl) (ob_of (mk_61 _)) (Nat.le_of_ble_eq_true rfl) (c3  ) ?_
  show Bod _ _ _ _ [_] _ _ _
  refine Bod.go dc_410_68 rfl ?_
  exact Bod.retI dc_410_72 rt_410
theorem rPq_12 {d : Nat} {S : cS} {g : Nat} {zg : Nat} {i0 : Nat} {fd0 : Nat} {S1 : cS} {e91 : Nat} {S2 : cS} {a : Nat} (mi0 : i0 < 2 ^ 20) (ag : 108 ≤ g) (hz1 : (sS S)[g - 108]? = some (13, zg)) (hfd0 : sI S (100 * g + 0) = nI fd0) (mfd0 : fd0 < 2 ^ 20) (b1 : fd0 = 2) (c1 : Ans (d + 8) 403 [.ref 61, .int (nI i0)] S (some (.int (nI 1))) S1) (b2 : i0 < 20480) (he91 : sA S1 91 i0 = nI e91) (me91 : e91 < 2 ^ 20) (b3 : e91 = 1) (ma : a < 2 ^ 20) (c2 : Ans (d + 8) 399 [.ref g, .int (nI e91), .long (sL S1 92 i0), .long 0] S1 (some (.int (nI a))) S2) (hz2 : (sS S1)[g - 108]? = some (13, zg)) : Bod (d + 8) 410 0 [(0, .ref 61), (1, .ref g), (2, .int (nI i0))] [] S (some (.int (nI a))) (S2) := by
  refine Bod.go dc_410_0 rfl ?_
  refine Bod.get dc_410_1 fr_410_531 (mk_thing ag (by first | exact hz1 | (simp only [rIS, rJS, rAS, rLS, rVS, rQS, rS_hold]; exact hz1))) rfl ?_
  refine Bod.eqI (nI fd0) (by first | assumption | rfl | exact congrArg nI (by omega) | (simp (disch := omega) only [rI, rIe, rA, rIA, rLA, rJA, rVI, rQI, rVA, rQA, upd_at,  rAI, rLI, rJI, nI_add, pk_sub, kc_0, kc_1, kc_2, kc_3, kc_4, kc_5, reduceIte, Nat.reduceEqDiff, Nat.add_zero, rI_hold, rI_hold, rL_hold, hfd0]; done)) ?_
  refine Bod.ic 2 (by decide) dc_410_4 ?_
  refine Bod.icF dc_410_5 rfl (k2_ne_F (k_eq fd0 2 rfl rfl (by omega))) ?_
  refine Bod.go dc_410_8 rfl ?_
  refine Bod.go dc_410_9 rfl ?_
  refine Bod.virt (r := []) dc_410_10 kr_410_716 ⟨Or.inl rfl, ow_403, cl_14⟩ (by rw [np_403]; rfl) (by rw [np_403]; rfl) (ob_of (mk_61 _)) (Nat.le_of_ble_eq_true rfl) (c1  ) ?_
  show Bod _ _ _ _ [_] _ _ _
  refine Bod.ifT dc_410_13 rfl (k1_ne_T (k_ne 1 0 rfl rfl (by omega) (by omega) (by omega))) ?_
  refine Bod.go dc_410_22 rfl ?_
  refine Bod.go dc_410_23 rfl ?_
  refine Bod.get dc_410_24 fr_410_496 (mk_61 _) rfl ?_
  refine Bod.go dc_410_27 rfl ?_
  refine Bod.ialdN i0 rfl (by omega) (by omega) dc_410_28 (mk_91 _) ?_
  refine Bod.eqI (nI e91) (by first | assumption | (simp (disch := omega) only [rI, rIe, rA, rIA, rLA, rJA, rVI, rQI, rVA, rQA, upd_at,  rAI, rLI, rJI, nI_add, pk_sub, kc_0, kc_1, kc_2, kc_3, kc_4, kc_5, reduceIte, Nat.reduceEqDiff, Nat.add_zero, rI_hold, rI_hold, rL_hold, hfd0, he91]; done) | (simp (disch := omega) only [rI, rIe, rA, rIA, rLA, rJA, rVI, rQI, rVA, rQA, upd_at,  rAI, rLI, rJI, nI_add, pk_sub, kc_0, kc_1, kc_2, kc_3, kc_4, kc_5, reduceIte, Nat.reduceEqDiff, Nat.add_zero, rI_hold, rI_hold, rL_hold, hfd0, he91]; exact congrArg nI (by omega))) ?_
  refine Bod.go dc_410_29 rfl ?_
  refine Bod.get dc_410_30 fr_410_499 (mk_61 _) rfl ?_
  refine Bod.go dc_410_33 rfl ?_
  refine Bod.laldN i0 rfl (by omega) (by omega) dc_410_34 (mk_92 _) ?_
  refine Bod.go dc_410_35 rfl ?_
  refine Bod.get dc_410_36 fr_410_496 (mk_61 _) rfl ?_
  refine Bod.go dc_410_39 rfl ?_
  refine Bod.ialdN i0 rfl (by omega) (by omega) dc_410_40 (mk_91 _) ?_
  refine Bod.eqI (nI e91) (by first | assumption | (simp (disch := omega) only [rI, rIe, rA, rIA, rLA, rJA, rVI, rQI, rVA, rQA, upd_at,  rAI, rLI, rJI, nI_add, pk_sub, kc_0, kc_1, kc_2, kc_3, kc_4, kc_5, reduceIte, Nat.reduceEqDiff, Nat.add_zero, rI_hold, rI_hold, rL_hold, hfd0, he91]; done) | (simp (disch := omega) only [rI, rIe, rA, rIA, rLA, rJA, rVI, rQI, rVA, rQA, upd_at,  rAI, rLI, rJI, nI_add, pk_sub, kc_0, kc_1, kc_2, kc_3, kc_4, kc_5, reduceIte, Nat.reduceEqDiff, Nat.add_zero, rI_hold, rI_hold, rL_hold, hfd0, he91]; exact congrArg nI (by omega))) ?_
  refine Bod.ic 1 (by decide) dc_410_41 ?_
  refine Bod.icF dc_410_42 rfl (k2_ne_F (k_eq e91 1 rfl rfl (by omega))) ?_
  refine Bod.go dc_410_45 rfl ?_
  refine Bod.go dc_410_46 rfl ?_
  refine Bod.virt (r := []) dc_410_55 kr_410_764 ⟨Or.inl rfl, ow_399, cl_13⟩ (by rw [np_399]; rfl) (by rw [np_399]; rfl) (ob_of (mk_thing ag (by first | exact hz2 | (simp only [rIS, rJS, rAS, rLS, rVS, rQS, rS_hold]; exact hz2)))) (Nat.le_of_ble_eq_true rfl) (c2  ) ?_
  show Bod _ _ _ _ [_] _ _ _
  refine Bod.istn dc_410_58 (by rw [ml_410]; exact Nat.le_of_ble_eq_true rfl) ?_
  refine Bod.go dc_410_59 rfl ?_
  refine Bod.ifT dc_410_60 rfl (k1_ge_T a rfl (by omega)) ?_
  refine Bod.go dc_410_71 rfl ?_
  exact Bod.retI dc_410_72 rt_410
theorem rPq_13 {d : Nat} {S : cS} {g : Nat} {zg : Nat} {i0 : Nat} {fd0 : Nat} {S1 : cS} {e91 : Nat} {S2 : cS} {S3 : cS} {a : Nat} (mi0 : i0 < 2 ^ 20) (ag : 108 ≤ g) (hz1 : (sS S)[g - 108]? = some (13, zg)) (hfd0 : sI S (100 * g + 0) = nI fd0) (mfd0 : fd0 < 2 ^ 20) (b1 : fd0 = 2) (c1 : Ans (d + 8) 403 [.ref 61, .int (nI i0)] S (some (.int (nI 1))) S1) (b2 : i0 < 20480) (he91 : sA S1 91 i0 = nI e91) (me91 : e91 < 2 ^ 20) (b3 : e91 = 1) (c2 : Ans (d + 8) 399 [.ref g, .int (nI e91), .long (sL S1 92 i0), .long 0] S1 (some (.int (Int32.ofInt (-1)))) S2) (hz2 : (sS S1)[g - 108]? = some (13, zg)) (ma : a < 2 ^ 20) (c3 : Ans (d + 8) 411 [.ref 61, .int (nI 4)] S2 (some (.int (nI a))) S3) : Bod (d + 8) 410 0 [(0, .ref 61), (1, .ref g), (2, .int (nI i0))] [] S (some (.int (nI a))) (S3) := by
  refine Bod.go dc_410_0 rfl ?_
  refine Bod.get dc_410_1 fr_410_531 (mk_thing ag (by first | exact hz1 | (simp only [rIS, rJS, rAS, rLS, rVS, rQS, rS_hold]; exact hz1))) rfl ?_
  refine Bod.eqI (nI fd0) (by first | assumption | rfl | exact congrArg nI (by omega) | (simp (disch := omega) only [rI, rIe, rA, rIA, rLA, rJA, rVI, rQI, rVA, rQA, upd_at,  rAI, rLI, rJI, nI_add, pk_sub, kc_0, kc_1, kc_2, kc_3, kc_4, kc_5, reduceIte, Nat.reduceEqDiff, Nat.add_zero, rI_hold, rI_hold, rL_hold, hfd0]; done)) ?_
  refine Bod.ic 2 (by decide) dc_410_4 ?_
  refine Bod.icF dc_410_5 rfl (k2_ne_F (k_eq fd0 2 rfl rfl (by omega))) ?_
  refine Bod.go dc_410_8 rfl ?_
  refine Bod.go dc_410_9 rfl ?_
  refine Bod.virt (r := []) dc_410_10 kr_410_716 ⟨Or.inl rfl, ow_403, cl_14⟩ (by rw [np_403]; rfl) (by rw [np_403]; rfl) (ob_of (mk_61 _)) (Nat.le_of_ble_eq_true rfl) (c1  ) ?_
  show Bod _ _ _ _ [_] _ _ _
  refine Bod.ifT dc_410_13 rfl (k1_ne_T (k_ne 1 0 rfl rfl (by omega) (by omega) (by omega))) ?_
  refine Bod.go dc_410_22 rfl ?_
  refine Bod.go dc_410_23 rfl ?_
  refine Bod.get dc_410_24 fr_410_496 (mk_61 _) rfl ?_
  refine Bod.go dc_410_27 rfl ?_
  refine Bod.ialdN i0 rfl (by omega) (by omega) dc_410_28 (mk_91 _) ?_
  refine Bod.eqI (nI e91) (by first | assumption | (simp (disch := omega) only [rI, rIe, rA, rIA, rLA, rJA, rVI, rQI, rVA, rQA, upd_at,  rAI, rLI, rJI, nI_add, pk_sub, kc_0, kc_1, kc_2, kc_3, kc_4, kc_5, reduceIte, Nat.reduceEqDiff, Nat.add_zero, rI_hold, rI_hold, rL_hold, hfd0, he91]; done) | (simp (disch := omega) only [rI, rIe, rA, rIA, rLA, rJA, rVI, rQI, rVA, rQA, upd_at,  rAI, rLI, rJI, nI_add, pk_sub, kc_0, kc_1, kc_2, kc_3, kc_4, kc_5, reduceIte, Nat.reduceEqDiff, Nat.add_zero, rI_hold, rI_hold, rL_hold, hfd0, he91]; exact congrArg nI (by omega))) ?_
  refine Bod.go dc_410_29 rfl ?_
  refine Bod.get dc_410_30 fr_410_499 (mk_61 _) rfl ?_
  refine Bod.go dc_410_33 rfl ?_
  refine Bod.laldN i0 rfl (by omega) (by omega) dc_410_34 (mk_92 _) ?_
  refine Bod.go dc_410_35 rfl ?_
  refine Bod.get dc_410_36 fr_410_496 (mk_61 _) rfl ?_
  refine Bod.go dc_410_39 rfl ?_
  refine Bod.ialdN i0 rfl (by omega) (by omega) dc_410_40 (mk_91 _) ?_
  refine Bod.eqI (nI e91) (by first | assumption | (simp (disch := omega) only [rI, rIe, rA, rIA, rLA, rJA, rVI, rQI, rVA, rQA, upd_at,  rAI, rLI, rJI, nI_add, pk_sub, kc_0, kc_1, kc_2, kc_3, kc_4, kc_5, reduceIte, Nat.reduceEqDiff, Nat.add_zero, rI_hold, rI_hold, rL_hold, hfd0, he91]; done) | (simp (disch := omega) only [rI, rIe, rA, rIA, rLA, rJA, rVI, rQI, rVA, rQA, upd_at,  rAI, rLI, rJI, nI_add, pk_sub, kc_0, kc_1, kc_2, kc_3, kc_4, kc_5, reduceIte, Nat.reduceEqDiff, Nat.add_zero, rI_hold, rI_hold, rL_hold, hfd0, he91]; exact congrArg nI (by omega))) ?_
  refine Bod.ic 1 (by decide) dc_410_41 ?_
  refine Bod.icF dc_410_42 rfl (k2_ne_F (k_eq e91 1 rfl rfl (by omega))) ?_
  refine Bod.go dc_410_45 rfl ?_
  refine Bod.go dc_410_46 rfl ?_
  refine Bod.virt (r := []) dc_410_55 kr_410_764 ⟨Or.inl rfl, ow_399, cl_13⟩ (by rw [np_399]; rfl) (by rw [np_399]; rfl) (ob_of (mk_thing ag (by first | exact hz2 | (simp only [rIS, rJS, rAS, rLS, rVS, rQS, rS_hold]; exact hz2)))) (Nat.le_of_ble_eq_true rfl) (c2  ) ?_
  show Bod _ _ _ _ [_] _ _ _
  refine Bod.istn dc_410_58 (by rw [ml_410]; exact Nat.le_of_ble_eq_true rfl) ?_
  refine Bod.go dc_410_59 rfl ?_
  refine Bod.ifF dc_410_60 rfl (by decide) ?_
  refine Bod.go dc_410_63 rfl ?_
  refine Bod.ic 4 (by decide) dc_410_64 ?_
  refine Bod.virt (r := []) dc_410_65 kr_410_762 ⟨Or.inl rfl, ow_411, cl_14⟩ (by rw [np_411]; rfl) (by rw [np_411]; rfl) (ob_of (mk_61 _)) (Nat.le_of_ble_eq_true rfl) (c3  ) ?_
  show Bod _ _ _ _ [_] _ _ _
  refine Bod.go dc_410_68 rfl ?_
  exact Bod.retI dc_410_72 rt_410
theorem rPq_14 {d : Nat} {S : cS} {g : Nat} {zg : Nat} {i0 : Nat} {fd0 : Nat} {S1 : cS} {e91 : Nat} {S2 : cS} {S3 : cS} (mi0 : i0 < 2 ^ 20) (ag : 108 ≤ g) (hz1 : (sS S)[g - 108]? = some (13, zg)) (hfd0 : sI S (100 * g + 0) = nI fd0) (mfd0 : fd0 < 2 ^ 20) (b1 : fd0 = 2) (c1 : Ans (d + 8) 403 [.ref 61, .int (nI i0)] S (some (.int (nI 1))) S1) (b2 : i0 < 20480) (he91 : sA S1 91 i0 = nI e91) (me91 : e91 < 2 ^ 20) (b3 : e91 = 1) (c2 : Ans (d + 8) 399 [.ref g, .int (nI e91), .long (sL S1 92 i0), .long 0] S1 (some (.int (Int32.ofInt (-1)))) S2) (hz2 : (sS S1)[g - 108]? = some (13, zg)) (c3 : Ans (d + 8) 411 [.ref 61, .int (nI 4)] S2 (some (.int (Int32.ofInt (-1)))) S3) : Bod (d + 8) 410 0 [(0, .ref 61), (1, .ref g), (2, .int (nI i0))] [] S (some (.int (Int32.ofInt (-1)))) (S3) := by
  refine Bod.go dc_410_0 rfl ?_
  refine Bod.get dc_410_1 fr_410_531 (mk_thing ag (by first | exact hz1 | (simp only [rIS, rJS, rAS, rLS, rVS, rQS, rS_hold]; exact hz1))) rfl ?_
  refine Bod.eqI (nI fd0) (by first | assumption | rfl | exact congrArg nI (by omega) | (simp (disch := omega) only [rI, rIe, rA, rIA, rLA, rJA, rVI, rQI, rVA, rQA, upd_at,  rAI, rLI, rJI, nI_add, pk_sub, kc_0, kc_1, kc_2, kc_3, kc_4, kc_5, reduceIte, Nat.reduceEqDiff, Nat.add_zero, rI_hold, rI_hold, rL_hold, hfd0]; done)) ?_
  refine Bod.ic 2 (by decide) dc_410_4 ?_
  refine Bod.icF dc_410_5 rfl (k2_ne_F (k_eq fd0 2 rfl rfl (by omega))) ?_
  refine Bod.go dc_410_8 rfl ?_
  refine Bod.go dc_410_9 rfl ?_
  refine Bod.virt (r := []) dc_410_10 kr_410_716 ⟨Or.inl rfl, ow_403, cl_14⟩ (by rw [np_403]; rfl) (by rw [np_403]; rfl) (ob_of (mk_61 _)) (Nat.le_of_ble_eq_true rfl) (c1  ) ?_
  show Bod _ _ _ _ [_] _ _ _
  refine Bod.ifT dc_410_13 rfl (k1_ne_T (k_ne 1 0 rfl rfl (by omega) (by omega) (by omega))) ?_
  refine Bod.go dc_410_22 rfl ?_
  refine Bod.go dc_410_23 rfl ?_
  refine Bod.get dc_410_24 fr_410_496 (mk_61 _) rfl ?_
  refine Bod.go dc_410_27 rfl ?_
  refine Bod.ialdN i0 rfl (by omega) (by omega) dc_410_28 (mk_91 _) ?_
  refine Bod.eqI (nI e91) (by first | assumption | (simp (disch := omega) only [rI, rIe, rA, rIA, rLA, rJA, rVI, rQI, rVA, rQA, upd_at,  rAI, rLI, rJI, nI_add, pk_sub, kc_0, kc_1, kc_2, kc_3, kc_4, kc_5, reduceIte, Nat.reduceEqDiff, Nat.add_zero, rI_hold, rI_hold, rL_hold, hfd0, he91]; done) | (simp (disch := omega) only [rI, rIe, rA, rIA, rLA, rJA, rVI, rQI, rVA, rQA, upd_at,  rAI, rLI, rJI, nI_add, pk_sub, kc_0, kc_1, kc_2, kc_3, kc_4, kc_5, reduceIte, Nat.reduceEqDiff, Nat.add_zero, rI_hold, rI_hold, rL_hold, hfd0, he91]; exact congrArg nI (by omega))) ?_
  refine Bod.go dc_410_29 rfl ?_
  refine Bod.get dc_410_30 fr_410_499 (mk_61 _) rfl ?_
  refine Bod.go dc_410_33 rfl ?_
  refine Bod.laldN i0 rfl (by omega) (by omega) dc_410_34 (mk_92 _) ?_
  refine Bod.go dc_410_35 rfl ?_
  refine Bod.get dc_410_36 fr_410_496 (mk_61 _) rfl ?_
  refine Bod.go dc_410_39 rfl ?_
  refine Bod.ialdN i0 rfl (by omega) (by omega) dc_410_40 (mk_91 _) ?_
  refine Bod.eqI (nI e91) (by first | assumption | (simp (disch := omega) only [rI, rIe, rA, rIA, rLA, rJA, rVI, rQI, rVA, rQA, upd_at,  rAI, rLI, rJI, nI_add, pk_sub, kc_0, kc_1, kc_2, kc_3, kc_4, kc_5, reduceIte, Nat.reduceEqDiff, Nat.add_zero, rI_hold, rI_hold, rL_hold, hfd0, he91]; done) | (simp (disch := omega) only [rI, rIe, rA, rIA, rLA, rJA, rVI, rQI, rVA, rQA, upd_at,  rAI, rLI, rJI, nI_add, pk_sub, kc_0, kc_1, kc_2, kc_3, kc_4, kc_5, reduceIte, Nat.reduceEqDiff, Nat.add_zero, rI_hold, rI_hold, rL_hold, hfd0, he91]; exact congrArg nI (by omega))) ?_
  refine Bod.ic 1 (by decide) dc_410_41 ?_
  refine Bod.icF dc_410_42 rfl (k2_ne_F (k_eq e91 1 rfl rfl (by omega))) ?_
  refine Bod.go dc_410_45 rfl ?_
  refine Bod.go dc_410_46 rfl ?_
  refine Bod.virt (r := []) dc_410_55 kr_410_764 ⟨Or.inl rfl, ow_399, cl_13⟩ (by rw [np_399]; rfl) (by rw [np_399]; rfl) (ob_of (mk_thing ag (by first | exact hz2 | (simp only [rIS, rJS, rAS, rLS, rVS, rQS, rS_hold]; exact hz2)))) (Nat.le_of_ble_eq_true rfl) (c2  ) ?_
  show Bod _ _ _ _ [_] _ _ _
  refine Bod.istn dc_410_58 (by rw [ml_410]; exact Nat.le_of_ble_eq_true rfl) ?_
  refine Bod.go dc_410_59 rfl ?_
  refine Bod.ifF dc_410_60 rfl (by decide) ?_
  refine Bod.go dc_410_63 rfl ?_
  refine Bod.ic 4 (by decide) dc_410_64 ?_
  refine Bod.virt (r := []) dc_410_65 kr_410_762 ⟨Or.inl rfl, ow_411, cl_14⟩ (by rw [np_411]; rfl) (by rw [np_411]; rfl) (ob_of (mk_61 _)) (Nat.le_of_ble_eq_true rfl) (c3  ) ?_
  show Bod _ _ _ _ [_] _ _ _
  refine Bod.go dc_410_68 rfl ?_
  exact Bod.retI dc_410_72 rt_410
theorem rPq_15 {d : Nat} {S : cS} {g : Nat} {zg : Nat} {i0 : Nat} {fd0 : Nat} {S1 : cS} {S2 : cS} {a : Nat} (mi0 : i0 < 2 ^ 20) (ag : 108 ≤ g) (hz1 : (sS S)[g - 108]? = some (13, zg)) (hfd0 : sI S (100 * g + 0) = nI fd0) (mfd0 : fd0 < 2 ^ 20) (b1 : fd0 = 2) (c1 : Ans (d + 8) 403 [.ref 61, .int (nI i0)] S (some (.int (nI 0))) S1) (ma : a < 2 ^ 20) (c2 : Ans (d + 8) 411 [.ref 61, .int (nI 2)] S1 (some (.int (nI a))) S2) : Bod (d + 8) 410 0 [(0, .ref 61), (1, .ref g), (2, .int (nI i0))] [] S (some (.int (nI a))) (S2) := by
  refine Bod.go dc_410_0 rfl ?_
  refine Bod.get dc_410_1 fr_410_531 (mk_thing ag (by first | exact hz1 | (simp only [rIS, rJS, rAS, rLS, rVS, rQS, rS_hold]; exact hz1))) rfl ?_
  refine Bod.eqI (nI fd0) (by first | assumption | rfl | exact congrArg nI (by omega) | (simp (disch := omega) only [rI, rIe, rA, rIA, rLA, rJA, rVI, rQI, rVA, rQA, upd_at,  rAI, rLI, rJI, nI_add, pk_sub, kc_0, kc_1, kc_2, kc_3, kc_4, kc_5, reduceIte, Nat.reduceEqDiff, Nat.add_zero, rI_hold, rI_hold, rL_hold, hfd0]; done)) ?_
  refine Bod.ic 2 (by decide) dc_410_4 ?_
  refine Bod.icF dc_410_5 rfl (k2_ne_F (k_eq fd0 2 rfl rfl (by omega))) ?_
  refine Bod.go dc_410_8 rfl ?_
  refine Bod.go dc_410_9 rfl ?_
  refine Bod.virt (r := []) dc_410_10 kr_410_716 ⟨Or.inl rfl, ow_403, cl_14⟩ (by rw [np_403]; rfl) (by rw [np_403]; rfl) (ob_of (mk_61 _)) (Nat.le_of_ble_eq_true rfl) (c1  ) ?_
  show Bod _ _ _ _ [_] _ _ _
  refine Bod.ifF dc_410_13 rfl (k1_ne_F (k_eq 0 0 rfl rfl (by omega))) ?_
  refine Bod.go dc_410_16 rfl ?_
  refine Bod.ic 2 (by decide) dc_410_17 ?_
  refine Bod.virt (r := []) dc_410_18 kr_410_762 ⟨Or.inl rfl, ow_411, cl_14⟩ (by rw [np_411]; rfl) (by rw [np_411]; rfl) (ob_of (mk_61 _)) (Nat.le_of_ble_eq_true rfl) (c2  ) ?_
  show Bod _ _ _ _ [_] _ _ _
  exact Bod.retI dc_410_21 rt_410
theorem rPq_16 {d : Nat} {S : cS} {g : Nat} {zg : Nat} {i0 : Nat} {fd0 : Nat} {S1 : cS} {S2 : cS} (mi0 : i0 < 2 ^ 20) (ag : 108 ≤ g) (hz1 : (sS S)[g - 108]? = some (13, zg)) (hfd0 : sI S (100 * g + 0) = nI fd0) (mfd0 : fd0 < 2 ^ 20) (b1 : fd0 = 2) (c1 : Ans (d + 8) 403 [.ref 61, .int (nI i0)] S (some (.int (nI 0))) S1) (c2 : Ans (d + 8) 411 [.ref 61, .int (nI 2)] S1 (some (.int (Int32.ofInt (-1)))) S2) : Bod (d + 8) 410 0 [(0, .ref 61), (1, .ref g), (2, .int (nI i0))] [] S (some (.int (Int32.ofInt (-1)))) (S2) := by
  refine Bod.go dc_410_0 rfl ?_
  refine Bod.get dc_410_1 fr_410_531 (mk_thing ag (by first | exact hz1 | (simp only [rIS, rJS, rAS, rLS, rVS, rQS, rS_hold]; exact hz1))) rfl ?_
  refine Bod.eqI (nI fd0) (by first | assumption | rfl | exact congrArg nI (by omega) | (simp (disch := omega) only [rI, rIe, rA, rIA, rLA, rJA, rVI, rQI, rVA, rQA, upd_at,  rAI, rLI, rJI, nI_add, pk_sub, kc_0, kc_1, kc_2, kc_3, kc_4, kc_5, reduceIte, Nat.reduceEqDiff, Nat.add_zero, rI_hold, rI_hold, rL_hold, hfd0]; done)) ?_
  refine Bod.ic 2 (by decide) dc_410_4 ?_
  refine Bod.icF dc_410_5 rfl (k2_ne_F (k_eq fd0 2 rfl rfl (by omega))) ?_
  refine Bod.go dc_410_8 rfl ?_
  refine Bod.go dc_410_9 rfl ?_
  refine Bod.virt (r := []) dc_410_10 kr_410_716 ⟨Or.inl rfl, ow_403, cl_14⟩ (by rw [np_403]; rfl) (by rw [np_403]; rfl) (ob_of (mk_61 _)) (Nat.le_of_ble_eq_true rfl) (c1  ) ?_
  show Bod _ _ _ _ [_] _ _ _
  refine Bod.ifF dc_410_13 rfl (k1_ne_F (k_eq 0 0 rfl rfl (by omega))) ?_
  refine Bod.go dc_410_16 rfl ?_
  refine Bod.ic 2 (by decide) dc_410_17 ?_
  refine Bod.virt (r := []) dc_410_18 kr_410_762 ⟨Or.inl rfl, ow_411, cl_14⟩ (by rw [np_411]; rfl) (by rw [np_411]; rfl) (ob_of (mk_61 _)) (Nat.le_of_ble_eq_true rfl) (c2  ) ?_
  show Bod _ _ _ _ [_] _ _ _
  exact Bod.retI dc_410_21 rt_410
