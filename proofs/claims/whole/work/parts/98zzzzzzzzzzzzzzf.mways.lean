/-! WAYS of the class's machine: every call is a hypothesis -/

theorem mMj_1 {d : Nat} {S : cS} {id : Nat} {gv : Nat} {S1 : cS} {rb : Int32} {S2 : cS} {S3 : cS} {S4 : cS} {u : Int64} {S5 : cS} {u1 : Int64} {S6 : cS} {a : Nat} {S7 : cS} {rb1 : Int32} {S8 : cS} {u2 : Int64} {S9 : cS} {u3 : Int64} {S10 : cS} {rb2 : Int32} {S11 : cS} {a1 : Nat} {S12 : cS} (mid : id < 2 ^ 20) (mgv : gv < 2 ^ 20) (c1 : Ans (d + 8) 178 [.ref 2, .int (nI 5)] S (some (.int rb)) S1) (w4 : sm_c1 .ne rb true false = true) (c2 : Ans (d + 8) 149 [.ref 2, .ref 6, .int rb] S1 none S2) (c3 : Ans (d + 8) 179 [.ref 2, .int rb, .int (nI 0), .int (nI id), .int (nI 0)] S2 none S3) (c4 : Ans (d + 8) 181 [.ref 16, .int (nI 34)] S3 (some (.long u)) S4) (c5 : Ans (d + 8) 182 [.ref 16, .int (nI 34)] S4 (some (.long u1)) S5) (ma : a < 2 ^ 20) (c6 : Ans (d + 8) 220 [.ref 2, .int (nI id), .long u, .long u1] S5 (some (.int (nI a))) S6) (c7 : Ans (d + 8) 206 [.ref 2, .int (nI a), .long u, .long u1] S6 (some (.int rb1)) S7) (c8 : Ans (d + 8) 156 [.ref 2, .int (nI a), .int rb1] S7 (some (.long u2)) S8) (c9 : Ans (d + 8) 158 [.ref 2, .int (nI a), .int rb1] S8 (some (.long u3)) S9) (c10 : Ans (d + 8) 137 [.long u2, .long u3] S9 (some (.int rb2)) S10) (ma1 : a1 < 2 ^ 20) (c11 : Ans (d + 8) 138 [.ref 2, .int rb2] S10 (some (.int (nI a1))) S11) (b1 : a1 ≠ 3) (b2 : gv ≠ 0) (c12 : Ans (d + 8) 142 [.ref 2, .ref 6, .int rb] S11 none S12) : Bod (d + 8) 265 0 [(0, .ref 52), (1, .int (nI id)), (2, .int (nI gv))] [] S (some (.int (nI 2))) (S12) := by
  refine Bod.go dc_265_0 rfl ?_
  refine Bod.get dc_265_1 fr_265_15 (mk_52 _) rfl ?_
  refine Bod.ic 5 (by decide) dc_265_4 ?_
  refine Bod.virt (r := []) dc_265_5 kr_265_263 ⟨Or.inr rfl, ow_178, cl_2⟩ (by rw [np_178]; rfl) (by rw [np_178]; rfl) (ob_of (mk_2 _)) (Nat.le_of_ble_eq_true rfl) (c1  ) ?_
  show Bod _ _ _ _ [_] _ _ _
  refine Bod.istn dc_265_8 (by rw [ml_265]; exact Nat.le_of_ble_eq_true rfl) ?_
  refine Bod.go dc_265_9 rfl ?_
  refine Bod.ifT dc_265_10 rfl w4 ?_
  refine Bod.go dc_265_16 rfl ?_
  refine Bod.get dc_265_17 fr_265_15 (mk_52 _) rfl ?_
  refine Bod.go dc_265_20 rfl ?_
  refine Bod.get dc_265_21 fr_265_15 (mk_52 _) rfl ?_
  refine Bod.get dc_265_24 fr_265_156 (mk_2 _) rfl ?_
  refine Bod.go dc_265_27 rfl ?_
  refine Bod.virt (r := []) dc_265_28 kr_265_301 ⟨Or.inr rfl, ow_149, cl_2⟩ (by rw [np_149]; rfl) (by rw [np_149]; rfl) (ob_of (mk_2 _)) (Nat.le_of_ble_eq_true rfl) (c2  ) ?_
  show Bod _ _ _ _ [] _ _ _
  refine Bod.go dc_265_31 rfl ?_
  refine Bod.get dc_265_32 fr_265_15 (mk_52 _) rfl ?_
  refine Bod.go dc_265_35 rfl ?_
  refine Bod.ic 0 (by decide) dc_265_36 ?_
  refine Bod.go dc_265_37 rfl ?_
  refine Bod.ic 0 (by decide) dc_265_38 ?_
  refine Bod.virt (r := []) dc_265_39 kr_265_266 ⟨Or.inr rfl, ow_179, cl_2⟩ (by rw [np_179]; rfl) (by rw [np_179]; rfl) (ob_of (mk_2 _)) (Nat.le_of_ble_eq_true rfl) (c3  ) ?_
  show Bod _ _ _ _ [] _ _ _
  refine Bod.go dc_265_42 rfl ?_
  refine Bod.get dc_265_43 fr_265_19 (mk_52 _) rfl ?_
  refine Bod.bip 34 (by decide) dc_265_46 ?_
  refine Bod.virt (r := []) dc_265_48 kr_265_272 ⟨Or.inr rfl, ow_181, cl_5⟩ (by rw [np_181]; rfl) (by rw [np_181]; rfl) (ob_of (mk_16 _)) (Nat.le_of_ble_eq_true rfl) (c4  ) ?_
  show Bod _ _ _ _ [_] _ _ _
  refine Bod.lst dc_265_51 (by rw [ml_265]; exact Nat.le_of_ble_eq_true rfl) ?_
  refine Bod.go dc_265_53 rfl ?_
  refine Bod.get dc_265_54 fr_265_19 (mk_52 _) rfl ?_
  refine Bod.bip 34 (by decide) dc_265_57 ?_
  refine Bod.virt (r := []) dc_265_59 kr_265_275 ⟨Or.inr rfl, ow_182, cl_5⟩ (by rw [np_182]; rfl) (by rw [np_182]; rfl) (ob_of (mk_16 _)) (Nat.le_of_ble_eq_true rfl) (c5  ) ?_
  show Bod _ _ _ _ [_] _ _ _
  refine Bod.lst dc_265_62 (by rw [ml_265]; exact Nat.le_of_ble_eq_true rfl) ?_
  refine Bod.go dc_265_64 rfl ?_
  refine Bod.get dc_265_65 fr_265_15 (mk_52 _) rfl ?_
  refine Bod.go dc_265_68 rfl ?_
  refine Bod.go dc_265_69 rfl ?_
  refine Bod.go dc_265_71 rfl ?_
  refine Bod.virt (r := []) dc_265_73 kr_265_304 ⟨Or.inr rfl, ow_220, cl_2⟩ (by rw [np_220]; rfl) (by rw [np_220]; rfl) (ob_of (mk_2 _)) (Nat.le_of_ble_eq_true rfl) (c6  ) ?_
  show Bod _ _ _ _ [_] _ _ _
  refine Bod.ist dc_265_76 (by rw [ml_265]; exact Nat.le_of_ble_eq_true rfl) ?_
  refine Bod.go dc_265_78 rfl ?_
  refine Bod.get dc_265_79 fr_265_15 (mk_52 _) rfl ?_
  refine Bod.go dc_265_82 rfl ?_
  refine Bod.go dc_265_84 rfl ?_
  refine Bod.go dc_265_86 rfl ?_
  refine Bod.virt (r := []) dc_265_88 kr_265_307 ⟨Or.inr rfl, ow_206, cl_2⟩ (by rw [np_206]; rfl) (by rw [np_206]; rfl) (ob_of (mk_2 _)) (Nat.le_of_ble_eq_true rfl) (c7  ) ?_
  show Bod _ _ _ _ [_] _ _ _
  refine Bod.ist dc_265_91 (by rw [ml_265]; exact Nat.le_of_ble_eq_true rfl) ?_
  refine Bod.go dc_265_93 rfl ?_
  refine Bod.get dc_265_94 fr_265_15 (mk_52 _) rfl ?_
  refine Bod.go dc_265_97 rfl ?_
  refine Bod.go dc_265_99 rfl ?_
  refine Bod.virt (r := []) dc_265_101 kr_265_200 ⟨Or.inr rfl, ow_156, cl_2⟩ (by rw [np_156]; rfl) (by rw [np_156]; rfl) (ob_of (mk_2 _)) (Nat.le_of_ble_eq_true rfl) (c8  ) ?_
  show Bod _ _ _ _ [_] _ _ _
  refine Bod.go dc_265_104 rfl ?_
  refine Bod.get dc_265_105 fr_265_15 (mk_52 _) rfl ?_
  refine Bod.go dc_265_108 rfl ?_
  refine Bod.go dc_265_110 rfl ?_
  refine Bod.virt (r := [_]) dc_265_112 kr_265_204 ⟨Or.inr rfl, ow_158, cl_2⟩ (by rw [np_158]; rfl) (by rw [np_158]; rfl) (ob_of (mk_2 _)) (Nat.le_of_ble_eq_true rfl) (c9  ) ?_
  show Bod _ _ _ _ [_, _] _ _ _
  refine Bod.stat (r := []) dc_265_115 kr_265_310 (Or.inr rfl) (by rw [np_137]; rfl) (by rw [np_137]; rfl) (by rw [np_137]; exact Nat.le_of_ble_eq_true rfl) (Nat.le_of_ble_eq_true rfl) (c10  ) ?_
  show Bod _ _ _ _ [_] _ _ _
  refine Bod.ist dc_265_118 (by rw [ml_265]; exact Nat.le_of_ble_eq_true rfl) ?_
  refine Bod.ic 2 (by decide) dc_265_120 ?_
  refine Bod.ist dc_265_121 (by rw [ml_265]; exact Nat.le_of_ble_eq_true rfl) ?_
  refine Bod.go dc_265_123 rfl ?_
  refine Bod.get dc_265_124 fr_265_15 (mk_52 _) rfl ?_
  refine Bod.go dc_265_127 rfl ?_
  refine Bod.virt (r := []) dc_265_129 kr_265_288 ⟨Or.inr rfl, ow_138, cl_2⟩ (by rw [np_138]; rfl) (by rw [np_138]; rfl) (ob_of (mk_2 _)) (Nat.le_of_ble_eq_true rfl) (c11  ) ?_
  show Bod _ _ _ _ [_] _ _ _
  refine Bod.ic 3 (by decide) dc_265_132 ?_
  refine Bod.icT dc_265_133 rfl (k2_ne_T (k_ne a1 3 rfl rfl (by omega) (by omega) (by omega))) ?_
  refine Bod.go dc_265_154 rfl ?_
  refine Bod.ifT dc_265_155 rfl (k1_ne_T (k_ne gv 0 rfl rfl (by omega) (by omega) (by omega))) ?_
  refine Bod.go dc_265_173 rfl ?_
  refine Bod.get dc_265_174 fr_265_15 (mk_52 _) rfl ?_
  refine Bod.go dc_265_177 rfl ?_
  refine Bod.get dc_265_178 fr_265_15 (mk_52 _) rfl ?_
  refine Bod.get dc_265_181 fr_265_156 (mk_2 _) rfl ?_
  refine Bod.go dc_265_184 rfl ?_
  refine Bod.virt (r := []) dc_265_185 kr_265_161 ⟨Or.inr rfl, ow_142, cl_2⟩ (by rw [np_142]; rfl) (by rw [np_142]; rfl) (ob_of (mk_2 _)) (Nat.le_of_ble_eq_true rfl) (c12  ) ?_
  show Bod _ _ _ _ [] _ _ _
  refine Bod.go dc_265_188 rfl ?_
  exact Bod.retI dc_265_190 rt_265
theorem mMj_2 {d : Nat} {S : cS} {id : Nat} {gv : Nat} {S1 : cS} {rb : Int32} {S2 : cS} {S3 : cS} {S4 : cS} {u : Int64} {S5 : cS} {u1 : Int64} {S6 : cS} {a : Nat} {S7 : cS} {rb1 : Int32} {S8 : cS} {u2 : Int64} {S9 : cS} {u3 : Int64} {S10 : cS} {rb2 : Int32} {S11 : cS} {a1 : Nat} {S12 : cS} {a2 : Nat} {S13 : cS} (mid : id < 2 ^ 20) (mgv : gv < 2 ^ 20) (c1 : Ans (d + 8) 178 [.ref 2, .int (nI 5)] S (some (.int rb)) S1) (w4 : sm_c1 .ne rb true false = true) (c2 : Ans (d + 8) 149 [.ref 2, .ref 6, .int rb] S1 none S2) (c3 : Ans (d + 8) 179 [.ref 2, .int rb, .int (nI 0), .int (nI id), .int (nI 0)] S2 none S3) (c4 : Ans (d + 8) 181 [.ref 16, .int (nI 34)] S3 (some (.long u)) S4) (c5 : Ans (d + 8) 182 [.ref 16, .int (nI 34)] S4 (some (.long u1)) S5) (ma : a < 2 ^ 20) (c6 : Ans (d + 8) 220 [.ref 2, .int (nI id), .long u, .long u1] S5 (some (.int (nI a))) S6) (c7 : Ans (d + 8) 206 [.ref 2, .int (nI a), .long u, .long u1] S6 (some (.int rb1)) S7) (c8 : Ans (d + 8) 156 [.ref 2, .int (nI a), .int rb1] S7 (some (.long u2)) S8) (c9 : Ans (d + 8) 158 [.ref 2, .int (nI a), .int rb1] S8 (some (.long u3)) S9) (c10 : Ans (d + 8) 137 [.long u2, .long u3] S9 (some (.int rb2)) S10) (ma1 : a1 < 2 ^ 20) (c11 : Ans (d + 8) 138 [.ref 2, .int rb2] S10 (some (.int (nI a1))) S11) (b1 : a1 ≠ 3) (b2 : gv = 0) (ma2 : a2 < 2 ^ 20) (c12 : Ans (d + 8) 148 [.ref 46, .int (nI 1), .long ((4611686018427387904)), .long rb.toInt64] S11 (some (.int (nI a2))) S12) (c13 : Ans (d + 8) 142 [.ref 2, .ref 6, .int rb] S12 none S13) : Bod (d + 8) 265 0 [(0, .ref 52), (1, .int (nI id)), (2, .int (nI gv))] [] S (some (.int (nI a2))) (S13) := by
  refine Bod.go dc_265_0 rfl ?_
  refine Bod.get dc_265_1 fr_265_15 (mk_52 _) rfl ?_
  refine Bod.ic 5 (by decide) dc_265_4 ?_
  refine Bod.virt (r := []) dc_265_5 kr_265_263 ⟨Or.inr rfl, ow_178, cl_2⟩ (by rw [np_178]; rfl) (by rw [np_178]; rfl) (ob_of (mk_2 _)) (Nat.le_of_ble_eq_true rfl) (c1  ) ?_
  show Bod _ _ _ _ [_] _ _ _
  refine Bod.istn dc_265_8 (by rw [ml_265]; exact Nat.le_of_ble_eq_true rfl) ?_
  refine Bod.go dc_265_9 rfl ?_
  refine Bod.ifT dc_265_10 rfl w4 ?_
  refine Bod.go dc_265_16 rfl ?_
  refine Bod.get dc_265_17 fr_265_15 (mk_52 _) rfl ?_
  refine Bod.go dc_265_20 rfl ?_
  refine Bod.get dc_265_21 fr_265_15 (mk_52 _) rfl ?_
  refine Bod.get dc_265_24 fr_265_156 (mk_2 _) rfl ?_
  refine Bod.go dc_265_27 rfl ?_
  refine Bod.virt (r := []) dc_265_28 kr_265_301 ⟨Or.inr rfl, ow_149, cl_2⟩ (by rw [np_149]; rfl) (by rw [np_149]; rfl) (ob_of (mk_2 _)) (Nat.le_of_ble_eq_true rfl) (c2  ) ?_
  show Bod _ _ _ _ [] _ _ _
  refine Bod.go dc_265_31 rfl ?_
  refine Bod.get dc_265_32 fr_265_15 (mk_52 _) rfl ?_
  refine Bod.go dc_265_35 rfl ?_
  refine Bod.ic 0 (by decide) dc_265_36 ?_
  refine Bod.go dc_265_37 rfl ?_
  refine Bod.ic 0 (by decide) dc_265_38 ?_
  refine Bod.virt (r := []) dc_265_39 kr_265_266 ⟨Or.inr rfl, ow_179, cl_2⟩ (by rw [np_179]; rfl) (by rw [np_179]; rfl) (ob_of (mk_2 _)) (Nat.le_of_ble_eq_true rfl) (c3  ) ?_
  show Bod _ _ _ _ [] _ _ _
  refine Bod.go dc_265_42 rfl ?_
  refine Bod.get dc_265_43 fr_265_19 (mk_52 _) rfl ?_
  refine Bod.bip 34 (by decide) dc_265_46 ?_
  refine Bod.virt (r := []) dc_265_48 kr_265_272 ⟨Or.inr rfl, ow_181, cl_5⟩ (by rw [np_181]; rfl) (by rw [np_181]; rfl) (ob_of (mk_16 _)) (Nat.le_of_ble_eq_true rfl) (c4  ) ?_
  show Bod _ _ _ _ [_] _ _ _
  refine Bod.lst dc_265_51 (by rw [ml_265]; exact Nat.le_of_ble_eq_true rfl) ?_
  refine Bod.go dc_265_53 rfl ?_
  refine Bod.get dc_265_54 fr_265_19 (mk_52 _) rfl ?_
  refine Bod.bip 34 (by decide) dc_265_57 ?_
  refine Bod.virt (r := []) dc_265_59 kr_265_275 ⟨Or.inr rfl, ow_182, cl_5⟩ (by rw [np_182]; rfl) (by rw [np_182]; rfl) (ob_of (mk_16 _)) (Nat.le_of_ble_eq_true rfl) (c5  ) ?_
  show Bod _ _ _ _ [_] _ _ _
  refine Bod.lst dc_265_62 (by rw [ml_265]; exact Nat.le_of_ble_eq_true rfl) ?_
  refine Bod.go dc_265_64 rfl ?_
  refine Bod.get dc_265_65 fr_265_15 (mk_52 _) rfl ?_
  refine Bod.go dc_265_68 rfl ?_
  refine Bod.go dc_265_69 rfl ?_
  refine Bod.go dc_265_71 rfl ?_
  refine Bod.virt (r := []) dc_265_73 kr_265_304 ⟨Or.inr rfl, ow_220, cl_2⟩ (by rw [np_220]; rfl) (by rw [np_220]; rfl) (ob_of (mk_2 _)) (Nat.le_of_ble_eq_true rfl) (c6  ) ?_
  show Bod _ _ _ _ [_] _ _ _
  refine Bod.ist dc_265_76 (by rw [ml_265]; exact Nat.le_of_ble_eq_true rfl) ?_
  refine Bod.go dc_265_78 rfl ?_
  refine Bod.get dc_265_79 fr_265_15 (mk_52 _) rfl ?_
  refine Bod.go dc_265_82 rfl ?_
  refine Bod.go dc_265_84 rfl ?_
  refine Bod.go dc_265_86 rfl ?_
  refine Bod.virt (r := []) dc_265_88 kr_265_307 ⟨Or.inr rfl, ow_206, cl_2⟩ (by rw [np_206]; rfl) (by rw [np_206]; rfl) (ob_of (mk_2 _)) (Nat.le_of_ble_eq_true rfl) (c7  ) ?_
  show Bod _ _ _ _ [_] _ _ _
  refine Bod.ist dc_265_91 (by rw [ml_265]; exact Nat.le_of_ble_eq_true rfl) ?_
  refine Bod.go dc_265_93 rfl ?_
  refine Bod.get dc_265_94 fr_265_15 (mk_52 _) rfl ?_
  refine Bod.go dc_265_97 rfl ?_
  refine Bod.go dc_265_99 rfl ?_
  refine Bod.virt (r := []) dc_265_101 kr_265_200 ⟨Or.inr rfl, ow_156, cl_2⟩ (by rw [np_156]; rfl) (by rw [np_156]; rfl) (ob_of (mk_2 _)) (Nat.le_of_ble_eq_true rfl) (c8  ) ?_
  show Bod _ _ _ _ [_] _ _ _
  refine Bod.go dc_265_104 rfl ?_
  refine Bod.get dc_265_105 fr_265_15 (mk_52 _) rfl ?_
  refine Bod.go dc_265_108 rfl ?_
  refine Bod.go dc_265_110 rfl ?_
  refine Bod.virt (r := [_]) dc_265_112 kr_265_204 ⟨Or.inr rfl, ow_158, cl_2⟩ (by rw [np_158]; rfl) (by rw [np_158]; rfl) (ob_of (mk_2 _)) (Nat.le_of_ble_eq_true rfl) (c9  ) ?_
  show Bod _ _ _ _ [_, _] _ _ _
  refine Bod.stat (r := []) dc_265_115 kr_265_310 (Or.inr rfl) (by rw [np_137]; rfl) (by rw [np_137]; rfl) (by rw [np_137]; exact Nat.le_of_ble_eq_true rfl) (Nat.le_of_ble_eq_true rfl) (c10  ) ?_
  show Bod _ _ _ _ [_] _ _ _
  refine Bod.ist dc_265_118 (by rw [ml_265]; exact Nat.le_of_ble_eq_true rfl) ?_
  refine Bod.ic 2 (by decide) dc_265_120 ?_
  refine Bod.ist dc_265_121 (by rw [ml_265]; exact Nat.le_of_ble_eq_true rfl) ?_
  refine Bod.go dc_265_123 rfl ?_
  refine Bod.get dc_265_124 fr_265_15 (mk_52 _) rfl ?_
  refine Bod.go dc_265_127 rfl ?_
  refine Bod.virt (r := []) dc_265_129 kr_265_288 ⟨Or.inr rfl, ow_138, cl_2⟩ (by rw [np_138]; rfl) (by rw [np_138]; rfl) (ob_of (mk_2 _)) (Nat.le_of_ble_eq_true rfl) (c11  ) ?_
  show Bod _ _ _ _ [_] _ _ _
  refine Bod.ic 3 (by decide) dc_265_132 ?_
  refine Bod.icT dc_265_133 rfl (k2_ne_T (k_ne a1 3 rfl rfl (by omega) (by omega) (by omega))) ?_
  refine Bod.go dc_265_154 rfl ?_
  refine Bod.ifF dc_265_155 rfl (k1_ne_F (k_eq gv 0 rfl rfl (by omega))) ?_
  refine Bod.go dc_265_158 rfl ?_
  refine Bod.get dc_265_159 fr_265_23 (mk_52 _) rfl ?_
  refine Bod.ic 1 (by decide) dc_265_162 ?_
  refine Bod.ldc2 dc_265_163 cj_265_270 ?_
  refine Bod.go dc_265_166 rfl ?_
  refine Bod.go dc_265_167 rfl ?_
  refine Bod.virt (r := []) dc_265_168 kr_265_282 ⟨Or.inr rfl, ow_148, cl_9⟩ (by rw [np_148]; rfl) (by rw [np_148]; rfl) (ob_of (mk_46 _)) (Nat.le_of_ble_eq_true rfl) (c12  ) ?_
  show Bod _ _ _ _ [_] _ _ _
  refine Bod.ist dc_265_171 (by rw [ml_265]; exact Nat.le_of_ble_eq_true rfl) ?_
  refine Bod.go dc_265_173 rfl ?_
  refine Bod.get dc_265_174 fr_265_15 (mk_52 _) rfl ?_
  refine Bod.go dc_265_177 rfl ?_
  refine Bod.get dc_265_178 fr_265_15 (mk_52 _) rfl ?_
  refine Bod.get dc_265_181 fr_265_156 (mk_2 _) rfl ?_
  refine Bod.go dc_265_184 rfl ?_
  refine Bod.virt (r := []) dc_265_185 kr_265_161 ⟨Or.inr rfl, ow_142, cl_2⟩ (by rw [np_142]; rfl) (by rw [np_142]; rfl) (ob_of (mk_2 _)) (Nat.le_of_ble_eq_true rfl) (c13  ) ?_
  show Bod _ _ _ _ [] _ _ _
  refine Bod.go dc_265_188 rfl ?_
  exact Bod.retI dc_265_190 rt_265
theorem mMj_3 {d : Nat} {S : cS} {id : Nat} {gv : Nat} {S1 : cS} {rb : Int32} {S2 : cS} {S3 : cS} {S4 : cS} {u : Int64} {S5 : cS} {u1 : Int64} {S6 : cS} {a : Nat} {S7 : cS} {rb1 : Int32} {S8 : cS} {u2 : Int64} {S9 : cS} {u3 : Int64} {S10 : cS} {rb2 : Int32} {S11 : cS} {a1 : Nat} {S12 : cS} {rb3 : Int32} {S13 : cS} (mid : id < 2 ^ 20) (mgv : gv < 2 ^ 20) (c1 : Ans (d + 8) 178 [.ref 2, .int (nI 5)] S (some (.int rb)) S1) (w4 : sm_c1 .ne rb true false = true) (c2 : Ans (d + 8) 149 [.ref 2, .ref 6, .int rb] S1 none S2) (c3 : Ans (d + 8) 179 [.ref 2, .int rb, .int (nI 0), .int (nI id), .int (nI 0)] S2 none S3) (c4 : Ans (d + 8) 181 [.ref 16, .int (nI 34)] S3 (some (.long u)) S4) (c5 : Ans (d + 8) 182 [.ref 16, .int (nI 34)] S4 (some (.long u1)) S5) (ma : a < 2 ^ 20) (c6 : Ans (d + 8) 220 [.ref 2, .int (nI id), .long u, .long u1] S5 (some (.int (nI a))) S6) (c7 : Ans (d + 8) 206 [.ref 2, .int (nI a), .long u, .long u1] S6 (some (.int rb1)) S7) (c8 : Ans (d + 8) 156 [.ref 2, .int (nI a), .int rb1] S7 (some (.long u2)) S8) (c9 : Ans (d + 8) 158 [.ref 2, .int (nI a), .int rb1] S8 (some (.long u3)) S9) (c10 : Ans (d + 8) 137 [.long u2, .long u3] S9 (some (.int rb2)) S10) (ma1 : a1 < 2 ^ 20) (c11 : Ans (d + 8) 138 [.ref 2, .int rb2] S10 (some (.int (nI a1))) S11) (b1 : a1 = 3) (c12 : Ans (d + 8) 254 [.ref 52, .int rb2, .int (nI gv), .int rb, .int rb] S11 (some (.int rb3)) S12) (w19 : sm_c1 .ne rb3 true false = true) (c13 : Ans (d + 8) 142 [.ref 2, .ref 6, .int rb] S12 none S13) : Bod (d + 8) 265 0 [(0, .ref 52), (1, .int (nI id)), (2, .int (nI gv))] [] S (some (.int rb3)) (S13) := by
  refine Bod.go dc_265_0 rfl ?_
  refine Bod.get dc_265_1 fr_265_15 (mk_52 _) rfl ?_
  refine Bod.ic 5 (by decide) dc_265_4 ?_
  refine Bod.virt (r := []) dc_265_5 kr_265_263 ⟨Or.inr rfl, ow_178, cl_2⟩ (by rw [np_178]; rfl) (by rw [np_178]; rfl) (ob_of (mk_2 _)) (Nat.le_of_ble_eq_true rfl) (c1  ) ?_
  show Bod _ _ _ _ [_] _ _ _
  refine Bod.istn dc_265_8 (by rw [ml_265]; exact Nat.le_of_ble_eq_true rfl) ?_
  refine Bod.go dc_265_9 rfl ?_
  refine Bod.ifT dc_265_10 rfl w4 ?_
  refine Bod.go dc_265_16 rfl ?_
  refine Bod.get dc_265_17 fr_265_15 (mk_52 _) rfl ?_
  refine Bod.go dc_265_20 rfl ?_
  refine Bod.get dc_265_21 fr_265_15 (mk_52 _) rfl ?_
  refine Bod.get dc_265_24 fr_265_156 (mk_2 _) rfl ?_
  refine Bod.go dc_265_27 rfl ?_
  refine Bod.virt (r := []) dc_265_28 kr_265_301 ⟨Or.inr rfl, ow_149, cl_2⟩ (by rw [np_149]; rfl) (by rw [np_149]; rfl) (ob_of (mk_2 _)) (Nat.le_of_ble_eq_true rfl) (c2  ) ?_
  show Bod _ _ _ _ [] _ _ _
  refine Bod.go dc_265_31 rfl ?_
  refine Bod.get dc_265_32 fr_265_15 (mk_52 _) rfl ?_
  refine Bod.go dc_265_35 rfl ?_
  refine Bod.ic 0 (by decide) dc_265_36 ?_
  refine Bod.go dc_265_37 rfl ?_
  refine Bod.ic 0 (by decide) dc_265_38 ?_
  refine Bod.virt (r := []) dc_265_39 kr_265_266 ⟨Or.inr rfl, ow_179, cl_2⟩ (by rw [np_179]; rfl) (by rw [np_179]; rfl) (ob_of (mk_2 _)) (Nat.le_of_ble_eq_true rfl) (c3  ) ?_
  show Bod _ _ _ _ [] _ _ _
  refine Bod.go dc_265_42 rfl ?_
  refine Bod.get dc_265_43 fr_265_19 (mk_52 _) rfl ?_
  refine Bod.bip 34 (by decide) dc_265_46 ?_
  refine Bod.virt (r := []) dc_265_48 kr_265_272 ⟨Or.inr rfl, ow_181, cl_5⟩ (by rw [np_181]; rfl) (by rw [np_181]; rfl) (ob_of (mk_16 _)) (Nat.le_of_ble_eq_true rfl) (c4  ) ?_
  show Bod _ _ _ _ [_] _ _ _
  refine Bod.lst dc_265_51 (by rw [ml_265]; exact Nat.le_of_ble_eq_true rfl) ?_
  refine Bod.go dc_265_53 rfl ?_
  refine Bod.get dc_265_54 fr_265_19 (mk_52 _) rfl ?_
  refine Bod.bip 34 (by decide) dc_265_57 ?_
  refine Bod.virt (r := []) dc_265_59 kr_265_275 ⟨Or.inr rfl, ow_182, cl_5⟩ (by rw [np_182]; rfl) (by rw [np_182]; rfl) (ob_of (mk_16 _)) (Nat.le_of_ble_eq_true rfl) (c5  ) ?_
  show Bod _ _ _ _ [_] _ _ _
  refine Bod.lst dc_265_62 (by rw [ml_265]; exact Nat.le_of_ble_eq_true rfl) ?_
  refine Bod.go dc_265_64 rfl ?_
  refine Bod.get dc_265_65 fr_265_15 (mk_52 _) rfl ?_
  refine Bod.go dc_265_68 rfl ?_
  refine Bod.go dc_265_69 rfl ?_
  refine Bod.go dc_265_71 rfl ?_
  refine Bod.virt (r := []) dc_265_73 kr_265_304 ⟨Or.inr rfl, ow_220, cl_2⟩ (by rw [np_220]; rfl) (by rw [np_220]; rfl) (ob_of (mk_2 _)) (Nat.le_of_ble_eq_true rfl) (c6  ) ?_
  show Bod _ _ _ _ [_] _ _ _
  refine Bod.ist dc_265_76 (by rw [ml_265]; exact Nat.le_of_ble_eq_true rfl) ?_
  refine Bod.go dc_265_78 rfl ?_
  refine Bod.get dc_265_79 fr_265_15 (mk_52 _) rfl ?_
  refine Bod.go dc_265_82 rfl ?_
  refine Bod.go dc_265_84 rfl ?_
  refine Bod.go dc_265_86 rfl ?_
  refine Bod.virt (r := []) dc_265_88 kr_265_307 ⟨Or.inr rfl, ow_206, cl_2⟩ (by rw [np_206]; rfl) (by rw [np_206]; rfl) (ob_of (mk_2 _)) (Nat.le_of_ble_eq_true rfl) (c7  ) ?_
  show Bod _ _ _ _ [_] _ _ _
  refine Bod.ist dc_265_91 (by rw [ml_265]; exact Nat.le_of_ble_eq_true rfl) ?_
  refine Bod.go dc_265_93 rfl ?_
  refine Bod.get dc_265_94 fr_265_15 (mk_52 _) rfl ?_
  refine Bod.go dc_265_97 rfl ?_
  refine Bod.go dc_265_99 rfl ?_
  refine Bod.virt (r := []) dc_265_101 kr_265_200 ⟨Or.inr rfl, ow_156, cl_2⟩ (by rw [np_156]; rfl) (by rw [np_156]; rfl) (ob_of (mk_2 _)) (Nat.le_of_ble_eq_true rfl) (c8  ) ?_
  show Bod _ _ _ _ [_] _ _ _
  refine Bod.go dc_265_104 rfl ?_
  refine Bod.get dc_265_105 fr_265_15 (mk_52 _) rfl ?_
  refine Bod.go dc_265_108 rfl ?_
  refine Bod.go dc_265_110 rfl ?_
  refine Bod.virt (r := [_]) dc_265_112 kr_265_204 ⟨Or.inr rfl, ow_158, cl_2⟩ (by rw [np_158]; rfl) (by rw [np_158]; rfl) (ob_of (mk_2 _)) (Nat.le_of_ble_eq_true rfl) (c9  ) ?_
  show Bod _ _ _ _ [_, _] _ _ _
  refine Bod.stat (r := []) dc_265_115 kr_265_310 (Or.inr rfl) (by rw [np_137]; rfl) (by rw [np_137]; rfl) (by rw [np_137]; exact Nat.le_of_ble_eq_true rfl) (Nat.le_of_ble_eq_true rfl) (c10  ) ?_
  show Bod _ _ _ _ [_] _ _ _
  refine Bod.ist dc_265_118 (by rw [ml_265]; exact Nat.le_of_ble_eq_true rfl) ?_
  refine Bod.ic 2 (by decide) dc_265_120 ?_
  refine Bod.ist dc_265_121 (by rw [ml_265]; exact Nat.le_of_ble_eq_true rfl) ?_
  refine Bod.go dc_265_123 rfl ?_
  refine Bod.get dc_265_124 fr_265_15 (mk_52 _) rfl ?_
  refine Bod.go dc_265_127 rfl ?_
  refine Bod.virt (r := []) dc_265_129 kr_265_288 ⟨Or.inr rfl, ow_138, cl_2⟩ (by rw [np_138]; rfl) (by rw [np_138]; rfl) (ob_of (mk_2 _)) (Nat.le_of_ble_eq_true rfl) (c11  ) ?_
  show Bod _ _ _ _ [_] _ _ _
  refine Bod.ic 3 (by decide) dc_265_132 ?_
  refine Bod.icF dc_265_133 rfl (k2_ne_F (k_eq a1 3 rfl rfl (by omega))) ?_
  refine Bod.go dc_265_136 rfl ?_
  refine Bod.go dc_265_137 rfl ?_
  refine Bod.go dc_265_139 rfl ?_
  refine Bod.go dc_265_140 rfl ?_
  refine Bod.go dc_265_141 rfl ?_
  refine Bod.virt (r := []) dc_265_142 kr_265_291 ⟨Or.inl rfl, ow_254, cl_4⟩ (by rw [np_254]; rfl) (by rw [np_254]; rfl) (ob_of (mk_52 _)) (Nat.le_of_ble_eq_true rfl) (c12  ) ?_
  show Bod _ _ _ _ [_] _ _ _
  refine Bod.ist dc_265_145 (by rw [ml_265]; exact Nat.le_of_ble_eq_true rfl) ?_
  refine Bod.go dc_265_147 rfl ?_
  refine Bod.ifT dc_265_149 rfl w19 ?_
  refine Bod.go dc_265_173 rfl ?_
  refine Bod.get dc_265_174 fr_265_15 (mk_52 _) rfl ?_
  refine Bod.go dc_265_177 rfl ?_
  refine Bod.get dc_265_178 fr_265_15 (mk_52 _) rfl ?_
  refine Bod.get dc_265_181 fr_265_156 (mk_2 _) rfl ?_
  refine Bod.go dc_265_184 rfl ?_
  refine Bod.virt (r := []) dc_265_185 kr_265_161 ⟨Or.inr rfl, ow_142, cl_2⟩ (by rw [np_142]; rfl) (by rw [np_142]; rfl) (ob_of (mk_2 _)) (Nat.le_of_ble_eq_true rfl) (c13  ) ?_
  show Bod _ _ _ _ [] _ _ _
  refine Bod.go dc_265_188 rfl ?_
  exact Bod.retI dc_265_190 rt_265
theorem mMj_4 {d : Nat} {S : cS} {id : Nat} {gv : Nat} {S1 : cS} {rb : Int32} {S2 : cS} {S3 : cS} {S4 : cS} {u : Int64} {S5 : cS} {u1 : Int64} {S6 : cS} {a : Nat} {S7 : cS} {rb1 : Int32} {S8 : cS} {u2 : Int64} {S9 : cS} {u3 : Int64} {S10 : cS} {rb2 : Int32} {S11 : cS} {a1 : Nat} {S12 : cS} {rb3 : Int32} (mid : id < 2 ^ 20) (mgv : gv < 2 ^ 20) (c1 : Ans (d + 8) 178 [.ref 2, .int (nI 5)] S (some (.int rb)) S1) (w4 : sm_c1 .ne rb true false = true) (c2 : Ans (d + 8) 149 [.ref 2, .ref 6, .int rb] S1 none S2) (c3 : Ans (d + 8) 179 [.ref 2, .int rb, .int (nI 0), .int (nI id), .int (nI 0)] S2 none S3) (c4 : Ans (d + 8) 181 [.ref 16, .int (nI 34)] S3 (some (.long u)) S4) (c5 : Ans (d + 8) 182 [.ref 16, .int (nI 34)] S4 (some (.long u1)) S5) (ma : a < 2 ^ 20) (c6 : Ans (d + 8) 220 [.ref 2, .int (nI id), .long u, .long u1] S5 (some (.int (nI a))) S6) (c7 : Ans (d + 8) 206 [.ref 2, .int (nI a), .long u, .long u1] S6 (some (.int rb1)) S7) (c8 : Ans (d + 8) 156 [.ref 2, .int (nI a), .int rb1] S7 (some (.long u2)) S8) (c9 : Ans (d + 8) 158 [.ref 2, .int (nI a), .int rb1] S8 (some (.long u3)) S9) (c10 : Ans (d + 8) 137 [.long u2, .long u3] S9 (some (.int rb2)) S10) (ma1 : a1 < 2 ^ 20) (c11 : Ans (d + 8) 138 [.ref 2, .int rb2] S10 (some (.int (nI a1))) S11) (b1 : a1 = 3) (c12 : Ans (d + 8) 254 [.ref 52, .int rb2, .int (nI gv), .int rb, .int rb] S11 (some (.int rb3)) S12) (w19 : sm_c1 .ne rb3 true false = false) : Bod (d + 8) 265 0 [(0, .ref 52), (1, .int (nI id)), (2, .int (nI gv))] [] S (some (.int (nI 0))) (S12) := by
  refine Bod.go dc_265_0 rfl ?_
  refine Bod.get dc_265_1 fr_265_15 (mk_52 _) rfl ?_
  refine Bod.ic 5 (by decide) dc_265_4 ?_
  refine Bod.virt (r := []) dc_265_5 kr_265_263 ⟨Or.inr rfl, ow_178, cl_2⟩ (by rw [np_178]; rfl) (by rw [np_178]; rfl) (ob_of (mk_2 _)) (Nat.le_of_ble_eq_true rfl) (c1  ) ?_
  show Bod _ _ _ _ [_] _ _ _
  refine Bod.istn dc_265_8 (by rw [ml_265]; exact Nat.le_of_ble_eq_true rfl) ?_
  refine Bod.go dc_265_9 rfl ?_
  refine Bod.ifT dc_265_10 rfl w4 ?_
  refine Bod.go dc_265_16 rfl ?_
  refine Bod.get dc_265_17 fr_265_15 (mk_52 _) rfl ?_
  refine Bod.go dc_265_20 rfl ?_
  refine Bod.get dc_265_21 fr_265_15 (mk_52 _) rfl ?_
  refine Bod.get dc_265_24 fr_265_156 (mk_2 _) rfl ?_
  refine Bod.go dc_265_27 rfl ?_
  refine Bod.virt (r := []) dc_265_28 kr_265_301 ⟨Or.inr rfl, ow_149, cl_2⟩ (by rw [np_149]; rfl) (by rw [np_149]; rfl) (ob_of (mk_2 _)) (Nat.le_of_ble_eq_true rfl) (c2  ) ?_
  show Bod _ _ _ _ [] _ _ _
  refine Bod.go dc_265_31 rfl ?_
  refine Bod.get dc_265_32 fr_265_15 (mk_52 _) rfl ?_
  refine Bod.go dc_265_35 rfl ?_
  refine Bod.ic 0 (by decide) dc_265_36 ?_
  refine Bod.go dc_265_37 rfl ?_
  refine Bod.ic 0 (by decide) dc_265_38 ?_
  refine Bod.virt (r := []) dc_265_39 kr_265_266 ⟨Or.inr rfl, ow_179, cl_2⟩ (by rw [np_179]; rfl) (by rw [np_179]; rfl) (ob_of (mk_2 _)) (Nat.le_of_ble_eq_true rfl) (c3  ) ?_
  show Bod _ _ _ _ [] _ _ _
  refine Bod.go dc_265_42 rfl ?_
  refine Bod.get dc_265_43 fr_265_19 (mk_52 _) rfl ?_
  refine Bod.bip 34 (by decide) dc_265_46 ?_
  refine Bod.virt (r := []) dc_265_48 kr_265_272 ⟨Or.inr rfl, ow_181, cl_5⟩ (by rw [np_181]; rfl) (by rw [np_181]; rfl) (ob_of (mk_16 _)) (Nat.le_of_ble_eq_true rfl) (c4  ) ?_
  show Bod _ _ _ _ [_] _ _ _
  refine Bod.lst dc_265_51 (by rw [ml_265]; exact Nat.le_of_ble_eq_true rfl) ?_
  refine Bod.go dc_265_53 rfl ?_
  refine Bod.get dc_265_54 fr_265_19 (mk_52 _) rfl ?_
  refine Bod.bip 34 (by decide) dc_265_57 ?_
  refine Bod.virt (r := []) dc_265_59 kr_265_275 ⟨Or.inr rfl, ow_182, cl_5⟩ (by rw [np_182]; rfl) (by rw [np_182]; rfl) (ob_of (mk_16 _)) (Nat.le_of_ble_eq_true rfl) (c5  ) ?_
  show Bod _ _ _ _ [_] _ _ _
  refine Bod.lst dc_265_62 (by rw [ml_265]; exact Nat.le_of_ble_eq_true rfl) ?_
  refine Bod.go dc_265_64 rfl ?_
  refine Bod.get dc_265_65 fr_265_15 (mk_52 _) rfl ?_
  refine Bod.go dc_265_68 rfl ?_
  refine Bod.go dc_265_69 rfl ?_
  refine Bod.go dc_265_71 rfl ?_
  refine Bod.virt (r := []) dc_265_73 kr_265_304 ⟨Or.inr rfl, ow_220, cl_2⟩ (by rw [np_220]; rfl) (by rw [np_220]; rfl) (ob_of (mk_2 _)) (Nat.le_of_ble_eq_true rfl) (c6  ) ?_
  show Bod _ _ _ _ [_] _ _ _
  refine Bod.ist dc_265_76 (by rw [ml_265]; exact Nat.le_of_ble_eq_true rfl) ?_
  refine Bod.go dc_265_78 rfl ?_
  refine Bod.get dc_265_79 fr_265_15 (mk_52 _) rfl ?_
  refine Bod.go dc_265_82 rfl ?_
  refine Bod.go dc_265_84 rfl ?_
  refine Bod.go dc_265_86 rfl ?_
  refine Bod.virt (r := []) dc_265_88 kr_265_307 ⟨Or.inr rfl, ow_206, cl_2⟩ (by rw [np_206]; rfl) (by rw [np_206]; rfl) (ob_of (mk_2 _)) (Nat.le_of_ble_eq_true rfl) (c7  ) ?_
  show Bod _ _ _ _ [_] _ _ _
  refine Bod.ist dc_265_91 (by rw [ml_265]; exact Nat.le_of_ble_eq_true rfl) ?_
  refine Bod.go dc_265_93 rfl ?_
  refine Bod.get dc_265_94 fr_265_15 (mk_52 _) rfl ?_
  refine Bod.go dc_265_97 rfl ?_
  refine Bod.go dc_265_99 rfl ?_
  refine Bod.virt (r := []) dc_265_101 kr_265_200 ⟨Or.inr rfl, ow_156, cl_2⟩ (by rw [np_156]; rfl) (by rw [np_156]; rfl) (ob_of (mk_2 _)) (Nat.le_of_ble_eq_true rfl) (c8  ) ?_
  show Bod _ _ _ _ [_] _ _ _
  refine Bod.go dc_265_104 rfl ?_
  refine Bod.get dc_265_105 fr_265_15 (mk_52 _) rfl ?_
  refine Bod.go dc_265_108 rfl ?_
  refine Bod.go dc_265_110 rfl ?_
  refine Bod.virt (r := [_]) dc_265_112 kr_265_204 ⟨Or.inr rfl, ow_158, cl_2⟩ (by rw [np_158]; rfl) (by rw [np_158]; rfl) (ob_of (mk_2 _)) (Nat.le_of_ble_eq_true rfl) (c9  ) ?_
  show Bod _ _ _ _ [_, _] _ _ _
  refine Bod.stat (r := []) dc_265_115 kr_265_310 (Or.inr rfl) (by rw [np_137]; rfl) (by rw [np_137]; rfl) (by rw [np_137]; exact Nat.le_of_ble_eq_true rfl) (Nat.le_of_ble_eq_true rfl) (c10  ) ?_
  show Bod _ _ _ _ [_] _ _ _
  refine Bod.ist dc_265_118 (by rw [ml_265]; exact Nat.le_of_ble_eq_true rfl) ?_
  refine Bod.ic 2 (by decide) dc_265_120 ?_
  refine Bod.ist dc_265_121 (by rw [ml_265]; exact Nat.le_of_ble_eq_true rfl) ?_
  refine Bod.go dc_265_123 rfl ?_
  refine Bod.get dc_265_124 fr_265_15 (mk_52 _) rfl ?_
  refine Bod.go dc_265_127 rfl ?_
  refine Bod.virt (r := []) dc_265_129 kr_265_288 ⟨Or.inr rfl, ow_138, cl_2⟩ (by rw [np_138]; rfl) (by rw [np_138]; rfl) (ob_of (mk_2 _)) (Nat.le_of_ble_eq_true rfl) (c11  ) ?_
  show Bod _ _ _ _ [_] _ _ _
  refine Bod.ic 3 (by decide) dc_265_132 ?_
  refine Bod.icF dc_265_133 rfl (k2_ne_F (k_eq a1 3 rfl rfl (by omega))) ?_
  refine Bod.go dc_265_136 rfl ?_
  refine Bod.go dc_265_137 rfl ?_
  refine Bod.go dc_265_139 rfl ?_
  refine Bod.go dc_265_140 rfl ?_
  refine Bod.go dc_265_141 rfl ?_
  refine Bod.virt (r := []) dc_265_142 kr_265_291 ⟨Or.inl rfl, ow_254, cl_4⟩ (by rw [np_254]; rfl) (by rw [np_254]; rfl) (ob_of (mk_52 _)) (Nat.le_of_ble_eq_true rfl) (c12  ) ?_
  show Bod _ _ _ _ [_] _ _ _
  refine Bod.ist dc_265_145 (by rw [ml_265]; exact Nat.le_of_ble_eq_true rfl) ?_
  refine Bod.go dc_265_147 rfl ?_
  refine Bod.ifF dc_265_149 rfl w19 ?_
  refine Bod.ic 0 (by decide) dc_265_152 ?_
  exact Bod.retI dc_265_153 rt_265
theorem mMj_5 {d : Nat} {S : cS} {id : Nat} {gv : Nat} {S1 : cS} {rb : Int32} (mid : id < 2 ^ 20) (mgv : gv < 2 ^ 20) (c1 : Ans (d + 8) 178 [.ref 2, .int (nI 5)] S (some (.int rb)) S1) (w4 : sm_c1 .ne rb true false = false) : Bod (d + 8) 265 0 [(0, .ref 52), (1, .int (nI id)), (2, .int (nI gv))] [] S (some (.int (nI 8))) (S1) := by
  refine Bod.go dc_265_0 rfl ?_
  refine Bod.get dc_265_1 fr_265_15 (mk_52 _) rfl ?_
  refine Bod.ic 5 (by decide) dc_265_4 ?_
  refine Bod.virt (r := []) dc_265_5 kr_265_263 ⟨Or.inr rfl, ow_178, cl_2⟩ (by rw [np_178]; rfl) (by rw [np_178]; rfl) (ob_of (mk_2 _)) (Nat.le_of_ble_eq_true rfl) (c1  ) ?_
  show Bod _ _ _ _ [_] _ _ _
  refine Bod.istn dc_265_8 (by rw [ml_265]; exact Nat.le_of_ble_eq_true rfl) ?_
  refine Bod.go dc_265_9 rfl ?_
  refine Bod.ifF dc_265_10 rfl w4 ?_
  refine Bod.bip 8 (by decide) dc_265_13 ?_
  exact Bod.retI dc_265_15 rt_265
