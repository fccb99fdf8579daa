/-! A name that is called; expressions behind a fault -/
theorem ml_51 : sm_ml 51 = 4 := by decide +kernel
theorem ml_52 : sm_ml 52 = 2 := by decide +kernel
theorem ml_53 : sm_ml 53 = 2 := by decide +kernel
theorem ml_56 : sm_ml 56 = 7 := by decide +kernel
theorem ml_59 : sm_ml 59 = 2 := by decide +kernel
theorem ml_63 : sm_ml 63 = 2 := by decide +kernel
theorem ml_65 : sm_ml 65 = 2 := by decide +kernel
theorem ml_72 : sm_ml 72 = 5 := by decide +kernel
theorem ml_74 : sm_ml 74 = 2 := by decide +kernel
theorem ml_79 : sm_ml 79 = 2 := by decide +kernel
theorem ml_80 : sm_ml 80 = 1 := by decide +kernel
theorem ml_84 : sm_ml 84 = 3 := by decide +kernel
theorem ml_85 : sm_ml 85 = 3 := by decide +kernel
theorem ml_87 : sm_ml 87 = 5 := by decide +kernel
theorem ml_89 : sm_ml 89 = 6 := by decide +kernel
theorem ml_90 : sm_ml 90 = 8 := by decide +kernel
theorem ml_91 : sm_ml 91 = 8 := by decide +kernel
theorem ml_92 : sm_ml 92 = 2 := by decide +kernel
theorem ml_93 : sm_ml 93 = 2 := by decide +kernel
theorem ml_94 : sm_ml 94 = 2 := by decide +kernel
theorem ml_95 : sm_ml 95 = 5 := by decide +kernel
theorem ml_97 : sm_ml 97 = 9 := by decide +kernel
theorem ml_100 : sm_ml 100 = 5 := by decide +kernel
theorem ml_101 : sm_ml 101 = 2 := by decide +kernel
theorem ml_105 : sm_ml 105 = 9 := by decide +kernel
theorem ml_106 : sm_ml 106 = 6 := by decide +kernel
theorem ml_107 : sm_ml 107 = 4 := by decide +kernel
theorem ml_108 : sm_ml 108 = 5 := by decide +kernel
theorem ml_109 : sm_ml 109 = 1 := by decide +kernel
theorem ml_110 : sm_ml 110 = 5 := by decide +kernel
theorem ml_111 : sm_ml 111 = 1 := by decide +kernel
theorem ml_112 : sm_ml 112 = 1 := by decide +kernel
theorem ml_113 : sm_ml 113 = 1 := by decide +kernel
theorem ml_114 : sm_ml 114 = 2 := by decide +kernel
theorem ml_115 : sm_ml 115 = 4 := by decide +kernel
theorem ml_116 : sm_ml 116 = 3 := by decide +kernel
theorem ml_117 : sm_ml 117 = 7 := by decide +kernel
theorem ml_119 : sm_ml 119 = 2 := by decide +kernel
theorem ml_121 : sm_ml 121 = 1 := by decide +kernel
theorem ml_122 : sm_ml 122 = 3 := by decide +kernel
theorem ml_123 : sm_ml 123 = 3 := by decide +kernel
theorem ml_125 : sm_ml 125 = 7 := by decide +kernel
theorem opK {A : Nat → Int32} {n z0 fb a c f cur k kn q : Nat} {S0 S S1 : cS} (hP : cP A n S0 z0 k S) (hS : eS S a c f cur) (hc : c ≤ 5200) (hq : ∃ z, q < z ∧ sI S 1607 = nI z ∧ z ≤ 4096 ∧ qn (by1 A) n S kn q) (hF : FrT [2307, 2308, 3214, 4403, 4404] [] [24, 41, 42] [25, 26] S S1) (h25 : sL S1 25 = sL S 25) (h26 : sL S1 26 = sL S 26) (h24 : sA S1 24 = upd (upd (upd (upd (sA S 24) a (nI 21)) (a + 1) (Int32.ofInt (-1))) (a + 2) (nI q)) (a + 3) (nI (bi q))) (h7 : sI S1 2307 = nI (a + 4)) (h8 : sI S1 2308 = nI c) (h0 : cur = 0 → sI S1 3214 = nI f ∧ sA S1 41 = sA S 41 ∧ sA S1 42 = sA S 42) (h1 : cur ≠ 0 → sI S1 3214 = nI (f + 1) ∧ sA S1 41 = upd (sA S 41) f (nI a) ∧ sA S1 42 = upd (sA S 42) f (nI cur)) (hg : sI S1 4403 = nI 0) : eOK A n S0 z0 fb S a c f cur k 0 [(21, [kn], 0, 0)] S1 := by
  have h17 : sL S1 17 = sL S 17 := hF.2.2.2.1 _ (by decide)
  have h18 : sL S1 18 = sL S 18 := hF.2.2.2.1 _ (by decide)
  have e0 : nmO (21, [kn], 0, 0) = 1 := rfl
  obtain ⟨z2, j1, j2, j3, j4⟩ := hq
  refine emit hP hS hc hF ⟨fun i hi => ?_, fun i _ => ⟨by rw [h25], by rw [h26]⟩, fun i hi => ?_⟩ h7 h8 ?_ (fun hcur _ => ?_) (fun z hz hz2 => ?_) hg (fun h => absurd rfl h)
  · rw [h24, upd_at, upd_at, upd_at, upd_at, if_neg (by omega), if_neg (by omega), if_neg (by omega), if_neg (by omega)]
  · by_cases hcur : cur = 0
    · rw [(h0 hcur).2.1, (h0 hcur).2.2]; exact ⟨rfl, rfl⟩
    · rw [(h1 hcur).2.1, (h1 hcur).2.2, upd_at, upd_at, if_neg (by omega), if_neg (by omega)]; exact ⟨rfl, rfl⟩
  · by_cases hcur : cur = 0
    · rw [show fxN cur [(21, [kn], 0, 0)] = 0 from if_pos hcur]; exact (h0 hcur).1
    · rw [fxN_1 e0 hcur]; exact (h1 hcur).1
  · rw [(h1 hcur).2.1, (h1 hcur).2.2, upd_at, upd_at, if_pos rfl, if_pos rfl]; exact ⟨rfl, rfl⟩
  · obtain rfl : z = z2 := nI_inj (by omega) (by omega) (hz.symm.trans j2)
    refine ⟨fun _ => ?_, fun h => ?_, fun h => ⟨?_, q, j1, ?_, ?_, fun h => ?_⟩, fun h => ?_, fun h => ?_, fun h => ?_, fun h => ?_, fun h => ?_⟩
    · rw [h24, upd_at, upd_at, upd_at, upd_at, if_neg (by omega), if_neg (by omega), if_neg (by omega), if_pos rfl]
      rfl
    · exfalso; dsimp only at h; omega
    · rw [h24, upd_at, upd_at, upd_at, if_neg (by omega), if_neg (by omega), if_pos rfl]
    · unfold qn nm_is c_is at j4 ⊢
      rw [h17, h18]
      exact j4
    · rw [h24, upd_at, upd_at, if_neg (by omega), if_pos rfl]
    · rw [h24, upd_at, if_pos rfl]
    all_goals (exfalso; dsimp only at h; omega)
section
variable {A : Nat → Int32} {n z0 a c f cur l : Nat} {S0 S : cS}
theorem bad_atom {d dp : Nat} (hB : cB A n S0 z0 l S) (hS : eS S a c f cur) : ∃ S1, Ans (d + 9) 65 [.ref 44, .int (nI dp)] S none S1 ∧ eBD A n S0 z0 S a c f cur l a c f S1 := by
  have hB0 : cB A n S0 z0 l (wI 4403 (nI 0) S) := cB_S hB (by simp only [rI, rJI, rAI, rLI, rIJ, rIA, rJA, rLA, rIL, reduceIte, Nat.reduceEqDiff]) (by simp only [rI, rJI, rAI, rLI, rIJ, rIA, rJA, rLA, rIL, reduceIte, Nat.reduceEqDiff]) (by simp only [rI, rJI, rAI, rLI, rIJ, rIA, rJA, rLA, rIL, reduceIte, Nat.reduceEqDiff]) (fun _ _ => rfl) (fun _ _ => rfl)
  have hS0 : eS (wI 4403 (nI 0) S) a c f cur := ⟨(by simp only [rI, rJI, rAI, rLI, rIJ, rIA, rJA, rLA, rIL, reduceIte, Nat.reduceEqDiff, hS.1]), (by simp only [rI, rJI, rAI, rLI, rIJ, rIA, rJA, rLA, rIL, reduceIte, Nat.reduceEqDiff, hS.2.1]), (by simp only [rI, rJI, rAI, rLI, rIJ, rIA, rJA, rLA, rIL, reduceIte, Nat.reduceEqDiff, hS.2.2.1]), (by simp only [rI, rJI, rAI, rLI, rIJ, rIA, rJA, rLA, rIL, reduceIte, Nat.reduceEqDiff, hS.2.2.2.1]), hS.2.2.2.2⟩
  obtain ⟨S1, h1, h2, h3, h4⟩ := fail_B (d := d + 7) hB0
  refine ⟨S1, Ans.of (by rw [ml_65]; exact Nat.le_of_ble_eq_true rfl) (Bod.lv (by rfl) (eAtm_no (tk := 0) hB.1 (by omega) (by omega) (by omega) (by omega) (by omega) (by omega) (by omega) (by omega) (by omega) (by omega) h1)), ?_⟩
  have hb : eBD A n S0 z0 S a c f cur l a c f (wI 4403 (nI 0) S) := ⟨hB0, ⟨a, c, f, hS0, Nat.le_refl _, Nat.le_refl _, Nat.le_refl _, Nat.le_refl _, Nat.le_refl _, Nat.le_refl _, Or.inl (rIe _ _ _)⟩, (FrT_wI (by decide) (FrT.refl _ _ _ _ _)), kP_w (fun _ _ => rfl) rfl rfl rfl rfl, cB_nK hB (by simp only [rI, rJI, rAI, rLI, rIJ, rIA, rJA, rLA, rIL, reduceIte, Nat.reduceEqDiff]) (fun _ _ => rfl)⟩
  exact eBD_lx hb h2 h3 h4
theorem eBD_5 {M Mc Mf : Nat} {S1 : cS} (h : eBD A n S0 z0 S a c f cur l M Mc Mf S1) : sI S1 3105 = nI 0 := h.1.1
theorem bad_post {d dp : Nat} (hB : cB A n S0 z0 l S) (hS : eS S a c f cur) : ∃ S1, Ans (d + 10) 64 [.ref 44, .int (nI dp)] S none S1 ∧ eBD A n S0 z0 S a c f cur l a c f S1 := by
  obtain ⟨S1, h1, h2⟩ := bad_atom (d := d) (dp := dp) hB hS
  exact ⟨S1, Ans.of (by rw [ml_64]; exact Nat.le_of_ble_eq_true rfl) (Bod.lv (by rfl) (ePst_go (d := d + 1) h1 (ePst_stop (tk := 0) (eBD_5 h2) (by omega) (by omega) (by omega) (by omega) (by omega)))), h2⟩
theorem bad_factor {d dp : Nat} (hB : cB A n S0 z0 l S) (hS : eS S a c f cur) : ∃ S1, Ans (d + 11) 63 [.ref 44, .int (nI dp)] S none S1 ∧ eBD A n S0 z0 S a c f cur l a c f S1 := by
  obtain ⟨S1, h1, h2⟩ := bad_post (d := d) (dp := dp) hB hS
  exact ⟨S1, Ans.of (by rw [ml_63]; exact Nat.le_of_ble_eq_true rfl) (Bod.lv (by rfl) (eNeg_pass (d := d + 2) (tk := 0) hB.1 (by omega) (by omega) h1)), h2⟩
theorem bad_term {d dp : Nat} (hB : cB A n S0 z0 l S) (hS : eS S a c f cur) : ∃ S1, Ans (d + 12) 62 [.ref 44, .int (nI dp)] S none S1 ∧ eBD A n S0 z0 S a c f cur l a c f S1 := by
  obtain ⟨S1, h1, h2⟩ := bad_factor (d := d) (dp := dp) hB hS
  exact ⟨S1, Ans.of (by rw [ml_62]; exact Nat.le_of_ble_eq_true rfl) (Bod.lv (by rfl) (eTrm_go (d := d + 3) (tk := 0) h1 (eBD_5 h2) (by omega) (eTrm_stop (op := trmO 0) rfl (by omega)))), h2⟩
theorem bad_sum {d dp : Nat} (hB : cB A n S0 z0 l S) (hS : eS S a c f cur) : ∃ S1, Ans (d + 13) 61 [.ref 44, .int (nI dp)] S none S1 ∧ eBD A n S0 z0 S a c f cur l a c f S1 := by
  obtain ⟨S1, h1, h2⟩ := bad_term (d := d) (dp := dp) hB hS
  exact ⟨S1, Ans.of (by rw [ml_61]; exact Nat.le_of_ble_eq_true rfl) (Bod.lv (by rfl) (eSum_go (d := d + 4) h1 (eSum_stop (tk := 0) (eBD_5 h2) (by omega) (by omega) (by omega) (by omega)))), h2⟩
theorem bad_cmp {d dp : Nat} (hB : cB A n S0 z0 l S) (hS : eS S a c f cur) : ∃ S1, Ans (d + 14) 60 [.ref 44, .int (nI dp)] S none S1 ∧ eBD A n S0 z0 S a c f cur l a c f S1 := by
  obtain ⟨S1, h1, h2⟩ := bad_sum (d := d) (dp := dp) hB hS
  exact ⟨S1, Ans.of (by rw [ml_60]; exact Nat.le_of_ble_eq_true rfl) (Bod.lv (by rfl) (eCmp_no (d := d + 5) (tk := 0) h1 (eBD_5 h2) (by omega) rfl)), h2⟩
theorem bad_not {d dp : Nat} (hB : cB A n S0 z0 l S) (hS : eS S a c f cur) : ∃ S1, Ans (d + 15) 59 [.ref 44, .int (nI dp)] S none S1 ∧ eBD A n S0 z0 S a c f cur l a c f S1 := by
  obtain ⟨S1, h1, h2⟩ := bad_cmp (d := d) (dp := dp) hB hS
  exact ⟨S1, Ans.of (by rw [ml_59]; exact Nat.le_of_ble_eq_true rfl) (Bod.lv (by rfl) (eNot_pass (d := d + 6) (tk := 0) hB.1 (by omega) (by omega) h1)), h2⟩
theorem bad_and {d dp : Nat} (hB : cB A n S0 z0 l S) (hS : eS S a c f cur) : ∃ S1, Ans (d + 16) 58 [.ref 44, .int (nI dp)] S none S1 ∧ eBD A n S0 z0 S a c f cur l a c f S1 := by
  obtain ⟨S1, h1, h2⟩ := bad_not (d := d) (dp := dp) hB hS
  exact ⟨S1, Ans.of (by rw [ml_58]; exact Nat.le_of_ble_eq_true rfl) (Bod.lv (by rfl) (eAnd_go (d := d + 7) h1 (eAnd_stop (tk := 0) (eBD_5 h2) (by omega) (by omega) (by omega)))), h2⟩
theorem bad_parse {d dp : Nat} (hB : cB A n S0 z0 l S) (hS : eS S a c f cur) : ∃ S1, Ans (d + 17) 57 [.ref 44, .int (nI dp)] S none S1 ∧ eBD A n S0 z0 S a c f cur l a c f S1 := by
  obtain ⟨S1, h1, h2⟩ := bad_and (d := d) (dp := dp) hB hS
  exact ⟨S1, Ans.of (by rw [ml_57]; exact Nat.le_of_ble_eq_true rfl) (Bod.lv (by rfl) (eOr_go (d := d + 8) h1 (eOr_stop (tk := 0) (eBD_5 h2) (by omega) (by omega) (by omega)))), h2⟩
end
