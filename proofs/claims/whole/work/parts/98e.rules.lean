/-! THE RULES OF EXPR IN THE CLASS: a rule and its loop, signs ahead, comparisons -/
section
variable {A : Nat → Int32} {n z0 fb F : Nat} {S0 : cS}
def EA1 (A : Nat → Int32) (n : Nat) (S0 : cS) (z0 fb F t : Nat) : Prop := ∀ (d k : Nat) (S : cS) (a c f cur D M Mc Mf : Nat), d ≤ 12 → 16 * (n - qP (by1 A) n k) + rkp t < F → cP A n S0 z0 k S → eS S a c f cur → RM (by1 A) n k 1 (40 * (13 - d) + 2 * rkp t) a c f M Mc Mf → 20 + 16 * (13 - d) + rkp t ≤ D → ∃ S1, Ans D (jt t) [.ref 44, .int (nI d)] S none S1 ∧ eO A n S0 z0 fb S a c f cur k M Mc Mf (px (qK (by1 A) n) F t d k 0 0) S1
/-- words that are put behind a fault -/
theorem eBD_x {a c f cur l M Mc Mf a1 c1 f1 w : Nat} {S S1 S2 : cS} (hB : cB A n S0 z0 l S1) (hS : eS S1 a1 c1 f1 cur) (hx : xF a c f S S1) (ha : a ≤ a1) (hc : c ≤ c1) (hf : f ≤ f1) (hM : a1 + w ≤ M) (hMc : c1 ≤ Mc) (hMf : f1 ≤ Mf) (hF : FrT [2307, 4403, 4404] [] [24] [] S1 S2) (h24 : ∀ i, i < a → sA S2 24 i = sA S1 24 i) (h7 : sI S2 2307 = nI (a1 + w)) (ht : tgA S2 a (a1 + w)) : eBD A n S0 z0 S a c f cur l M Mc Mf S2 := by
  refine ⟨cB_S hB (hF.1 _ (by decide)) (hF.1 _ (by decide)) (hF.1 _ (by decide)) (fun b hb => hF.2.2.1 b (fun hc => ?_)) (fun b hb => hF.2.2.2.1 b (fun hc => by cases hc)), ⟨a1 + w, c1, f1, ⟨h7, (hF.1 _ (by decide)).trans hS.2.1, (hF.1 _ (by decide)).trans hS.2.2.1, (hF.1 _ (by decide)).trans hS.2.2.2.1, hS.2.2.2.2⟩, by omega, hM, hc, hMc, hf, hMf, ht⟩, xF_trans (a1 := a) (c1 := c) (f1 := f) hx ⟨hF.mono (by decide) (fun _ h => by cases h) (by decide) (fun _ h => by cases h), ⟨h24, fun i _ => ⟨by rw [hF.2.2.2.1 25 (by decide)], by rw [hF.2.2.2.1 26 (by decide)]⟩, fun i _ => ⟨by rw [hF.2.2.1 41 (by decide)], by rw [hF.2.2.1 42 (by decide)]⟩⟩, cB_nK hB (hF.1 _ (by decide)) (fun b hb => hF.2.2.2.1 b (fun hc => by cases hc))⟩ (Nat.le_refl _) (Nat.le_refl _) (Nat.le_refl _)⟩
  rw [List.mem_singleton] at hc
  subst hc
  exact absurd hb (by decide)
theorem eBD_x1 {a c f cur l M Mc Mf x : Nat} {S S1 : cS} (hB : cB A n S0 z0 l S1) (hS : eS S1 a c f cur) (hx : xF a c f S S1) (hM : a + 1 ≤ M) (hMc : c ≤ Mc) (hMf : f ≤ Mf) : eBD A n S0 z0 S a c f cur l M Mc Mf (wI 4403 (nI 0) (wI 2307 (nI (a + 1)) (wA 24 a (nI x) S1))) :=
  eBD_x (w := 1) hB hS hx (Nat.le_refl _) (Nat.le_refl _) (Nat.le_refl _) hM hMc hMf (FrT_wI (by decide) (FrT_wI (by decide) (FrT_wA (by decide) (FrT.refl _ _ _ _ _)))) (fun i hi => by show upd (sA S1 24) a _ i = _; exact if_neg (by omega)) (by simp only [rI, rJI, rAI, rLI, rIJ, rIA, rJA, rLA, rIL, reduceIte, Nat.reduceEqDiff]) (Or.inl (rIe _ _ _))
theorem EA0_s (hX : pX A n S0 z0) (h0 : qK (by1 A) n 0 ≠ 1) (hA : EA A n S0 z0 fb F) (hJ : EJ A n S0 z0 fb F 1 57 7 9 lv1) : EA1 A n S0 z0 fb (F + 1) 0 := by
  intro d k S a c f cur D M Mc Mf hd hm hP hS hR hD
  obtain ⟨N, hBR, r1, r2, r3, r4, r5, r6⟩ := hR
  have hBa := BR_at hBR
  have et : rkp 0 = 10 := rfl
  have ek : rkp 2 = 9 := rfl
  obtain ⟨D', rfl⟩ : ∃ D', D = D' + 9 := ⟨D - 9, by omega⟩
  have hq := q_lt (by1 A) n k
  have hn := hX.1
  obtain ⟨S1, q1, q2⟩ := hA 2 (by decide) d k S a c f cur (D' + 8) M Mc Mf hd (by omega) hP hS ⟨N, by assumption, by omega, r2, by omega, r4, by omega, r6⟩ (by omega)
  show ∃ S1, Ans (D' + 9) 57 [.ref 44, .int (nI d)] S none S1 ∧ eO A n S0 z0 fb S a c f cur k M Mc Mf (pxL (px (qK (by1 A) n) F) 2 1 d k) S1
  unfold pxL
  cases hr : px (qK (by1 A) n) F 2 d k 0 0 with
  | none =>
    have hb := q2.1 hr
    exact ⟨S1, Ans.of (by rw [ml_57]; exact Nat.le_of_ble_eq_true rfl) (Bod.lv (by rfl) (eOr_go (d := D') q1 (eOr_stop (tk := 0) (eBD_5 hb) (by omega) (by omega) (by omega)))), eO_none rfl hb⟩
  | some r1 =>
    have hok := q2.2 r1 hr
    obtain ⟨u1, u2, u3, u4, u5⟩ := (px_G (qK (by1 A) n) F).1 2 (by decide) _ _ _ _ _ hr
    have hB1 := BR_px (N := N) (by assumption) hr (by omega) (by omega) u2
    have hb1 := BR_at hB1
    obtain ⟨v1, v2, v3, v4⟩ := q_run (by omega) u2
    have hq1 := q_lt (by1 A) n r1.1
    have hfx := fxN_le cur r1.2.2
    obtain ⟨S5, s1, s2⟩ := hJ d r1.1 S1 (a + wC r1.2.2) (c + cnN r1.2.2) (f + fxN cur r1.2.2) cur (D' + 8) M Mc Mf r1.2.1 _ 0 (Or.inl rfl) hd (by omega) hok.1 hok.2.1 ⟨N, by assumption, by omega, r2, by omega, r4, by omega, r6⟩ hok.2.2.2.2.2.1 hok.2.2.2.2.2.2 (by omega) (by omega)
    refine ⟨S5, Ans.of (by rw [ml_57]; exact Nat.le_of_ble_eq_true rfl) (Bod.lv (by rfl) (eOr_go (d := D') q1 s1)), ?_⟩
    cases hr2 : px (qK (by1 A) n) F 1 d r1.1 r1.2.1 0 with
    | none =>
      refine eO_none (by show (px _ F 1 d r1.1 r1.2.1 0).bind _ = none; rw [hr2]; rfl) (eBD_app hok ?_)
      have h9 := s2.1 hr2
      rw [v2] at h9
      exact h9
    | some r2' =>
      obtain ⟨y1, y2, y3, y4, y5⟩ := (px_G (qK (by1 A) n) F).2.1 1 (by decide) _ _ _ _ _ hr2
      have hB2 := BR_px (N := N) (by assumption) hr2 (by omega) (by omega) y2
      have hb2 := BR_at hB2
      obtain ⟨x1, x2, x3, x4⟩ := q_run (by omega) y2
      have hq2 := q_lt (by1 A) n r2'.1
      exact eO_some (x := (r2'.1, r2'.2.1, r1.2.2 ++ r2'.2.2)) (by show (px _ F 1 d r1.1 r1.2.1 0).bind _ = _; rw [hr2]; rfl) (eOK_app hok (s2.2 r2' hr2) (by omega))
theorem EA2_s (hX : pX A n S0 z0) (h0 : qK (by1 A) n 0 ≠ 1) (hA : EA A n S0 z0 fb F) (hJ : EJ A n S0 z0 fb F 3 58 7 8 lv1) : EA1 A n S0 z0 fb (F + 1) 2 := by
  intro d k S a c f cur D M Mc Mf hd hm hP hS hR hD
  obtain ⟨N, hBR, r1, r2, r3, r4, r5, r6⟩ := hR
  have hBa := BR_at hBR
  have et : rkp 2 = 9 := rfl
  have ek : rkp 4 = 8 := rfl
  obtain ⟨D', rfl⟩ : ∃ D', D = D' + 9 := ⟨D - 9, by omega⟩
  have hq := q_lt (by1 A) n k
  have hn := hX.1
  obtain ⟨S1, q1, q2⟩ := hA 4 (by decide) d k S a c f cur (D' + 8) M Mc Mf hd (by omega) hP hS ⟨N, by assumption, by omega, r2, by omega, r4, by omega, r6⟩ (by omega)
  show ∃ S1, Ans (D' + 9) 58 [.ref 44, .int (nI d)] S none S1 ∧ eO A n S0 z0 fb S a c f cur k M Mc Mf (pxL (px (qK (by1 A) n) F) 4 3 d k) S1
  unfold pxL
  cases hr : px (qK (by1 A) n) F 4 d k 0 0 with
  | none =>
    have hb := q2.1 hr
    exact ⟨S1, Ans.of (by rw [ml_58]; exact Nat.le_of_ble_eq_true rfl) (Bod.lv (by rfl) (eAnd_go (d := D') q1 (eAnd_stop (tk := 0) (eBD_5 hb) (by omega) (by omega) (by omega)))), eO_none rfl hb⟩
  | some r1 =>
    have hok := q2.2 r1 hr
    obtain ⟨u1, u2, u3, u4, u5⟩ := (px_G (qK (by1 A) n) F).1 4 (by decide) _ _ _ _ _ hr
    have hB3 := BR_px (N := N) (by assumption) hr (by omega) (by omega) u2
    have hb3 := BR_at hB3
    obtain ⟨v1, v2, v3, v4⟩ := q_run (by omega) u2
    have hq1 := q_lt (by1 A) n r1.1
    have hfx := fxN_le cur r1.2.2
    obtain ⟨S5, s1, s2⟩ := hJ d r1.1 S1 (a + wC r1.2.2) (c + cnN r1.2.2) (f + fxN cur r1.2.2) cur (D' + 8) M Mc Mf r1.2.1 _ 0 (Or.inl rfl) hd (by omega) hok.1 hok.2.1 ⟨N, by assumption, by omega, r2, by omega, r4, by omega, r6⟩ hok.2.2.2.2.2.1 hok.2.2.2.2.2.2 (by omega) (by omega)
    refine ⟨S5, Ans.of (by rw [ml_58]; exact Nat.le_of_ble_eq_true rfl) (Bod.lv (by rfl) (eAnd_go (d := D') q1 s1)), ?_⟩
    cases hr2 : px (qK (by1 A) n) F 3 d r1.1 r1.2.1 0 with
    | none =>
      refine eO_none (by show (px _ F 3 d r1.1 r1.2.1 0).bind _ = none; rw [hr2]; rfl) (eBD_app hok ?_)
      have h9 := s2.1 hr2
      rw [v2] at h9
      exact h9
    | some r2' =>
      obtain ⟨y1, y2, y3, y4, y5⟩ := (px_G (qK (by1 A) n) F).2.1 3 (by decide) _ _ _ _ _ hr2
      have hB4 := BR_px (N := N) (by assumption) hr2 (by omega) (by omega) y2
      have hb4 := BR_at hB4
      obtain ⟨x1, x2, x3, x4⟩ := q_run (by omega) y2
      have hq2 := q_lt (by1 A) n r2'.1
      exact eO_some (x := (r2'.1, r2'.2.1, r1.2.2 ++ r2'.2.2)) (by show (px _ F 3 d r1.1 r1.2.1 0).bind _ = _; rw [hr2]; rfl) (eOK_app hok (s2.2 r2' hr2) (by omega))
theorem EA6_s (hX : pX A n S0 z0) (h0 : qK (by1 A) n 0 ≠ 1) (hA : EA A n S0 z0 fb F) (hJ : EJ A n S0 z0 fb F 7 61 7 5 lv1) : EA1 A n S0 z0 fb (F + 1) 6 := by
  intro d k S a c f cur D M Mc Mf hd hm hP hS hR hD
  obtain ⟨N, hBR, r1, r2, r3, r4, r5, r6⟩ := hR
  have hBa := BR_at hBR
  have et : rkp 6 = 6 := rfl
  have ek : rkp 8 = 5 := rfl
  obtain ⟨D', rfl⟩ : ∃ D', D = D' + 9 := ⟨D - 9, by omega⟩
  have hq := q_lt (by1 A) n k
  have hn := hX.1
  obtain ⟨S1, q1, q2⟩ := hA 8 (by decide) d k S a c f cur (D' + 8) M Mc Mf hd (by omega) hP hS ⟨N, by assumption, by omega, r2, by omega, r4, by omega, r6⟩ (by omega)
  show ∃ S1, Ans (D' + 9) 61 [.ref 44, .int (nI d)] S none S1 ∧ eO A n S0 z0 fb S a c f cur k M Mc Mf (pxL (px (qK (by1 A) n) F) 8 7 d k) S1
  unfold pxL
  cases hr : px (qK (by1 A) n) F 8 d k 0 0 with
  | none =>
    have hb := q2.1 hr
    exact ⟨S1, Ans.of (by rw [ml_61]; exact Nat.le_of_ble_eq_true rfl) (Bod.lv (by rfl) (eSum_go (d := D') q1 (eSum_stop (tk := 0) (eBD_5 hb) (by omega) (by omega) (by omega) (by omega)))), eO_none rfl hb⟩
  | some r1 =>
    have hok := q2.2 r1 hr
    obtain ⟨u1, u2, u3, u4, u5⟩ := (px_G (qK (by1 A) n) F).1 8 (by decide) _ _ _ _ _ hr
    have hB5 := BR_px (N := N) (by assumption) hr (by omega) (by omega) u2
    have hb5 := BR_at hB5
    obtain ⟨v1, v2, v3, v4⟩ := q_run (by omega) u2
    have hq1 := q_lt (by1 A) n r1.1
    have hfx := fxN_le cur r1.2.2
    obtain ⟨S5, s1, s2⟩ := hJ d r1.1 S1 (a + wC r1.2.2) (c + cnN r1.2.2) (f + fxN cur r1.2.2) cur (D' + 8) M Mc Mf r1.2.1 _ 0 (Or.inl rfl) hd (by omega) hok.1 hok.2.1 ⟨N, by assumption, by omega, r2, by omega, r4, by omega, r6⟩ hok.2.2.2.2.2.1 hok.2.2.2.2.2.2 (by omega) (by omega)
    refine ⟨S5, Ans.of (by rw [ml_61]; exact Nat.le_of_ble_eq_true rfl) (Bod.lv (by rfl) (eSum_go (d := D') q1 s1)), ?_⟩
    cases hr2 : px (qK (by1 A) n) F 7 d r1.1 r1.2.1 0 with
    | none =>
      refine eO_none (by show (px _ F 7 d r1.1 r1.2.1 0).bind _ = none; rw [hr2]; rfl) (eBD_app hok ?_)
      have h9 := s2.1 hr2
      rw [v2] at h9
      exact h9
    | some r2' =>
      obtain ⟨y1, y2, y3, y4, y5⟩ := (px_G (qK (by1 A) n) F).2.1 7 (by decide) _ _ _ _ _ hr2
      have hB6 := BR_px (N := N) (by assumption) hr2 (by omega) (by omega) y2
      have hb6 := BR_at hB6
      obtain ⟨x1, x2, x3, x4⟩ := q_run (by omega) y2
      have hq2 := q_lt (by1 A) n r2'.1
      exact eO_some (x := (r2'.1, r2'.2.1, r1.2.2 ++ r2'.2.2)) (by show (px _ F 7 d r1.1 r1.2.1 0).bind _ = _; rw [hr2]; rfl) (eOK_app hok (s2.2 r2' hr2) (by omega))
theorem EA8_s (hX : pX A n S0 z0) (h0 : qK (by1 A) n 0 ≠ 1) (hA : EA A n S0 z0 fb F) (hJ : EJ A n S0 z0 fb F 9 62 18 4 lv9) : EA1 A n S0 z0 fb (F + 1) 8 := by
  intro d k S a c f cur D M Mc Mf hd hm hP hS hR hD
  obtain ⟨N, hBR, r1, r2, r3, r4, r5, r6⟩ := hR
  have hBa := BR_at hBR
  have et : rkp 8 = 5 := rfl
  have ek : rkp 10 = 4 := rfl
  obtain ⟨D', rfl⟩ : ∃ D', D = D' + 9 := ⟨D - 9, by omega⟩
  have hq := q_lt (by1 A) n k
  have hn := hX.1
  obtain ⟨S1, q1, q2⟩ := hA 10 (by decide) d k S a c f cur (D' + 8) M Mc Mf hd (by omega) hP hS ⟨N, by assumption, by omega, r2, by omega, r4, by omega, r6⟩ (by omega)
  show ∃ S1, Ans (D' + 9) 62 [.ref 44, .int (nI d)] S none S1 ∧ eO A n S0 z0 fb S a c f cur k M Mc Mf (pxL (px (qK (by1 A) n) F) 10 9 d k) S1
  unfold pxL
  cases hr : px (qK (by1 A) n) F 10 d k 0 0 with
  | none =>
    have hb := q2.1 hr
    exact ⟨S1, Ans.of (by rw [ml_62]; exact Nat.le_of_ble_eq_true rfl) (Bod.lv (by rfl) (eTrm_go (d := D') (tk := 0) q1 hb.1.1 (by omega) (eTrm_stop (op := trmO 0) rfl (by omega)))), eO_none rfl hb⟩
  | some r1 =>
    have hok := q2.2 r1 hr
    obtain ⟨u1, u2, u3, u4, u5⟩ := (px_G (qK (by1 A) n) F).1 10 (by decide) _ _ _ _ _ hr
    have hB7 := BR_px (N := N) (by assumption) hr (by omega) (by omega) u2
    have hb7 := BR_at hB7
    obtain ⟨v1, v2, v3, v4⟩ := q_run (by omega) u2
    have hq1 := q_lt (by1 A) n r1.1
    have hfx := fxN_le cur r1.2.2
    obtain ⟨S5, s1, s2⟩ := hJ d r1.1 S1 (a + wC r1.2.2) (c + cnN r1.2.2) (f + fxN cur r1.2.2) cur (D' + 8) M Mc Mf r1.2.1 _ 0 rfl hd (by omega) hok.1 hok.2.1 ⟨N, by assumption, by omega, r2, by omega, r4, by omega, r6⟩ hok.2.2.2.2.2.1 hok.2.2.2.2.2.2 (by omega) (by omega)
    refine ⟨S5, Ans.of (by rw [ml_62]; exact Nat.le_of_ble_eq_true rfl) (Bod.lv (by rfl) (eTrm_go (d := D') q1 (cP_5 hok.1) hq1.2.2.2.2 s1)), ?_⟩
    cases hr2 : px (qK (by1 A) n) F 9 d r1.1 r1.2.1 0 with
    | none =>
      refine eO_none (by show (px _ F 9 d r1.1 r1.2.1 0).bind _ = none; rw [hr2]; rfl) (eBD_app hok ?_)
      have h9 := s2.1 hr2
      rw [v2] at h9
      exact h9
    | some r2' =>
      obtain ⟨y1, y2, y3, y4, y5⟩ := (px_G (qK (by1 A) n) F).2.1 9 (by decide) _ _ _ _ _ hr2
      have hB8 := BR_px (N := N) (by assumption) hr2 (by omega) (by omega) y2
      have hb8 := BR_at hB8
      obtain ⟨x1, x2, x3, x4⟩ := q_run (by omega) y2
      have hq2 := q_lt (by1 A) n r2'.1
      exact eO_some (x := (r2'.1, r2'.2.1, r1.2.2 ++ r2'.2.2)) (by show (px _ F 9 d r1.1 r1.2.1 0).bind _ = _; rw [hr2]; rfl) (eOK_app hok (s2.2 r2' hr2) (by omega))
theorem EA11_s (hX : pX A n S0 z0) (h0 : qK (by1 A) n 0 ≠ 1) (hA : EA A n S0 z0 fb F) (hJ : EJ A n S0 z0 fb F 12 64 9 2 lv12) : EA1 A n S0 z0 fb (F + 1) 11 := by
  intro d k S a c f cur D M Mc Mf hd hm hP hS hR hD
  obtain ⟨N, hBR, r1, r2, r3, r4, r5, r6⟩ := hR
  have hBa := BR_at hBR
  have et : rkp 11 = 3 := rfl
  have ek : rkp 15 = 2 := rfl
  obtain ⟨D', rfl⟩ : ∃ D', D = D' + 9 := ⟨D - 9, by omega⟩
  have hq := q_lt (by1 A) n k
  have hn := hX.1
  obtain ⟨S1, q1, q2⟩ := hA 15 (by decide) d k S a c f cur (D' + 8) M Mc Mf hd (by omega) hP hS ⟨N, by assumption, by omega, r2, by omega, r4, by omega, r6⟩ (by omega)
  show ∃ S1, Ans (D' + 9) 64 [.ref 44, .int (nI d)] S none S1 ∧ eO A n S0 z0 fb S a c f cur k M Mc Mf (pxL (px (qK (by1 A) n) F) 15 12 d k) S1
  unfold pxL
  cases hr : px (qK (by1 A) n) F 15 d k 0 0 with
  | none =>
    have hb := q2.1 hr
    exact ⟨S1, Ans.of (by rw [ml_64]; exact Nat.le_of_ble_eq_true rfl) (Bod.lv (by rfl) (ePst_go (d := D') q1 (ePst_stop (tk := 0) (eBD_5 hb) (by omega) (by omega) (by omega) (by omega) (by omega)))), eO_none rfl hb⟩
  | some r1 =>
    have hok := q2.2 r1 hr
    obtain ⟨u1, u2, u3, u4, u5⟩ := (px_G (qK (by1 A) n) F).2.2.2.2.2 _ _ _ _ _ hr
    have hB9 := BR_px (N := N) (by assumption) hr (by omega) (by omega) u2
    have hb9 := BR_at hB9
    obtain ⟨v1, v2, v3, v4⟩ := q_run (by omega) u2
    have hq1 := q_lt (by1 A) n r1.1
    have hfx := fxN_le cur r1.2.2
    have he6 := e6_le (qK (by1 A) n) r1.1
    obtain ⟨S5, s1, s2⟩ := hJ d r1.1 S1 (a + wC r1.2.2) (c + cnN r1.2.2) (f + fxN cur r1.2.2) cur (D' + 8) M Mc Mf r1.2.1 _ 0 rfl hd (by omega) hok.1 hok.2.1 ⟨N, by assumption, by omega, r2, by omega, r4, by omega, r6⟩ hok.2.2.2.2.2.1 hok.2.2.2.2.2.2 (by omega) (by omega)
    refine ⟨S5, Ans.of (by rw [ml_64]; exact Nat.le_of_ble_eq_true rfl) (Bod.lv (by rfl) (ePst_go (d := D') q1 s1)), ?_⟩
    cases hr2 : px (qK (by1 A) n) F 12 d r1.1 r1.2.1 0 with
    | none =>
      refine eO_none (by show (px _ F 12 d r1.1 r1.2.1 0).bind _ = none; rw [hr2]; rfl) (eBD_app hok ?_)
      have h9 := s2.1 hr2
      rw [v2] at h9
      exact h9
    | some r2' =>
      obtain ⟨y1, y2, y3, y4, y5⟩ := (px_G (qK (by1 A) n) F).2.2.1 _ _ _ _ _ hr2
      have hB10 := BR_px (N := N) (by assumption) hr2 (by omega) (by omega) y2
      have hb10 := BR_at hB10
      obtain ⟨x1, x2, x3, x4⟩ := q_run (by omega) y2
      have hq2 := q_lt (by1 A) n r2'.1
      exact eO_some (x := (r2'.1, r2'.2.1, r1.2.2 ++ r2'.2.2)) (by show (px _ F 12 d r1.1 r1.2.1 0).bind _ = _; rw [hr2]; rfl) (eOK_app hok (s2.2 r2' hr2) (by omega))
theorem EA4_s (hX : pX A n S0 z0) (h0 : qK (by1 A) n 0 ≠ 1) (hA : EA A n S0 z0 fb F) : EA1 A n S0 z0 fb (F + 1) 4 := by
  intro d k S a c f cur D M Mc Mf hd hm hP hS hR hD
  obtain ⟨N, hBR, r1, r2, r3, r4, r5, r6⟩ := hR
  have hBa := BR_at hBR
  have et : rkp 4 = 8 := rfl
  have ek : rkp 5 = 7 := rfl
  obtain ⟨D', rfl⟩ : ∃ D', D = D' + 9 := ⟨D - 9, by omega⟩
  have hq := q_lt (by1 A) n k
  have hn := hX.1
  show ∃ S1, Ans (D' + 9) 59 [.ref 44, .int (nI d)] S none S1 ∧ eO A n S0 z0 fb S a c f cur k M Mc Mf (pxU (qK (by1 A) n) (px (qK (by1 A) n) F) 59 25 4 5 d k) S1
  unfold pxU
  by_cases hk : qK (by1 A) n k = 59
  · rw [if_pos hk]
    have htk : sI S 3105 = nI 59 := by rw [cP_5 hP, hk]
    obtain ⟨g1, g2, g3, g4, g5, g6⟩ := q_gt (β := by1 A) (n := n) (k := k) (by omega)
    have hB11 := BR_1 (N := N) (k := k) (by assumption) (by omega) (by omega)
    have hb11 := BR_at hB11
    by_cases hd12 : 12 ≤ d
    · rw [if_pos hd12]
      obtain ⟨S1, p1, p2, p3, p4⟩ := deep_F (d := D' - 1) (dp := d) hX h0 hP hd12 hd
      rw [show D' - 1 + 9 = D' + 8 by omega] at p1
      exact ⟨_, Ans.of (by rw [ml_59]; exact Nat.le_of_ble_eq_true rfl) (Bod.lv (by rfl) (eNot_no (d := D') htk p1 (eS_lx p3 hS).1 (by omega))), eO_none rfl (eBD_x1 p2 (eS_lx p3 hS) (xF_lx p3 p4) (by omega) (by omega) (by omega))⟩
    · rw [if_neg hd12]
      obtain ⟨S1, v, p1, p2, p3, p4, p5, p6⟩ := deep_T (d := D' - 1) (dp := d) hX hP (by omega) (by omega)
      rw [show D' - 1 + 9 = D' + 8 by omega] at p1
      have hS1 := eS_lx p3 hS
      by_cases hk0 : qK (by1 A) n (k + 1) = 0
      · rw [p5 hk0] at p1
        have hb := cP_B hX p2 hk0
        rw [g5] at hb
        rw [px_bad hk0 F 4 0 0 (by decide)]
        exact ⟨_, Ans.of (by rw [ml_59]; exact Nat.le_of_ble_eq_true rfl) (Bod.lv (by rfl) (eNot_no (d := D') htk p1 hS1.1 (by omega))), eO_none rfl (eBD_x1 hb hS1 (xF_lx p3 p4) (by omega) (by omega) (by omega))⟩
      · rw [p6 hk0] at p1
        obtain ⟨S3, q1, q2⟩ := hA 4 (by decide) (d + 1) (k + 1) S1 a c f cur (D' + 8) (M - 2) Mc Mf (by omega) (by omega) p2 hS1 ⟨N, by assumption, by omega, by omega, by omega, r4, by omega, r6⟩ (by omega)
        cases hr : px (qK (by1 A) n) F 4 (d + 1) (k + 1) 0 0 with
        | none =>
          have hb := eBD_pre p3 p4 (q2.1 hr)
          rw [g5] at hb
          obtain ⟨b, c1, f1, e1, e2, e3, e4⟩ := hb.2.1
          exact ⟨_, Ans.of (by rw [ml_59]; exact Nat.le_of_ble_eq_true rfl) (Bod.lv (by rfl) (eNot_go (d := D') htk p1 q1 e1.1 (by omega))), eO_none rfl (eBD_le (eBD_w1 hb e1.1 (x := 25) (by omega) (by omega)) (by omega) (Nat.le_refl _) (Nat.le_refl _))⟩
        | some r1 =>
          have hok := eOK_pre p3 p4 (q2.2 r1 hr)
          obtain ⟨u1, u2, u3, u4, u5⟩ := (px_G (qK (by1 A) n) F).1 4 (by decide) _ _ _ _ _ hr
          have hB12 := BR_px (N := N) (by assumption) hr (by omega) (by omega) u2
          have hb12 := BR_at hB12
          obtain ⟨v1, v2, v3, v4⟩ := q_run (by omega) u2
          have hq1 := q_lt (by1 A) n r1.1
          have hop := op1 (fb := fb) (p := []) hok.1 hok.2.1 (by omega) (t := 25) (by omega)
          exact ⟨_, Ans.of (by rw [ml_59]; exact Nat.le_of_ble_eq_true rfl) (Bod.lv (by rfl) (eNot_go (d := D') htk p1 q1 hok.2.1.1 (by omega))), eO_some (x := (r1.1, 0, r1.2.2 ++ [(25, [], 0, 0)])) rfl (eOK_app hok hop (by show _ + _ + (0 + 0) ≤ _; omega))⟩
  · rw [if_neg hk]
    have hk64 := (q_lt (by1 A) n k).2.2.2.2
    obtain ⟨S1, q1, q2⟩ := hA 5 (by decide) d k S a c f cur (D' + 8) M Mc Mf hd (by omega) hP hS ⟨N, by assumption, by omega, r2, by omega, r4, by omega, r6⟩ (by omega)
    exact ⟨S1, Ans.of (by rw [ml_59]; exact Nat.le_of_ble_eq_true rfl) (Bod.lv (by rfl) (eNot_pass (d := D') (cP_5 hP) hk64 hk q1)), q2⟩
theorem EA10_s (hX : pX A n S0 z0) (h0 : qK (by1 A) n 0 ≠ 1) (hA : EA A n S0 z0 fb F) : EA1 A n S0 z0 fb (F + 1) 10 := by
  intro d k S a c f cur D M Mc Mf hd hm hP hS hR hD
  obtain ⟨N, hBR, r1, r2, r3, r4, r5, r6⟩ := hR
  have hBa := BR_at hBR
  have et : rkp 10 = 4 := rfl
  have ek : rkp 11 = 3 := rfl
  obtain ⟨D', rfl⟩ : ∃ D', D = D' + 9 := ⟨D - 9, by omega⟩
  have hq := q_lt (by1 A) n k
  have hn := hX.1
  show ∃ S1, Ans (D' + 9) 63 [.ref 44, .int (nI d)] S none S1 ∧ eO A n S0 z0 fb S a c f cur k M Mc Mf (pxU (qK (by1 A) n) (px (qK (by1 A) n) F) 16 26 10 11 d k) S1
  unfold pxU
  by_cases hk : qK (by1 A) n k = 16
  · rw [if_pos hk]
    have htk : sI S 3105 = nI 16 := by rw [cP_5 hP, hk]
    obtain ⟨g1, g2, g3, g4, g5, g6⟩ := q_gt (β := by1 A) (n := n) (k := k) (by omega)
    have hB13 := BR_1 (N := N) (k := k) (by assumption) (by omega) (by omega)
    have hb13 := BR_at hB13
    by_cases hd12 : 12 ≤ d
    · rw [if_pos hd12]
      obtain ⟨S1, p1, p2, p3, p4⟩ := deep_F (d := D' - 1) (dp := d) hX h0 hP hd12 hd
      rw [show D' - 1 + 9 = D' + 8 by omega] at p1
      exact ⟨_, Ans.of (by rw [ml_63]; exact Nat.le_of_ble_eq_true rfl) (Bod.lv (by rfl) (eNeg_no (d := D') htk p1 (eS_lx p3 hS).1 (by omega))), eO_none rfl (eBD_x1 p2 (eS_lx p3 hS) (xF_lx p3 p4) (by omega) (by omega) (by omega))⟩
    · rw [if_neg hd12]
      obtain ⟨S1, v, p1, p2, p3, p4, p5, p6⟩ := deep_T (d := D' - 1) (dp := d) hX hP (by omega) (by omega)
      rw [show D' - 1 + 9 = D' + 8 by omega] at p1
      have hS1 := eS_lx p3 hS
      by_cases hk0 : qK (by1 A) n (k + 1) = 0
      · rw [p5 hk0] at p1
        have hb := cP_B hX p2 hk0
        rw [g5] at hb
        rw [px_bad hk0 F 10 0 0 (by decide)]
        exact ⟨_, Ans.of (by rw [ml_63]; exact Nat.le_of_ble_eq_true rfl) (Bod.lv (by rfl) (eNeg_no (d := D') htk p1 hS1.1 (by omega))), eO_none rfl (eBD_x1 hb hS1 (xF_lx p3 p4) (by omega) (by omega) (by omega))⟩
      · rw [p6 hk0] at p1
        obtain ⟨S3, q1, q2⟩ := hA 10 (by decide) (d + 1) (k + 1) S1 a c f cur (D' + 8) (M - 2) Mc Mf (by omega) (by omega) p2 hS1 ⟨N, by assumption, by omega, by omega, by omega, r4, by omega, r6⟩ (by omega)
        cases hr : px (qK (by1 A) n) F 10 (d + 1) (k + 1) 0 0 with
        | none =>
          have hb := eBD_pre p3 p4 (q2.1 hr)
          rw [g5] at hb
          obtain ⟨b, c1, f1, e1, e2, e3, e4⟩ := hb.2.1
          exact ⟨_, Ans.of (by rw [ml_63]; exact Nat.le_of_ble_eq_true rfl) (Bod.lv (by rfl) (eNeg_go (d := D') htk p1 q1 e1.1 (by omega))), eO_none rfl (eBD_le (eBD_w1 hb e1.1 (x := 26) (by omega) (by omega)) (by omega) (Nat.le_refl _) (Nat.le_refl _))⟩
        | some r1 =>
          have hok := eOK_pre p3 p4 (q2.2 r1 hr)
          obtain ⟨u1, u2, u3, u4, u5⟩ := (px_G (qK (by1 A) n) F).1 10 (by decide) _ _ _ _ _ hr
          have hB14 := BR_px (N := N) (by assumption) hr (by omega) (by omega) u2
          have hb14 := BR_at hB14
          obtain ⟨v1, v2, v3, v4⟩ := q_run (by omega) u2
          have hq1 := q_lt (by1 A) n r1.1
          have hop := op1 (fb := fb) (p := []) hok.1 hok.2.1 (by omega) (t := 26) (by omega)
          exact ⟨_, Ans.of (by rw [ml_63]; exact Nat.le_of_ble_eq_true rfl) (Bod.lv (by rfl) (eNeg_go (d := D') htk p1 q1 hok.2.1.1 (by omega))), eO_some (x := (r1.1, 0, r1.2.2 ++ [(26, [], 0, 0)])) rfl (eOK_app hok hop (by show _ + _ + (0 + 0) ≤ _; omega))⟩
  · rw [if_neg hk]
    have hk64 := (q_lt (by1 A) n k).2.2.2.2
    obtain ⟨S1, q1, q2⟩ := hA 11 (by decide) d k S a c f cur (D' + 8) M Mc Mf hd (by omega) hP hS ⟨N, by assumption, by omega, r2, by omega, r4, by omega, r6⟩ (by omega)
    exact ⟨S1, Ans.of (by rw [ml_63]; exact Nat.le_of_ble_eq_true rfl) (Bod.lv (by rfl) (eNeg_pass (d := D') (cP_5 hP) hk64 hk q1)), q2⟩
theorem EA5_s (hX : pX A n S0 z0) (h0 : qK (by1 A) n 0 ≠ 1) (hA : EA A n S0 z0 fb F) : EA1 A n S0 z0 fb (F + 1) 5 := by
  intro d k S a c f cur D M Mc Mf hd hm hP hS hR hD
  obtain ⟨N, hBR, r1, r2, r3, r4, r5, r6⟩ := hR
  have hBa := BR_at hBR
  have et : rkp 5 = 7 := rfl
  have ek : rkp 6 = 6 := rfl
  obtain ⟨D', rfl⟩ : ∃ D', D = D' + 9 := ⟨D - 9, by omega⟩
  have hq := q_lt (by1 A) n k
  have hn := hX.1
  obtain ⟨S1, q1, q2⟩ := hA 6 (by decide) d k S a c f cur (D' + 8) M Mc Mf hd (by omega) hP hS ⟨N, by assumption, by omega, r2, by omega, r4, by omega, r6⟩ (by omega)
  show ∃ S1, Ans (D' + 9) 60 [.ref 44, .int (nI d)] S none S1 ∧ eO A n S0 z0 fb S a c f cur k M Mc Mf (px5 (qK (by1 A) n) (px (qK (by1 A) n) F) d k) S1
  unfold px5
  cases hr : px (qK (by1 A) n) F 6 d k 0 0 with
  | none =>
    have hb := q2.1 hr
    exact ⟨S1, Ans.of (by rw [ml_60]; exact Nat.le_of_ble_eq_true rfl) (Bod.lv (by rfl) (eCmp_no (d := D') (tk := 0) q1 hb.1.1 (by omega) rfl)), eO_none rfl hb⟩
  | some r1 =>
    have hok := q2.2 r1 hr
    obtain ⟨u1, u2, u3, u4, u5⟩ := (px_G (qK (by1 A) n) F).1 6 (by decide) _ _ _ _ _ hr
    have hB15 := BR_px (N := N) (by assumption) hr (by omega) (by omega) u2
    have hb15 := BR_at hB15
    obtain ⟨v1, v2, v3, v4⟩ := q_run (by omega) u2
    have hq1 := q_lt (by1 A) n r1.1
    have hfx := fxN_le cur r1.2.2
    by_cases hk : cmpO (qK (by1 A) n r1.1) = 0
    · exact ⟨S1, Ans.of (by rw [ml_60]; exact Nat.le_of_ble_eq_true rfl) (Bod.lv (by rfl) (eCmp_no (d := D') q1 (cP_5 hok.1) hq1.2.2.2.2 hk)), eO_some (x := r1) (if_pos hk) hok⟩
    · obtain ⟨k3, kop⟩ := cmpO_ok hk
      obtain ⟨g1, g2, g3, g4, g5, g6⟩ := q_gt (β := by1 A) (n := n) (k := r1.1) k3
      have hB16 := BR_1 (N := N) (k := r1.1) (by assumption) k3 (fun e => hk (by rw [e]; decide))
      have hb16 := BR_at hB16
      obtain ⟨S2, p1, p2, p3, p4⟩ := read_T (d := D' + 3) hX hok.1 (by omega) (by omega) (by omega)
      have hS2 := eS_lx p3 hok.2.1
      obtain ⟨S3, t1, t2⟩ := hA 6 (by decide) d (r1.1 + 1) S2 (a + wC r1.2.2) (c + cnN r1.2.2) (f + fxN cur r1.2.2) cur (D' + 8) (M - 2) Mc Mf hd (by omega) p2 hS2 ⟨N, by assumption, by omega, by omega, by omega, r4, by omega, r6⟩ (by omega)
      cases hr2 : px (qK (by1 A) n) F 6 d (r1.1 + 1) 0 0 with
      | none =>
        have hb := eBD_app hok (eBD_pre p3 p4 (t2.1 hr2))
        rw [g5, v2] at hb
        obtain ⟨b, c1, f1, e1, e2, e3, e4⟩ := hb.2.1
        refine ⟨_, Ans.of (by rw [ml_60]; exact Nat.le_of_ble_eq_true rfl) (Bod.lv (by rfl) (eCmp_op (d := D') q1 (cP_5 hok.1) hq1.2.2.2.2 hk (by omega) p1 t1 e1.1 (by omega))), eO_none ?_ (eBD_le (eBD_w1 hb e1.1 (x := cmpO (qK (by1 A) n r1.1)) (by omega) (by omega)) (by omega) (Nat.le_refl _) (Nat.le_refl _))⟩
        show (if cmpO (qK (by1 A) n r1.1) = 0 then _ else (px _ F 6 d (r1.1 + 1) 0 0).bind _) = none
        rw [if_neg hk, hr2]
        rfl
      | some r2' =>
        have hok2 := eOK_pre p3 p4 (t2.2 r2' hr2)
        obtain ⟨y1, y2, y3, y4, y5⟩ := (px_G (qK (by1 A) n) F).1 6 (by decide) _ _ _ _ _ hr2
        have hB17 := BR_px (N := N) (by assumption) hr2 (by omega) (by omega) y2
        have hb17 := BR_at hB17
        obtain ⟨x1, x2, x3, x4⟩ := q_run (by omega) y2
        have hq2 := q_lt (by1 A) n r2'.1
        have hop := op1 (fb := fb) (p := [qK (by1 A) n r1.1]) hok2.1 hok2.2.1 (by omega) (t := cmpO (qK (by1 A) n r1.1)) (by omega)
        have hcn : cnN [(cmpO (qK (by1 A) n r1.1), [qK (by1 A) n r1.1], 0, 0)] = 0 := by show cnO _ + 0 = 0; rw [cnO_op (by omega)]
        refine ⟨_, Ans.of (by rw [ml_60]; exact Nat.le_of_ble_eq_true rfl) (Bod.lv (by rfl) (eCmp_op (d := D') q1 (cP_5 hok.1) hq1.2.2.2.2 hk (by omega) p1 t1 hok2.2.1.1 (by omega))), eO_some (x := (r2'.1, 0, r1.2.2 ++ (r2'.2.2 ++ [(cmpO (qK (by1 A) n r1.1), [qK (by1 A) n r1.1], 0, 0)]))) ?_ (eOK_app hok (eOK_app hok2 hop (by rw [hcn]; omega)) (by rw [cnN_app, hcn]; omega))⟩
        show (if cmpO (qK (by1 A) n r1.1) = 0 then _ else (px _ F 6 d (r1.1 + 1) 0 0).bind _) = _
        rw [if_neg hk, hr2]
        rfl
end
