/-! THE RULES OF EXPR IN THE CLASS: what is behind a value, values; all of them -/
section
variable {A : Nat → Int32} {n z0 fb F : Nat} {S0 : cS}
theorem EJ12_s (hX : pX A n S0 z0) (h0 : qK (by1 A) n 0 ≠ 1) (hA : EA A n S0 z0 fb F) (hL : EL A n S0 z0 fb F) (hJ : EJ A n S0 z0 fb F 12 64 9 2 lv12) : EJ A n S0 z0 fb (F + 1) 12 64 9 2 lv12 := by
  intro d k S a c f cur D M Mc Mf g lv tt hlv hd hm hP hS hR hg htg htt hD
  obtain ⟨N, hBR, r1, r2, r3, r4, r5, r6⟩ := hR
  have hBa := BR_at hBR
  obtain ⟨D', rfl⟩ : ∃ D', D = D' + 9 := ⟨D - 9, by omega⟩
  have hq := q_lt (by1 A) n k
  have hn := hX.1
  subst hlv
  show ∃ S1, _ ∧ eO A n S0 z0 fb S a c f cur k M Mc Mf (px12 (qK (by1 A) n) (px (qK (by1 A) n) F) d k g) S1
  unfold px12
  -- the next turn
  have next : ∀ {S2 : cS} {k1 g1 : Nat} {os : List Op}, eOK A n S0 z0 fb S a c f cur k1 g1 os S2 → BR (by1 A) n N k1 → k + 2 ≤ k1 → qP (by1 A) n k + 2 ≤ qP (by1 A) n k1 → qL (by1 A) n k1 = qL (by1 A) n k → wC os + 1 ≤ 3 * (qP (by1 A) n k1 - qP (by1 A) n k) → 2 * nmN os ≤ qP (by1 A) n k1 - qP (by1 A) n k → 2 * cnN os ≤ qP (by1 A) n k1 - qP (by1 A) n k → ∃ S5, Bod (D' + 9) 64 9 [(3, .int (nI (tt + 1))), (2, .int (nI 1)), (0, .ref 44), (1, .int (nI d))] [] S2 none S5 ∧ eO A n S0 z0 fb S a c f cur k M Mc Mf ((px (qK (by1 A) n) F 12 d k1 g1 0).bind fun s => some (s.1, s.2.1, os ++ s.2.2)) S5 := fun {S2 k1 g1 os} hok hBk e1 e2 e3 e4 e5 e6 => by
    have hbk := BR_at hBk
    have hq1 := q_lt (by1 A) n k1
    have hfx := fxN_le cur os
    obtain ⟨S5, s1, s2⟩ := hJ d k1 S2 (a + wC os) (c + cnN os) (f + fxN cur os) cur (D' + 9) M Mc Mf g1 _ (tt + 1) rfl hd (by omega) hok.1 hok.2.1 ⟨N, by assumption, by omega, r2, by omega, r4, by omega, r6⟩ hok.2.2.2.2.2.1 hok.2.2.2.2.2.2 (by omega) hD
    refine ⟨S5, s1, ?_⟩
    cases hr2 : px (qK (by1 A) n) F 12 d k1 g1 0 with
    | none =>
      refine eO_none rfl (eBD_app hok ?_)
      have h9 := s2.1 hr2
      rw [e3] at h9
      exact h9
    | some r2' =>
      obtain ⟨y1, y2, y3, y4, y5⟩ := (px_G (qK (by1 A) n) F).2.2.1 _ _ _ _ _ hr2
      have hB1 := BR_px (N := N) (by assumption) hr2 (by omega) (by omega) y2
      have hb1 := BR_at hB1
      obtain ⟨x1, x2, x3, x4⟩ := q_run (by omega) y2
      have hq2 := q_lt (by1 A) n r2'.1
      exact eO_some (x := (r2'.1, r2'.2.1, os ++ r2'.2.2)) rfl (eOK_app hok (s2.2 r2' hr2) (by omega))
  have stopB : ∀ {S2 : cS}, eBD A n S0 z0 S a c f cur (qL (by1 A) n k) M Mc Mf S2 → Bod (D' + 9) 64 9 [(3, .int (nI (tt + 1))), (2, .int (nI 1)), (0, .ref 44), (1, .int (nI d))] [] S2 none S2 := fun {S2} hb => ePst_stop (d := D' + 1) (tk := 0) (eBD_5 hb) (by omega) (by omega) (by omega) (by omega) (by omega)
  by_cases hk6 : qK (by1 A) n k = 6
  · rw [if_pos hk6]
    have htk : sI S 3105 = nI 6 := by rw [cP_5 hP, hk6]
    obtain ⟨g1, g2, g3, g4, g5, g6⟩ := q_gt (β := by1 A) (n := n) (k := k) (by omega)
    have hB2 := BR_1 (N := N) (k := k) (by assumption) (by omega) (by omega)
    have hb2 := BR_at hB2
    have hM := EM_s hX h0 hL (show 1 ≤ F by omega)
    obtain ⟨S1, v, p1, p2⟩ := hM d k S a c f cur (D' + 9) (M - 2) Mc Mf 7 (Or.inl rfl) hd (by omega) (by omega) hP hS ⟨N, by assumption, by omega, by omega, by omega, r4, by omega, r6⟩ (by omega)
    have hwc : ∀ x, (if 12 ≤ d then none else px (qK (by1 A) n) F 13 (d + 1) (k + 1) 0 7) = some x → pxq (qK (by1 A) n) 1 0 0 0 (k + 1) x.1 x.2.2 := fun x hx => by
      split at hx
      · cases hx
      · exact (px_G (qK (by1 A) n) F).2.2.2.1 _ _ _ _ _ (by omega) hx
    obtain ⟨S2, t1, t2, t3⟩ := made_ok (d := D' + 6) (t := 51) ⟨by omega, r4⟩ (by omega) (fun x hx => by
      obtain ⟨u1, u2, u3, u4, u5⟩ := hwc x hx
      have hx2 : px (qK (by1 A) n) F 13 (d + 1) (k + 1) 0 7 = some x := by
        split at hx
        · cases hx
        · exact hx
      have hB9 := BR_px (N := N) (by assumption) hx2 (by omega) (by omega) u2
      have hb9 := BR_at hB9
      obtain ⟨v1, v2, v3, v4⟩ := q_run (by omega) u2
      have hq1 := q_lt (by1 A) n x.1
      exact ⟨by omega, by omega⟩) p2
    cases hr : (if 12 ≤ d then none else px (qK (by1 A) n) F 13 (d + 1) (k + 1) 0 7 : PR) with
    | none =>
      have hb := eBD_le (t2 hr) (show M - 2 + 2 ≤ M by omega) (Nat.le_refl _) (Nat.le_refl _)
      refine ⟨S2, ePst_call (d := D' + 1) htk (by omega) p1 t1 (stopB hb), eO_none ?_ hb⟩
      split at hr
      · rename_i h; rw [if_pos h]
      · rename_i h; rw [if_neg h, hr]; rfl
    | some x =>
      have hd12 : ¬ 12 ≤ d := fun h => by rw [if_pos h] at hr; cases hr
      rw [if_neg hd12] at hr
      obtain ⟨u1, u2, u3, u4, u5⟩ := (px_G (qK (by1 A) n) F).2.2.2.1 _ _ _ _ _ (by omega) hr
      have hB3 := BR_px (N := N) (by assumption) hr (by omega) (by omega) u2
      have hb3 := BR_at hB3
      obtain ⟨v1, v2, v3, v4⟩ := q_run (by omega) u2
      have hok := t3 x (by rw [if_neg hd12]; exact hr)
      have w1 : wC (x.2.2 ++ [(51, [x.2.1], 0, 0)]) = wC x.2.2 + 2 := by rw [wC_app]; rfl
      have w2 : nmN (x.2.2 ++ [(51, [x.2.1], 0, 0)]) = nmN x.2.2 := by rw [nmN_app]; rfl
      have w3 : cnN (x.2.2 ++ [(51, [x.2.1], 0, 0)]) = cnN x.2.2 := by rw [cnN_app]; rfl
      obtain ⟨S5, s1, s2⟩ := next hok (by assumption) (by omega) (by omega) (by rw [v2, g5]) (by rw [w1]; omega) (by rw [w2]; omega) (by rw [w3]; omega)
      refine ⟨S5, ePst_call (d := D' + 1) htk (by omega) p1 t1 s1, ?_⟩
      rw [if_neg hd12, hr]
      simp only [List.append_assoc, List.singleton_append] at s2
      exact s2
  rw [if_neg hk6]
  by_cases hk8 : qK (by1 A) n k = 8
  · rw [if_pos hk8]
    have htk : sI S 3105 = nI 8 := by rw [cP_5 hP, hk8]
    obtain ⟨g1, g2, g3, g4, g5, g6⟩ := q_gt (β := by1 A) (n := n) (k := k) (by omega)
    have hB4 := BR_1 (N := N) (k := k) (by assumption) (by omega) (by omega)
    have hb4 := BR_at hB4
    obtain ⟨S1, p1, p2⟩ := idx_s (D' := D') hX h0 hA hd (by omega) hk8 hP hS ⟨N, by assumption, by omega, r2, by omega, r4, by omega, r6⟩ (by omega)
    rcases p2 with ⟨hd11, r, hr, hk9, hok⟩ | ⟨hnone, hb⟩
    · obtain ⟨u1, u2, u3, u4, u5⟩ := (px_G (qK (by1 A) n) F).1 0 (by decide) _ _ _ _ _ hr
      have hB5 := BR_px (N := N) (by assumption) hr (by omega) (by omega) u2
      have hb5 := BR_at hB5
      obtain ⟨v1, v2, v3, v4⟩ := q_run (by omega) u2
      obtain ⟨y1, y2, y3, y4, y5, y6⟩ := q_gt (β := by1 A) (n := n) (k := r.1) (by omega)
      have hB6 := BR_1 (N := N) (k := r.1) (by assumption) (by omega) (by omega)
      have hb6 := BR_at hB6
      have w1 : wC (r.2.2 ++ [(39, [], 0, 0)]) = wC r.2.2 + 1 := by rw [wC_app]; rfl
      have w2 : nmN (r.2.2 ++ [(39, [], 0, 0)]) = nmN r.2.2 := by rw [nmN_app]; rfl
      have w3 : cnN (r.2.2 ++ [(39, [], 0, 0)]) = cnN r.2.2 := by rw [cnN_app]; rfl
      obtain ⟨S5, s1, s2⟩ := next hok (by assumption) (by omega) (by omega) (by rw [y5, v2, g5]) (by rw [w1]; omega) (by rw [w2]; omega) (by rw [w3]; omega)
      refine ⟨S5, ePst_index (d := D' + 1) htk (by omega) p1 s1, ?_⟩
      rw [if_neg (by omega), hr]
      show eO A n S0 z0 fb S a c f cur k M Mc Mf (if qK (by1 A) n r.1 = 9 then _ else none) S5
      rw [if_pos hk9]
      simp only [List.append_assoc, List.singleton_append] at s2
      exact s2
    · refine ⟨S1, ePst_index (d := D' + 1) htk (by omega) p1 (stopB hb), eO_none ?_ hb⟩
      rcases hnone with h | h | ⟨r, h, h9⟩
      · rw [if_pos h]
      · rw [h]; split <;> rfl
      · rw [h]
        split
        · rfl
        · exact if_neg h9
  rw [if_neg hk8]
  by_cases hk14 : qK (by1 A) n k = 14
  · rw [if_pos hk14]
    have htk : sI S 3105 = nI 14 := by rw [cP_5 hP, hk14]
    obtain ⟨g1, g2, g3, g4, g5, g6⟩ := q_gt (β := by1 A) (n := n) (k := k) (by omega)
    have hB7 := BR_1 (N := N) (k := k) (by assumption) (by omega) (by omega)
    have hb7 := BR_at hB7
    obtain ⟨S1, p1, p2⟩ := att_s (fb := fb) (d := D') (M := M) (Mc := Mc) (Mf := Mf) hX h0 hk14 hP hS ⟨N, by assumption, by omega, r2, by omega, r4, by omega, r6⟩
    rcases p2 with ⟨hk3, hok⟩ | ⟨hk3, hb⟩
    · obtain ⟨y1, y2, y3, y4, y5, y6⟩ := q_gt (β := by1 A) (n := n) (k := k + 1) (by omega)
      have hB8 := BR_1 (N := N) (k := k + 1) (by assumption) (by omega) (by omega)
      have hb8 := BR_at hB8
      have y2' : qP (by1 A) n (k + 1) + 1 ≤ qP (by1 A) n (k + 2) := y2
      have y5' : qL (by1 A) n (k + 2) = qL (by1 A) n (k + 1) := y5
      obtain ⟨S5, s1, s2⟩ := next hok (by assumption) (by omega) (by omega) (by rw [y5', g5]) (by show 2 + 0 + 1 ≤ _; omega) (by show 2 * (0 + 0) ≤ _; omega) (by show 2 * (0 + 0) ≤ _; omega)
      refine ⟨S5, ePst_attr (d := D' + 1) htk (by omega) p1 s1, ?_⟩
      rw [if_pos hk3]
      exact s2
    · refine ⟨S1, ePst_attr (d := D' + 1) htk (by omega) p1 (stopB hb), eO_none (if_neg hk3) hb⟩
  · rw [if_neg hk14]
    have hk64 := (q_lt (by1 A) n k).2.2.2.2
    exact ⟨S, ePst_stop (d := D' + 1) (cP_5 hP) hk64 hk6 hk8 hk14 (by omega), eO_some rfl (eOK_nil hP hS (by omega) hg htg)⟩
end
