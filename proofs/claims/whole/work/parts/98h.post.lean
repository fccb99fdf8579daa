/-! THE RULES OF EXPR IN THE CLASS: index, attribute, calls -/
section
variable {A : Nat → Int32} {n z0 fb F : Nat} {S0 : cS}
theorem eBN_x {a c f cur l M Mc Mf M1 a1 w : Nat} {S S1 S2 : cS} (h : eBN A n S0 z0 S a c f cur l M Mc Mf S1) (ha1 : sI S1 2307 = nI a1) (hb : a1 ≤ 2 ^ 30) (hM2 : M ≤ 2 ^ 30) (hM : M + w ≤ M1) (hF : FrT [2307, 4403, 4404] [] [24] [] S1 S2) (h24 : ∀ i, i < a → sA S2 24 i = sA S1 24 i) (h7 : sI S2 2307 = nI (a1 + w)) (ht : a ≤ a1 → tgA S2 a (a1 + w)) : eBD A n S0 z0 S a c f cur l M1 Mc Mf S2 := by
  obtain ⟨b1, ⟨x, y, w2, b2, b3, b4, b5, b6, b7, b8⟩, b9⟩ := h
  obtain rfl : x = a1 := nI_inj (by omega) (by omega) (b2.1.symm.trans ha1)
  exact eBD_x (w := w) b1 b2 b9 b3 b5 b7 (by omega) b6 b8 hF h24 h7 (ht b3)
theorem eBN_top {a c f cur l M Mc Mf : Nat} {S S1 : cS} (h : eBN A n S0 z0 S a c f cur l M Mc Mf S1) : ∃ a1, sI S1 2307 = nI a1 ∧ a ≤ a1 ∧ a1 ≤ M := by
  obtain ⟨b1, ⟨x, y, w2, b2, b3, b4, b5⟩, b9⟩ := h
  exact ⟨x, b2.1, b3, b4⟩
/-- [ .. ] behind a value -/
theorem idx_s (hX : pX A n S0 z0) (h0 : qK (by1 A) n 0 ≠ 1) (hA : EA A n S0 z0 fb F) {d k a c f cur D' M Mc Mf : Nat} {S : cS} (hd : d ≤ 12) (hm : 16 * (n - qP (by1 A) n k) < F + 4) (hk : qK (by1 A) n k = 8) (hP : cP A n S0 z0 k S) (hS : eS S a c f cur) (hR : RM (by1 A) n k 0 (40 * (13 - d)) a c f M Mc Mf) (hD : 20 + 16 * (13 - d) - 4 ≤ D' + 9) : ∃ S1, Ans (D' + 9) 79 [.ref 44, .int (nI d)] S none S1 ∧ ((d ≤ 11 ∧ ∃ r, px (qK (by1 A) n) F 0 (d + 1) (k + 1) 0 0 = some r ∧ qK (by1 A) n r.1 = 9 ∧ eOK A n S0 z0 fb S a c f cur (r.1 + 1) 2 (r.2.2 ++ [(39, [], 0, 0)]) S1) ∨ ((12 ≤ d ∨ px (qK (by1 A) n) F 0 (d + 1) (k + 1) 0 0 = none ∨ ∃ r, px (qK (by1 A) n) F 0 (d + 1) (k + 1) 0 0 = some r ∧ qK (by1 A) n r.1 ≠ 9) ∧ eBD A n S0 z0 S a c f cur (qL (by1 A) n k) M Mc Mf S1)) := by
  obtain ⟨N, hBR, r1, r2, r3, r4, r5, r6⟩ := hR
  have hBa := BR_at hBR
  have hq := q_lt (by1 A) n k
  have hn := hX.1
  have et : rkp 0 = 10 := rfl
  obtain ⟨g1, g2, g3, g4, g5, g6⟩ := q_gt (β := by1 A) (n := n) (k := k) (by omega)
  have hB1 := BR_1 (N := N) (k := k) (by assumption) (by omega) (by omega)
  have hb1 := BR_at hB1
  -- behind a fault: the sign is put all the same
  have hput : ∀ {S2 : cS} {b : Nat}, eBN A n S0 z0 S a c f cur (qL (by1 A) n k) (M - 2) Mc Mf S2 → sI S2 2307 = nI b → b ≤ M - 2 → eBD A n S0 z0 S a c f cur (qL (by1 A) n k) M Mc Mf (wI 4403 (nI 2) (wI 4404 (nI b) (wI 2307 (nI (b + 1)) (wA 24 b (nI 39) S2)))) := fun {S2 b} h hb hbM => by
    obtain ⟨b2, c1, c2, c3⟩ := eBN_top h
    obtain rfl : b = b2 := nI_inj (by omega) (by omega) (hb.symm.trans c1)
    exact eBN_x (w := 1) h hb (by omega) (by omega) (by omega) (FrT_wI (by decide) (FrT_wI (by decide) (FrT_wI (by decide) (FrT_wA (by decide) (FrT.refl _ _ _ _ _))))) (fun i hi => by show upd (sA S2 24) b _ i = _; exact if_neg (by omega)) (by simp only [rI, rJI, rAI, rLI, rIJ, rIA, rJA, rLA, rIL, reduceIte, Nat.reduceEqDiff]) (fun h3 => Or.inr ⟨2, b, rIe _ _ _, by omega, by omega, (by simp only [rI, rJI, rAI, rLI, rIJ, rIA, rJA, rLA, rIL, reduceIte, Nat.reduceEqDiff]), h3, by omega, fun e => by omega⟩)
  have hpb : ∀ {S2 : cS}, eBN A n S0 z0 S a c f cur (qL (by1 A) n k) (M - 2) Mc Mf S2 → ∃ S3 b, Ans (D' + 8) 75 [.ref 31, .int (nI 9)] S2 none S3 ∧ eBN A n S0 z0 S a c f cur (qL (by1 A) n k) (M - 2) Mc Mf S3 ∧ sI S3 2307 = nI b ∧ b ≤ M - 2 := fun {S2} hb2 => by
    obtain ⟨S3, t1, t2, t3, t4⟩ := pass_B (d := D' + 6) hb2.1 (t := 9) (by omega) (by omega)
    have h5 := eBN_lx hb2 t2 t3 t4
    obtain ⟨b, c1, c2, c3⟩ := eBN_top h5
    exact ⟨S3, b, t1, h5, c1, c3⟩
  by_cases hd12 : 12 ≤ d
  · obtain ⟨S1, p1, p2, p3, p4⟩ := deep_F (d := D' - 1) (dp := d) hX h0 hP hd12 hd
    rw [show D' - 1 + 9 = D' + 8 by omega] at p1
    obtain ⟨S3, b, t1, t2, t3, t4⟩ := hpb (eBN_0 p2 hS p3 p4 (by omega) (by omega) (by omega))
    exact ⟨_, Ans.of (by rw [ml_79]; exact Nat.le_of_ble_eq_true rfl) (Bod.lv (by rfl) (eIdx_no (d := D') p1 t1 t3 (by omega))), Or.inr ⟨Or.inl hd12, hput t2 t3 t4⟩⟩
  · obtain ⟨S1, v, p1, p2, p3, p4, p5, p6⟩ := deep_T (d := D' - 1) (dp := d) hX hP (by omega) (by omega)
    rw [show D' - 1 + 9 = D' + 8 by omega] at p1
    have hS1 := eS_lx p3 hS
    by_cases hk0 : qK (by1 A) n (k + 1) = 0
    · rw [p5 hk0] at p1
      have hb2 := cP_B hX p2 hk0
      rw [g5] at hb2
      obtain ⟨S3, b, t1, t2, t3, t4⟩ := hpb (eBN_0 hb2 hS p3 p4 (by omega) (by omega) (by omega))
      exact ⟨_, Ans.of (by rw [ml_79]; exact Nat.le_of_ble_eq_true rfl) (Bod.lv (by rfl) (eIdx_no (d := D') p1 t1 t3 (by omega))), Or.inr ⟨Or.inr (Or.inl (px_bad hk0 F 0 0 0 (by decide))), hput t2 t3 t4⟩⟩
    · rw [p6 hk0] at p1
      obtain ⟨S2, q1, q2⟩ := hA 0 (by decide) (d + 1) (k + 1) S1 a c f cur (D' + 8) (M - 2) Mc Mf (by omega) (by omega) p2 hS1 ⟨N, by assumption, by omega, by omega, by omega, r4, by omega, r6⟩ (by omega)
      have q1' : Ans (D' + 8) 57 [.ref 44, .int (nI (d + 1))] S1 none S2 := q1
      cases hr : px (qK (by1 A) n) F 0 (d + 1) (k + 1) 0 0 with
      | none =>
        have hb := eBN_pre p3 p4 (eBD_N (q2.1 hr))
        rw [g5] at hb
        obtain ⟨S3, b, t1, t2, t3, t4⟩ := hpb hb
        exact ⟨_, Ans.of (by rw [ml_79]; exact Nat.le_of_ble_eq_true rfl) (Bod.lv (by rfl) (eIdx_go (d := D') p1 q1' t1 t3 (by omega))), Or.inr ⟨Or.inr (Or.inl rfl), hput t2 t3 t4⟩⟩
      | some r =>
        have hok := eON_pre p3 p4 (eOK_N (q2.2 r hr))
        obtain ⟨u1, u2, u3, u4, u5⟩ := (px_G (qK (by1 A) n) F).1 0 (by decide) _ _ _ _ _ hr
        have hB2 := BR_px (N := N) (by assumption) hr (by omega) (by omega) u2
        have hb2 := BR_at hB2
        obtain ⟨v1, v2, v3, v4⟩ := q_run (by omega) u2
        have hq1 := q_lt (by1 A) n r.1
        have hfx := fxN_le cur r.2.2
        by_cases hk9 : qK (by1 A) n r.1 = 9
        · obtain ⟨S3, t1, t2, t3, t4⟩ := pass_T (d := D' + 1) hX hok.1 hk9 (by omega)
          have hok2 := eON_lx hok (by omega) t2 t3 t4
          have hop := opI (fb := fb) t2 hok2.2.1 (by omega)
          exact ⟨_, Ans.of (by rw [ml_79]; exact Nat.le_of_ble_eq_true rfl) (Bod.lv (by rfl) (eIdx_go (d := D') p1 q1' t1 hok2.2.1.1 (by omega))), Or.inl ⟨by omega, r, rfl, hk9, eON_OK hok2 hop (by show _ + _ + (0 + 0) ≤ _; omega)⟩⟩
        · obtain ⟨S3, t1, t2, t3, t4⟩ := pass_F (d := D' + 6) (t := 9) hX h0 hok.1 hk9 (by omega)
          rw [v2, g5] at t2
          have hb := eON_bad (M := M - 2) (Mc := Mc) (Mf := Mf) hok t2 t3 t4 (by omega) (by omega) (by omega)
          obtain ⟨b, c1, c2, c3⟩ := eBN_top hb
          exact ⟨_, Ans.of (by rw [ml_79]; exact Nat.le_of_ble_eq_true rfl) (Bod.lv (by rfl) (eIdx_go (d := D') p1 q1' t1 c1 (by omega))), Or.inr ⟨Or.inr (Or.inr ⟨r, rfl, hk9⟩), hput hb c1 c3⟩⟩
/-- . NAME behind a value -/
theorem att_s (hX : pX A n S0 z0) (h0 : qK (by1 A) n 0 ≠ 1) {d k a c f cur M Mc Mf : Nat} {S : cS} (hk : qK (by1 A) n k = 14) (hP : cP A n S0 z0 k S) (hS : eS S a c f cur) (hR : RM (by1 A) n k 0 0 a c f M Mc Mf) : ∃ S1, Ans (d + 9) 80 [.ref 44] S none S1 ∧ ((qK (by1 A) n (k + 1) = 3 ∧ eOK A n S0 z0 fb S a c f cur (k + 2) 3 [(44, [k + 1], 0, 0)] S1) ∨ (qK (by1 A) n (k + 1) ≠ 3 ∧ eBD A n S0 z0 S a c f cur (qL (by1 A) n k) M Mc Mf S1)) := by
  obtain ⟨N, hBR, r1, r2, r3, r4, r5, r6⟩ := hR
  have hBa := BR_at hBR
  have hq := q_lt (by1 A) n k
  have hn := hX.1
  obtain ⟨g1, g2, g3, g4, g5, g6⟩ := q_gt (β := by1 A) (n := n) (k := k) (by omega)
  have hB3 := BR_1 (N := N) (k := k) (by assumption) (by omega) (by omega)
  have hb3 := BR_at hB3
  obtain ⟨S1, p1, p2, p3, p4⟩ := read_T (d := d + 3) hX hP (by omega) (by omega) (by omega)
  have hS1 := eS_lx p3 hS
  by_cases hk3 : qK (by1 A) n (k + 1) = 3
  · obtain ⟨q, z, n1, n2, n3, n4, n5, n6⟩ := cP_name p2 hk3
    have hop := opA (fb := fb) p2 hS1 (by omega) hk3 n1 (by omega)
    obtain ⟨S2, t1, t2, t3, t4⟩ := read_T (d := d + 3) hX hop.1 (by omega) (by omega) (by omega)
    have h5 := cP_5 p2
    rw [hk3] at h5
    exact ⟨S2, Ans.of (by rw [ml_80]; exact Nat.le_of_ble_eq_true rfl) (Bod.lv (by rfl) (eAtt_go (d := d) p1 h5 n1 hS1.1 (by omega) t1)), Or.inl ⟨hk3, eOK_pre p3 p4 (eOK_lx hop (by show c + (0 + 0) ≤ 5200; omega) t2 t3 t4)⟩⟩
  · obtain ⟨S2, t1, t2, t3, t4⟩ := fail_T (d := d + 7) hX h0 p2
    rw [g5] at t2
    have hS2 := eS_lx t3 hS1
    have hx : xF a c f S S2 := xF_trans (xF_lx (a := a) (c := c) (f := f) p3 p4) (xF_lx (a := a) (c := c) (f := f) t3 t4) (Nat.le_refl _) (Nat.le_refl _) (Nat.le_refl _)
    have hb : eBD A n S0 z0 S a c f cur (qL (by1 A) n k) M Mc Mf (wI 4403 (nI 3) (wI 4404 (nI a) (wI 2307 (nI (a + 2)) (wA 24 (a + 1) (sI S2 3109) (wA 24 a (nI 44) S2))))) := by
      refine eBD_x (w := 2) t2 hS2 hx (Nat.le_refl _) (Nat.le_refl _) (Nat.le_refl _) (by omega) (by omega) (by omega) (FrT_wI (by decide) (FrT_wI (by decide) (FrT_wI (by decide) (FrT_wA (by decide) (FrT_wA (by decide) (FrT.refl _ _ _ _ _)))))) (fun i hi => ?_) (by simp only [rI, rJI, rAI, rLI, rIJ, rIA, rJA, rLA, rIL, reduceIte, Nat.reduceEqDiff]) (Or.inr ⟨3, a, rIe _ _ _, by omega, by omega, (by simp only [rI, rJI, rAI, rLI, rIJ, rIA, rJA, rLA, rIL, reduceIte, Nat.reduceEqDiff]), Nat.le_refl _, by omega, fun e => by omega⟩)
      show upd (upd (sA S2 24) a _) (a + 1) _ i = _
      rw [upd_at, upd_at, if_neg (by omega), if_neg (by omega)]
    have hk64 := (q_lt (by1 A) n (k + 1)).2.2.2.2
    exact ⟨_, Ans.of (by rw [ml_80]; exact Nat.le_of_ble_eq_true rfl) (Bod.lv (by rfl) (eAtt_no (d := d) p1 (cP_5 p2) hk64 hk3 t1 hS2.1 (by omega) (read_B (d := d + 7) hb.1))), Or.inr ⟨hk3, hb⟩⟩
/-- what brackets make of values -/
theorem made_ok {d k a c f cur t v M Mc Mf : Nat} {r : PR} {S S1 : cS} (hR : M + 2 ≤ 40960 ∧ Mc ≤ 5190) (ht : t = 49 ∨ t = 50 ∨ t = 51) (hwc : ∀ x, r = some x → a + wC x.2.2 ≤ M ∧ c + cnN x.2.2 ≤ 5200) (h : eOv A n S0 z0 fb S a c f cur k M Mc Mf r v S1) : ∃ S2, Ans (d + 3) 77 [.ref 44, .int (nI t), .int (nI v)] S1 none S2 ∧ (r = none → eBD A n S0 z0 S a c f cur (qL (by1 A) n k) (M + 2) Mc Mf S2) ∧ ∀ x, r = some x → eOK A n S0 z0 fb S a c f cur x.1 0 (x.2.2 ++ [(t, [x.2.1], 0, 0)]) S2 := by
  cases hr : r with
  | none =>
    have hb := h.1 hr
    obtain ⟨b, c1, c2, c3⟩ := eBN_top hb
    refine ⟨_, made_ev (d := d) (x := nI t) (y := nI v) c1 (by omega), fun _ => ?_, fun x hx => by cases hx⟩
    refine eBN_x (w := 2) hb c1 (by omega) (by omega) (Nat.le_refl _) (FrT_wI (by decide) (FrT_wI (by decide) (FrT_wA (by decide) (FrT_wA (by decide) (FrT.refl _ _ _ _ _))))) (fun i hi => ?_) (by simp only [rI, rJI, rAI, rLI, rIJ, rIA, rJA, rLA, rIL, reduceIte, Nat.reduceEqDiff]) (fun _ => Or.inl (rIe _ _ _))
    show upd (upd (sA S1 24) b _) (b + 1) _ i = _
    rw [upd_at, upd_at, if_neg (by omega), if_neg (by omega)]
  | some x =>
    obtain ⟨hok, rfl⟩ := h.2 x hr
    obtain ⟨w1, w2⟩ := hwc x hr
    have hop := op2 (fb := fb) (m := x.2.1) hok.1 hok.2.1 w2 ht
    have hcn : cnN [(t, [x.2.1], 0, 0)] = 0 := by show cnO _ + 0 = 0; rw [cnO_op (by omega)]
    refine ⟨_, made_ev (d := d) (x := nI t) (y := nI x.2.1) hok.2.1.1 (by omega), fun h => (by cases h), fun y hy => ?_⟩
    injection hy with hy
    subst hy
    exact eON_OK hok hop (by rw [hcn]; omega)
end
