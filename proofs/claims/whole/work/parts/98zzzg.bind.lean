/-! BINDING in the class: a target and = -/
section
variable {A : Nat → Int32} {n z0 fb a0 s ab d : Nat} {S0 B : cS}
theorem exs_G {β : Nat → Nat} {n s k : Nat} {r : Nat × Nat × List Op} (h : exs (qK β n) s k = some r) : k + 1 ≤ r.1 ∧ (∀ j, k ≤ j → j < r.1 → 3 ≤ qK β n j) ∧ wC r.2.2 ≤ 3 * (r.1 - k) ∧ 2 * cnN r.2.2 ≤ (r.1 - k) + 1 ∧ 2 * fxM r.2.2 ≤ (r.1 - k) + 1 ∧ ∀ a, bks a r.2.2 = [] := by
  obtain ⟨r0, h1, rfl⟩ := exs_px h
  obtain ⟨u1, u2, u3, u4, u5⟩ := (px_G (qK β n) 60000).1 0 (by decide) _ _ _ _ _ h1
  obtain ⟨w1, w2⟩ := map_wC s r0.2.2
  have wf := map_fx s r0.2.2 (px_pg h1)
  have hfx := fxN_le s r0.2.2
  refine ⟨u1, u2, by dsimp only; rw [w1]; omega, by dsimp only; rw [w2]; omega, by dsimp only; rw [wf]; omega, fun a => bks_no a (fun o ho => ?_)⟩
  obtain ⟨o0, ho0, rfl⟩ := List.mem_map.mp ho
  rw [tgs_1]
  have := px_pg h1 o0 ho0
  unfold pg at this
  omega
/-- what binding comes to, the line's end still to be seen -/
def yBi (A : Nat → Int32) (n : Nat) (S0 : cS) (z0 fb a0 s ab k : Nat) (sc : SCs) (at' : List Nat) (a c f : Nat) (S S1 : cS) : Prop :=
  (∃ k1 os sc1, psBind (qK (by1 A) n) (qL (by1 A) n) (Eb (by1 A) n) s sc at' k = ln (qK (by1 A) n) (qL (by1 A) n k) k1 os sc1 at' ∧ yOK A n S0 z0 fb a0 s ab S a c f (k1, os, sc1, at') S1 ∧ qL (by1 A) n k1 = qL (by1 A) n k ∧ a + wC os ≤ 39600 ∧ c + cnN os ≤ 5152 ∧ f + fxM os ≤ 1510 ∧ sc1.2.length ≤ 1510 ∧ sc1.1 = sc.1) ∨
  (psBind (qK (by1 A) n) (qL (by1 A) n) (Eb (by1 A) n) s sc at' k = .inl (qL (by1 A) n k) ∧ yB A n S0 z0 fb (qL (by1 A) n k) a c f ab (a + 2) [] 39600 5152 1510 1510 280 893 S S1)
set_option maxHeartbeats 8000000 in
theorem bindE_T {a c f k dp : Nat} {sc : SCs} {at' : List Nat} {S : cS} {r : Nat × Nat × List Op} (hX : yPre A n S0 z0) (h : yG A n S0 z0 fb a0 s ab k sc at' a c f S) (hz : yZ (rm (by1 A) n k) dp (a - 2) c f sc.2.length sc.1.length (fb + sc.1.length - 1)) (hdp : dp ≤ 12) (hr : exs (qK (by1 A) n) s k = some r) (h19 : qK (by1 A) n r.1 = 19) (hd : 240 ≤ d) : ∃ S1, Ans (d + 12) 117 [.ref 43] S none S1 ∧ yBi A n S0 z0 fb a0 s ab k sc at' a c f S S1 := by
  obtain ⟨c1, c2, c3, c4, c5, c6⟩ := yZ_c hz hdp
  obtain ⟨z1, z2, z3, z4, z5, z6⟩ := hz
  have hrm : rm (by1 A) n k = n + 1 - qP (by1 A) n k := rfl
  have hn := hX.1.1
  have hq := q_lt (by1 A) n k
  obtain ⟨x1, x2, x3, x4, x5, x6⟩ := exs_G hr
  obtain ⟨v1, v2, v3, v4⟩ := q_run (by omega) x2
  have hqr := q_lt (by1 A) n r.1
  have hk3 := x2 k (Nat.le_refl _) (by omega)
  obtain ⟨g1, g2, g3, g4, g5, g6⟩ := q_gt (β := by1 A) (n := n) (k := r.1) (by omega)
  obtain ⟨d1, rfl⟩ : ∃ d1, d = d1 + 6 := ⟨d - 6, by omega⟩
  obtain ⟨S1, p1, _, p3, _⟩ := ex_T (D := d1 + 17) (qa := 39560) (qc := 5150) (qf := 1508) hX.1 hX.2 h (by omega) (by omega) (by omega) (by omega) (by omega) (by omega) (by omega)
  obtain ⟨b1, b2, b3⟩ := p3 r hr
  have htop : sI S 2307 = nI a := h.2.1.1
  have hcs : sI S 2308 = nI c := h.2.1.2.1
  have htk : sI S1 3105 = nI 19 := (cP_5 b1.1.1).trans (congrArg nI h19)
  have hps : ∀ y : PSr, psBind (qK (by1 A) n) (qL (by1 A) n) (Eb (by1 A) n) s sc at' k = y ↔ (if r.2.1 = 0 then .inl (qL (by1 A) n k) else pb (qL (by1 A) n k) (exs (qK (by1 A) n) s (r.1 + 1)) fun q => ln (qK (by1 A) n) (qL (by1 A) n k) q.1 (q.2.2 ++ rtl 19 41 46 r.2.2) (scT (Eb (by1 A) n) s r.2.1 (r.1 - 1) sc) at') = y := fun y => by
    unfold psBind
    rw [hr]
    show (if qK (by1 A) n r.1 = 19 then _ else _) = y ↔ _
    rw [if_pos h19]
  have hfs : sI S1 2309 = nI (fb + sc.1.length - 1) := b1.1.2.2.1
  have hgr : r.2.1 ≤ 3 := by
    by_cases h0 : r.2.1 = 0
    · omega
    · obtain ⟨os', o, _, hc⟩ := ex_tg hr h0
      rcases hc with ⟨e, _⟩ | ⟨e, _⟩ | ⟨e, _⟩ <;> omega
  by_cases h0 : r.2.1 = 0
  · obtain ⟨S2, f1, f2, f3, f4⟩ := fail_T (d := d1 + 16) hX.1 hX.2 b1.1.1
    dsimp only at f2
    rw [v2] at f2
    obtain ⟨S3, S4, e1, e2, e3⟩ := back_B (d := d1 + 8) (lo := 40960) hn h b1 (x6 a) f2 f3 f4 (by omega)
    obtain ⟨S5, i1, i2⟩ := yB_pass (d := d1 + 15) (t := 19) e3 (by omega) (by omega)
    obtain ⟨S6, i3, i4⟩ := yB_parse (d := d1) (dp := 0) i2
    obtain ⟨S7, i5, i6⟩ := yB_fail (d := d1 + 16) i4
    obtain ⟨S8, S9, S10, j1, j2, j3, j4⟩ := yB_tail (d := d1) (x := sI S 3104) i6 (by omega) (by omega)
    obtain ⟨S11, j5, j6⟩ := j4 (sI S7 3104)
    refine ⟨S11, Ans.of (by rw [ml_117]; exact Nat.le_of_ble_eq_true rfl) (Bod.lv (by rfl) (cBjr_8 (d := d1 + 9) (top := a) (cs := c) (tk := 19) (tg := 0) (fs := fb + sc.1.length - 1) (tk1 := 0) htop (by omega) hcs (by omega) p1 htk (by omega) rfl (b2.trans (congrArg nI h0)) (by omega) rfl f1 ((f3.1 _ (by decide)).trans hfs) (by omega) e1 e2 i1 i3 (yB_5 i4) (by omega) (by omega) i5 j1 j2 j3 j5)), Or.inr ⟨(hps _).mpr (if_pos h0), yB_le (yB_lo j6 (by omega) (by omega)) (by omega) (by omega) (by omega) (by omega) (by omega) (by omega)⟩⟩
  obtain ⟨S2, S3, e1, e2, F, c7, c8, c9, c14⟩ := back_E (d := d1 + 8) h b1 (FrT.refl _ _ _ _ S1)
  have hT := back_G h b1 (x6 a) F c7 c8 c9 c14
  obtain ⟨S4, q1, q2, q3, q4⟩ := pass_O (d := d1 + 9) hX.1 hT h19 (by omega)
  have G4 : yG A n S0 z0 fb a0 s ab (r.1 + 1) sc at' a c f S4 := q2.1
  have F4 : yF fb a c f ab S S4 := q2.2.2.2.1
  have e4310 : sI S4 4310 = sI S 4310 := q2.2.2.2.2.1
  have hq1 := q_lt (by1 A) n (r.1 + 1)
  have htgI : sI S1 4403 = nI r.2.1 := b2
  obtain ⟨S5, t1, _, t3, t4⟩ := ex_T (D := d1 + 17) (qa := 39560) (qc := 5150) (qf := 1508) hX.1 hX.2 G4 (by omega) (by omega) (by omega) (by omega) (by omega) (by omega) (by omega)
  have hgo : ∀ {S6 S7 S8 S9 S10 : cS} {tk1 : Nat}, sI S5 3105 = nI tk1 → tk1 < 64 → tk1 ≠ 2 → Ans (d1 + 17) 44 [.ref 31] S5 none S6 → Ans (d1 + 17) 120 [.ref 31, .int (sI S 3104)] S6 none S7 → Ans (d1 + 17) 57 [.ref 44, .int (nI 0)] S7 none S8 → Ans (d1 + 17) 110 [.ref 43, .int (nI 19), .int (nI 41), .int (nI 46)] S8 none S9 → Ans (d1 + 17) 120 [.ref 31, .int (sI S6 3104)] S9 none S10 → Ans (d1 + 6 + 12) 117 [.ref 43] S none S10 := fun {S6 S7 S8 S9 S10 tk1} y1 y2 y3 y4 y5 y6 y7 y8 => Ans.of (by rw [ml_117]; exact Nat.le_of_ble_eq_true rfl) (Bod.lv (by rfl) (cBjr_6 (d := d1 + 9) (top := a) (cs := c) (tk := 19) (tg := r.2.1) (fs := fb + sc.1.length - 1) (tk1 := tk1) htop (by omega) hcs (by omega) p1 htk (by omega) rfl htgI (by omega) h0 hfs (by omega) e1 e2 q1 t1 y1 (by omega) y3 y4 y5 y6 y7 y8))
  cases hq2 : exs (qK (by1 A) n) s (r.1 + 1) with
  | none =>
    obtain ⟨t5, _⟩ := t4 hq2
    have i4 := yB_base0 F4 e4310 (Nat.le_refl _) (Nat.le_refl _) (Nat.le_refl _) (t5 40960 (by omega))
    rw [g5, v2] at i4
    obtain ⟨S6, i5, i6⟩ := yB_fail (d := d1 + 16) i4
    obtain ⟨S7, S8, S9, j1, j2, j3, j4⟩ := yB_tail (d := d1) (x := sI S 3104) i6 (by omega) (by omega)
    obtain ⟨S10, j5, j6⟩ := j4 (sI S6 3104)
    exact ⟨S10, hgo (yB_5 i4) (by omega) (by omega) i5 j1 j2 j3 j5, Or.inr ⟨(hps _).mpr (by rw [if_neg h0, hq2]; rfl), yB_le (yB_lo j6 (by omega) (by omega)) (by omega) (by omega) (by omega) (by omega) (by omega) (by omega)⟩⟩
  | some q =>
    obtain ⟨t5, _, _⟩ := t3 q hq2
    obtain ⟨y1, y2, y3, y4, y5, y6⟩ := exs_G hq2
    obtain ⟨w1, w2, w3, w4⟩ := q_run (by omega) y2
    have hqq := q_lt (by1 A) n q.1
    have hOK5 : yOK A n S0 z0 fb a0 s ab S a c f (q.1, q.2.2, sc, at') S5 := yOK_app q2 t5
    by_cases h2 : qK (by1 A) n q.1 = 2
    · obtain ⟨S6, m1, m2, m3, m4⟩ := goTo_T (d := d1 + 10) (j := k) hX.1 hOK5.1.1 (by dsimp only; omega) (by dsimp only; omega) (by omega) (by dsimp only; omega) (by dsimp only; omega)
      have hOK6 := yOK_lx hOK5 m2 (m3.mono (by decide) (fun _ h => h) (fun _ h => h) (fun _ h => h)) m4
      have G6 : yG A n S0 z0 fb a0 s ab k sc at' (a + wC q.2.2) (c + cnN q.2.2) (f + fxM q.2.2) S6 := hOK6.1
      obtain ⟨S7, l1, _, l3, _⟩ := ex_TN (D := d1 + 17) (N := qP (by1 A) n r.1) (qa := 39560) (qc := 5150) (qf := 1508) hX.1 hX.2 G6 (BR_19 h19 (by omega) x2) (by omega) (by omega) (by omega) (by omega) (by omega) (by omega) (by omega)
      obtain ⟨l5, l6, l7⟩ := l3 r hr
      have hOK7 : yOK A n S0 z0 fb a0 s ab S a c f (r.1, q.2.2 ++ r.2.2, sc, at') S7 := yOK_app hOK6 l5
      obtain ⟨S8, o1, o2⟩ := rtg_T (d := d1 + 6) (k0 := k) (x := 19) (y := 41) (z := 46) hOK7 hr l6 l7 h0 (Or.inr (Or.inl ⟨rfl, rfl, rfl⟩)) (by omega)
      obtain ⟨S9, u1, u2, u3, u4⟩ := goTo_T (d := d1 + 10) (j := q.1) hX.1 o2.1.1 (by first | omega | (dsimp only; omega)) (by first | omega | (dsimp only; omega)) (by omega) (by first | omega | (dsimp only; omega)) (by first | omega | (dsimp only; omega))
      have hOK9 := yOK_lx o2 u2 (u3.mono (by decide) (fun _ h => h) (fun _ h => h) (fun _ h => h)) u4
      have e3104 : sI S 3104 = nI (qP (by1 A) n k) := cP_4 h.1 (by omega)
      have e3104q : sI S5 3104 = nI (qP (by1 A) n q.1) := cP_4 hOK5.1.1 (by omega)
      rw [← e3104] at m1
      rw [← e3104q] at u1
      obtain ⟨rw1, rw2, rw3⟩ := rtl_w hr h0 (a := 19) (b := 41) (c := 46) (by omega) (by omega) (by omega)
      obtain ⟨sl1, sl2, sl3⟩ := scT_l (Eb (by1 A) n) s r.2.1 (r.1 - 1) sc
      refine ⟨S9, Ans.of (by rw [ml_117]; exact Nat.le_of_ble_eq_true rfl) (Bod.lv (by rfl) (cBjr_5 (d := d1 + 9) (top := a) (cs := c) (tk := 19) (tg := r.2.1) (fs := fb + sc.1.length - 1) (tk1 := 2) htop (by omega) hcs (by omega) p1 htk (by omega) rfl htgI (by omega) h0 hfs (by omega) e1 e2 q1 t1 ((cP_5 hOK5.1.1).trans (congrArg nI h2)) (by omega) rfl m1 l1 o1 u1)), Or.inl ⟨q.1, q.2.2 ++ rtl 19 41 46 r.2.2, scT (Eb (by1 A) n) s r.2.1 (r.1 - 1) sc, (hps _).mpr (by rw [if_neg h0, hq2]; rfl), hOK9, by omega, ?_, ?_, ?_, by omega, sl1⟩⟩
      · rw [wC_app, rw1]; omega
      · rw [cnN_app, rw3]; omega
      · rw [fxM_app, rw2]; omega
    · obtain ⟨S6, f1, f2, f3, f4⟩ := fail_T (d := d1 + 16) hX.1 hX.2 hOK5.1.1
      dsimp only at f2
      rw [w2, g5, v2] at f2
      have i4 := yG_bad (lo := 40960) hn hOK5.1 f2 f3 f4 (by dsimp only; omega)
      have e5 : sI S5 4310 = sI S 4310 := by
        have := hOK5.2.2.2.2.1
        dsimp only at this
        rw [y6 a] at this
        exact this
      have i6 := yB_base0 hOK5.2.2.2.1 e5 (by dsimp only; omega) (by dsimp only; omega) (by dsimp only; omega) i4
      dsimp only at i6
      obtain ⟨S7, S8, S9, j1, j2, j3, j4⟩ := yB_tail (d := d1) (x := sI S 3104) i6 (by omega) (by omega)
      obtain ⟨S10, j5, j6⟩ := j4 (sI S6 3104)
      exact ⟨S10, hgo (cP_5 hOK5.1.1) hqq.2.2.2.2 h2 f1 j1 j2 j3 j5, Or.inr ⟨(hps _).mpr (by rw [if_neg h0, hq2]; exact if_neg h2), yB_le (yB_lo j6 (by omega) (by omega)) (by omega) (by omega) (by omega) (by omega) (by omega) (by omega)⟩⟩
end
