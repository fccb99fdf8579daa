/-! FOR in the class -/
section
variable {A : Nat → Int32} {n z0 fb l a c f ab lo : Nat} {S0 B : cS} {H : List Nat} {qa qc qf qe qs qn d : Nat}
/-- behind a fault the state at hand is a base of its own -/
theorem yB_sub {S : cS} (h : yB A n S0 z0 fb l a c f ab lo H qa qc qf qe qs qn B S) (hlo : lo ≤ a + 2) : ∃ t c' f', sI S 2307 = nI t ∧ t ≤ 40960 ∧ a ≤ t ∧ (∀ x, x ∈ H → x + 2 ≤ t) ∧ yB A n S0 z0 fb l t c' f' ab (t + 2) [] qa qc qf qe qs qn S S ∧ ∀ (S3 : cS) (pa pc pf pe ps' pn : Nat), yB A n S0 z0 fb l t c' f' ab (t + 2) [] pa pc pf pe ps' pn S S3 → yB A n S0 z0 fb l a c f ab lo H pa pc pf pe ps' pn B S3 ∧ ∀ i, i < t → sA S3 24 i = sA S 24 i := by
  obtain ⟨t, c', f', s, e, sn, fn, av, tv, lv, l', h1, h2, h3, h4, h5, h6, h7', h8, h9, hfl, hlo', g1, g2, g3, g4, g5, g6, g7, g8, g9, g10⟩ := yB_top h
  obtain ⟨k1, ps, k3, k4, k5⟩ := yK_t h.2.2.2.1 h1.1 (by omega)
  refine ⟨t, c', f', h1.1, k1, by omega, fun x hx => (k5 x hx).1, ⟨h.1, ⟨t, c', f', s, e, sn, fn, av, tv, lv, l', h1, h2, h3, h4, h5, h6, h7', h8, h9, hfl, by omega, g1, g2, g3, g4, g5, g6, g7, g8, g9, g10⟩, ⟨FrT.refl _ _ _ _ _, kQ_eq (fun _ _ => rfl) (fun _ _ => rfl), cB_nK h.1 rfl (fun _ _ => rfl)⟩, ⟨[], t, h1.1, k1, rfl, trivial, fun x hx => by cases hx⟩, by omega, h.2.2.2.2.2⟩, fun S3 pa pc pf pe ps' pn g => ⟨yB_base (lo := lo) (qs := ps) (a2 := t) (c2 := c') (f2 := f') (H2 := []) h.2.2.1 k3 k4 (fun p hp => Or.inl (k5 p hp)) (by omega) (by omega) (by omega) (by omega) h.2.2.2.2.1 (by omega) g, fun i hi => g.2.2.1.2.1.1.1 i hi⟩⟩
/-- for behind a fault in its head -/
theorem forB {S : cS} {ln ind dp : Nat} {b : Int32} (h : yB A n S0 z0 fb l a c f ab (a + 2) [] qa qc qf qe qs qn B S) (hq : qa + 13 ≤ 40960) (hqf : qf + 1 ≤ 1600) (hqe : qe + 1 ≤ 1600) (ha2 : 2 ≤ a) (hln : ln < 2 ^ 20) (hind : ind < 2 ^ 20) (hdp : dp + 1 < 2 ^ 20) : ∃ a1 S5 a2 S6 a3 S7 top a4 S9 S10 S11 a5 S12, a1 < 2 ^ 20 ∧ Ans (d + 11) 71 [.ref 23, .int (nI 9)] S (some (.int (nI a1))) S5 ∧ a2 < 2 ^ 20 ∧ Ans (d + 11) 54 [.ref 23, .int (nI 4), .int (nI 0)] S5 (some (.int (nI a2))) S6 ∧ a3 < 2 ^ 20 ∧ Ans (d + 11) 54 [.ref 23, .int (nI 2), .int (nI ln)] S6 (some (.int (nI a3))) S7 ∧ sI S7 2307 = nI top ∧ top < 2 ^ 20 ∧ Ans (d + 11) 83 [.ref 23, .int (nI (a2 + 1)), .int (nI top)] S7 none (wA 24 (a2 + 1) (nI top) S7) ∧ a4 < 2 ^ 20 ∧ Ans (d + 11) 54 [.ref 23, .int (nI 10), .int (Int32.ofInt (-1))] (wA 24 (a2 + 1) (nI top) S7) (some (.int (nI a4))) S9 ∧ Ans (d + 11) 93 [.ref 43, .int b] S9 none S10 ∧ Ans (d + 11) 90 [.ref 43, .int (nI ind), .int (nI dp), .int (nI a3), .int (nI a4)] S10 none S11 ∧ a5 < 2 ^ 20 ∧ Ans (d + 11) 71 [.ref 23, .int (nI 11)] S11 (some (.int (nI a5))) S12 ∧ yB A n S0 z0 fb l a c f ab (a + 2) [] (qa + 13) qc (qf + 1) (qe + 1) qs qn B S12 := by
  obtain ⟨S5, a5, p1, p2, p3⟩ := yB_put1 (d := d + 9) (x0 := nI 9) h (by omega)
  obtain ⟨S6, a6, q1, q2, q3, q4, q5⟩ := yB_put2 (d := d + 9) (x0 := nI 4) (x1 := nI 0) p3 (by omega)
  obtain ⟨S7, a7, r1, r2, r3, r4, r5⟩ := yB_put2 (d := d + 9) (x0 := nI 2) (x1 := nI ln) q3 (by omega)
  obtain ⟨t, c7, f7, t1, t2, _, _, _, _⟩ := yB_sub r3 (Nat.le_refl _)
  obtain ⟨u1, u2⟩ := yB_patch (d := d + 10) (p := a6) (x := nI t) r3 (List.mem_cons_of_mem _ List.mem_cons_self) q5
  obtain ⟨S9, a9, v1, v2, v3, v4, v5⟩ := yB_put2 (d := d + 9) (x0 := nI 10) (x1 := Int32.ofInt (-1)) u2 (by omega)
  obtain ⟨t9, c9, f9, s1, s2, s3, s4, s5, s6⟩ := yB_sub v3 (Nat.le_refl _)
  obtain ⟨S10, w1, w2⟩ := yB_bindTo (d := d) (q := b) s5 (by omega) hqf hqe
  obtain ⟨w3, w4⟩ := s6 S10 _ _ _ _ _ _ w2
  have h9 := s4 a9 List.mem_cons_self
  obtain ⟨S11, x1, x2⟩ := lpB_B (d := d) (bk := a7) (ind := ind) (dp := dp) w3 ((w4 (a9 + 1) (by omega)).trans v4) v5 (by omega) (by omega) (by omega) r2 hind hdp
  obtain ⟨S12, a12, y1, y2, y3⟩ := yB_put1 (d := d + 9) (x0 := nI 11) x2 (by omega)
  exact ⟨a5, S5, a6, S6, a7, S7, t, a9, S9, S10, S11, a12, S12, p2, p1, q2, q1, r2, r1, t1, by omega, u1, v2, v1, w1, x1, y2, y1, yB_le y3 (by omega) (Nat.le_refl _) (Nat.le_refl _) (Nat.le_refl _) (Nat.le_refl _) (Nat.le_refl _)⟩
end
section
variable {A : Nat → Int32} {n z0 fb a0 F s ab d : Nat} {S0 B : cS}
/-- a name that is there -/
theorem name_O {a c f k : Nat} {os : List Op} {sc : SCs} {at' : List Nat} {S : cS} (hX : pX A n S0 z0) (h : yOK A n S0 z0 fb a0 s ab B a c f (k, os, sc, at') S) (hk : qK (by1 A) n k = 3) : ∃ S1 q, Ans (d + 9) 92 [.ref 43] S (some (.int (nI q))) S1 ∧ q < 4096 ∧ yOK A n S0 z0 fb a0 s ab B a c f (k + 1, os, sc, at') S1 ∧ nmR (by1 A) n S1 k (nI q) ∧ nK S S1 := by
  obtain ⟨q, z, h1, h2, h3, h4, h5, h6⟩ := cP_name h.1.1 hk
  obtain ⟨S1, p1, p2, p3, p4⟩ := pass_O (d := d) hX h hk (by omega)
  have hm : nmR (by1 A) n S k (nI q) := ⟨q, z, rfl, Nat.zero_le _, h3, h4, h5, h6⟩
  refine ⟨S1, q, ?_, by omega, p2, nmR_K p4 hm, p4⟩
  have this : Ans (d + 9) 92 [.ref 43] S (some (.int (sI S 3109))) S1 := Ans.of (by rw [ml_92]; exact Nat.le_of_ble_eq_true rfl) (Bod.lv (by rfl) (cTkr_1 (d := d) p1))
  rw [h1] at this
  exact this
/-- for -/
theorem for_T (hX : yPre A n S0 z0) (h84 : P84 A n S0 z0 fb a0 F) {dp ind tr ca ra k a c f : Nat} {lp : LpT} {sc : SCs} {at' : List Nat} {S : cS} (h : yG A n S0 z0 fb a0 s ab k sc at' (a + 2) c f S) (hz : yZ (rm (by1 A) n k) dp a c f sc.2.length sc.1.length (fb + sc.1.length - 1)) (hL : yLp a0 lp tr S) (hca : a + 2 = a0 + ca) (hab : ab ≤ 40 * dp) (htr : tr ≤ dp) (hk : qK (by1 A) n k = 44) (hie : qI (by1 A) n k = ind) (hdp : dp ≤ 11) (hF : 4 * rm (by1 A) n k + 1 ≤ F) (hd : lvD dp ≤ d + 15) : ∃ Sf, Ans (d + 12) 91 [.ref 43, .int (nI dp)] S none Sf ∧ yRes A n S0 z0 fb a0 s ab S (a + 2) c f (qA dp) (qC dp) (qF dp) (qF dp) (psFor (qK (by1 A) n) (qL (by1 A) n) (Eb (by1 A) n) (psA A n F) dp ind s tr ca ra sc at' k) Sf := by
  obtain ⟨c1, c2, c3, c4, c5, c6⟩ := yZ_c hz (by omega)
  obtain ⟨z1, z2, z3, z4, z5, z6⟩ := id hz
  have hlv : lvD dp = 270 + 8 * (12 - dp) := rfl
  have hn := hX.1.1
  have hlv1 : lvD (dp + 1) = 270 + 8 * (12 - (dp + 1)) := rfl
  have hqA : qA dp = 39700 + 60 * (12 - dp) := rfl
  have hqC : qC dp = 5160 + 2 * (12 - dp) := rfl
  have hqF : qF dp = 1515 + 4 * (12 - dp) := rfl
  have hqA1 : qA (dp + 1) = 39700 + 60 * (12 - (dp + 1)) := rfl
  have hqC1 : qC (dp + 1) = 5160 + 2 * (12 - (dp + 1)) := rfl
  have hqF1 : qF (dp + 1) = 1515 + 4 * (12 - (dp + 1)) := rfl
  obtain ⟨g1, g2, g3, g4⟩ := rm_gt (β := by1 A) (n := n) (k := k) (by omega)
  have gw := rm_w2 (β := by1 A) (n := n) (k := k) (by omega)
  have hqk := q_lt (by1 A) n k
  have hiM := ind_lt (A := A) (k := k) hX.1.1
  have h3108 : sI S 3108 = nI ind := ((cP_8 h.1).2 (by omega)).trans (congrArg nI hie)
  have hln := cP_6 h.1
  obtain ⟨S1, p1, Y1, _, _⟩ := pass_O (d := d + 3) hX.1 (yOK_nil h) hk (by omega)
  have G1 : yG A n S0 z0 fb a0 s ab (k + 1) sc at' (a + 2) c f S1 := Y1.1
  -- behind a fault in the head
  have hB : ∀ {b : Int32} {S2 S3 S4 : cS} {l : Nat}, Ans (d + 11) 92 [.ref 43] S1 (some (.int b)) S2 → Ans (d + 11) 75 [.ref 31, .int (nI 45)] S2 none S3 → Ans (d + 11) 57 [.ref 44, .int (nI 0)] S3 none S4 → yB A n S0 z0 fb l (a + 2) c f ab (a + 2 + 2) [] 39560 5150 1508 1508 280 893 S S4 → psFor (qK (by1 A) n) (qL (by1 A) n) (Eb (by1 A) n) (psA A n F) dp ind s tr ca ra sc at' k = .inl l → ∃ Sf, Ans (d + 12) 91 [.ref 43, .int (nI dp)] S none Sf ∧ yRes A n S0 z0 fb a0 s ab S (a + 2) c f (qA dp) (qC dp) (qF dp) (qF dp) (psFor (qK (by1 A) n) (qL (by1 A) n) (Eb (by1 A) n) (psA A n F) dp ind s tr ca ra sc at' k) Sf := fun {b S2 S3 S4 l} x2 x3 x4 x5 e => by
    obtain ⟨a1, S5, a2, S6, a3, S7, top, a4, S9, S10, S11, a5, S12, m1, y1, m2, y2, m3, y3, mt, m4, y4, m5, y5, y6, y7, m6, y8, y9⟩ := forB (d := d) (ln := qL (by1 A) n k) (ind := ind) (dp := dp) (b := b) x5 (by omega) (by omega) (by omega) (by omega) (by omega) (by omega) (by omega)
    exact ⟨S12, Ans.of (by rw [ml_91]; exact Nat.le_of_ble_eq_true rfl) (Bod.lv (by rfl) (cFrr_1 (d := d + 3) (by omega) h3108 (by omega) hln (by omega) p1 x2 x3 x4 m1 y1 m2 y2 m3 y3 mt m4 y4 m5 y5 y6 y7 m6 y8)), yRes_l e (yB_le y9 (by omega) (by omega) (by omega) (by omega) (Nat.le_refl _) (Nat.le_refl _))⟩
  by_cases k3' : qK (by1 A) n (k + 1) ≠ 3
  · have k3 := k3'
    obtain ⟨S2, q1, q2⟩ := pass_X (d := d + 2) (t := 3) (qa := 39560) (qc := 5150) (qf := 1508) (qe := 1508) hX.1 hX.2 Y1 k3 (by omega) (show a + 2 + 0 ≤ _ by omega) (show c + 0 ≤ _ by omega) (show f + 0 ≤ _ by omega) (by omega) (by omega) (by omega)
    obtain ⟨S3, r1, r2⟩ := yB_pass (d := d + 9) (t := 45) q2 (by omega) (by omega)
    obtain ⟨dd, rfl⟩ : ∃ dd, d = dd + 6 := ⟨d - 6, by omega⟩
    obtain ⟨S4, t1, t2⟩ := yB_parse (d := dd) (dp := 0) r2
    refine hB (Ans.of (by rw [ml_92]; exact Nat.le_of_ble_eq_true rfl) (Bod.lv (by rfl) (cTkr_1 (d := dd + 8) q1))) r1 t1 t2 ?_
    unfold psFor
    rw [if_neg (fun hc => k3 hc.1), g3]
  have k3 : qK (by1 A) n (k + 1) = 3 := by omega
  obtain ⟨S2, q, q1, qM, Y2, hnm, hnK⟩ := name_O (d := d + 2) hX.1 Y1 k3
  obtain ⟨g5, g6, g7, g8⟩ := rm_gt' (β := by1 A) (n := n) (k := k + 1) (k' := k + 2) rfl (by omega)
  by_cases k45' : qK (by1 A) n (k + 2) ≠ 45
  · have k45 := k45'
    obtain ⟨S3, r1, r2⟩ := pass_X (d := d + 3) (t := 45) (qa := 39560) (qc := 5150) (qf := 1508) (qe := 1508) hX.1 hX.2 Y2 k45 (by omega) (show a + 2 + 0 ≤ _ by omega) (show c + 0 ≤ _ by omega) (show f + 0 ≤ _ by omega) (by omega) (by omega) (by omega)
    obtain ⟨dd, rfl⟩ : ∃ dd, d = dd + 6 := ⟨d - 6, by omega⟩
    obtain ⟨S4, t1, t2⟩ := yB_parse (d := dd) (dp := 0) r2
    refine hB q1 r1 t1 t2 ?_
    unfold psFor
    rw [if_neg (fun hc => k45 hc.2)]
    exact congrArg Sum.inl (g3.symm.trans g7.symm)
  have k45 : qK (by1 A) n (k + 2) = 45 := by omega
  have G2 : yG A n S0 z0 fb a0 s ab (k + 2) sc at' (a + 2) c f S2 := Y2.1
  obtain ⟨S3, r1, Y3, _, _⟩ := pass_O (d := d + 3) hX.1 (yOK_nil G2) k45 (by omega)
  obtain ⟨g9, g10, g11, g12⟩ := rm_gt (β := by1 A) (n := n) (k := k + 2) (by omega)
  have gx := rm_w2 (β := by1 A) (n := n) (k := k + 2) (by omega)
  have hq3 := q_lt (by1 A) n (k + 2 + 1)
  have hrm3 : rm (by1 A) n (k + 2 + 1) = n + 1 - qP (by1 A) n (k + 2 + 1) := rfl
  obtain ⟨S4, u1, u2, u3⟩ := ex_O (d := d + 11) (W := rm (by1 A) n (k + 2 + 1)) (dp := dp) hX.1 hX.2 Y3 (by omega) (by omega) ⟨(show a + 2 + 0 + _ ≤ _ by omega), (show 2 * (c + 0) + _ ≤ _ by omega), (show 2 * (f + 0) + _ ≤ _ by omega), by omega, by omega, by omega⟩ (by omega)
  cases hr : exs (qK (by1 A) n) s (k + 2 + 1) with
  | none =>
    obtain ⟨v1, _⟩ := u3 hr
    refine hB q1 r1 u1 (yOK_bad (H := []) Y2 v1 (Nat.le_refl _) (fun p hp => by cases hp)) ?_
    unfold psFor
    rw [if_pos ⟨k3, k45⟩, hr]
    exact congrArg Sum.inl (g3.symm.trans (g7.symm.trans g11.symm))
  | some r =>
    obtain ⟨t1, t2, t3⟩ := u2 r hr
    obtain ⟨e1, e2, e3, e4, e5, e6, e7, e8, e9⟩ := ex_pm hr
    have hrp := rm_pos (by1 A) n r.1
    rw [List.nil_append] at t1
    have tG : yG A n S0 z0 fb a0 s ab r.1 sc at' (a + 2 + wC r.2.2) (c + cnN r.2.2) (f + fxM r.2.2) S4 := t1.1
    obtain ⟨S5, w1, Y5, F5⟩ := yE_1 (d := d + 9) (t := 9) (p := []) tG (by omega) (by omega)
    have G5 : yG A n S0 z0 fb a0 s ab r.1 sc at' (a + 2 + wC r.2.2 + 1) (c + cnN r.2.2) (f + fxM r.2.2) S5 := Y5.1
    obtain ⟨S6, w2, F6, G6, _, _, b6, told6⟩ := yE_J (d := d + 9) (t := 4) (u := 4) (w := nI 0) G5 (by omega) rfl (by omega)
    obtain ⟨S7, w3, Y7, F7⟩ := yE_2 (d := d + 9) (t := 2) (m := qL (by1 A) n k) G6 (by omega) (by omega)
    have htop : sI S7 2307 = nI (a + 2 + wC r.2.2 + 1 + 4) := Y7.1.2.1.1
    have hpt := patch_T (d := d + 10) (S := S7) (q := a + 2 + wC r.2.2 + 1 + 1) (x := nI (a + 2 + wC r.2.2 + 1 + 4)) htop (by omega) (by omega)
    have Y8 := yOK_app (told6 (a + 2 + wC r.2.2 + 1 + 4) 4 3 (by omega)) (yOK_hole (p := a + 2 + wC r.2.2 + 1 + 1) (v := nI (a + 2 + wC r.2.2 + 1 + 4)) Y7 (show a + 2 + wC r.2.2 + 1 + 1 < a + 2 + wC r.2.2 + 1 + 2 by omega))
    have G8 : yG A n S0 z0 fb a0 s ab r.1 sc at' (a + 2 + wC r.2.2 + 1 + 4) (c + cnN r.2.2) (f + fxM r.2.2) (wA 24 (a + 2 + wC r.2.2 + 1 + 1) (nI (a + 2 + wC r.2.2 + 1 + 4)) S7) := Y8.1
    obtain ⟨S9, w5, F9, G9, w9, _, b9, told9⟩ := yE_J (d := d + 9) (t := 10) (u := 10) (w := Int32.ofInt (-1)) G8 (by omega) rfl (by omega)
    have Y58 := yOK_app Y5 Y8
    have nK29 : nK S2 S9 := nK_trans t1.2.2.2.1.2.2 (nK_trans Y58.2.2.2.1.2.2 (cP_nK G8.1 (F9.1 _ (by decide)) (fun x _ => F9.2.2.2.1 x (fun h => by cases h))))
    obtain ⟨S10, w6, Y10⟩ := bindTo_T (d := d) G9 (nmR_K nK29 hnm) qM (by omega) (by omega) (by omega)
    obtain ⟨n1, n2, n3⟩ := scB_l (Eb (by1 A) n) s (k + 1) sc
    have hfx := fx_s 19 (k + 1) s 0 0
    have w19 : wC [(19, [k + 1, s], (0 : Int), (0 : Int))] = 3 := rfl
    have c19 : cnN [(19, [k + 1, s], (0 : Int), (0 : Int))] = 0 := rfl
    have f19 : fxM [(19, [k + 1, s], (0 : Int), (0 : Int))] = fxO (19, [k + 1, s], (0 : Int), (0 : Int)) + 0 := rfl
    have G10 := Y10.1
    dsimp only at G10
    have hL10 : yLp a0 lp tr S10 := yF_lp (yLp_S (yF_lp (yF_lp (yF_lp hL Y2.2.2.2.1) t1.2.2.2.1) Y58.2.2.2.1) (fun i hi => F9.1 i (by
      have : ∀ i, i ∈ [4308, 4309, 4311] → i ∉ [2307] := by decide
      exact this i hi))) Y10.2.2.2.1
    have hx10 : sA S10 24 (a + 2 + wC r.2.2 + 1 + 4 + 1) = Int32.ofInt (-1) := (Y10.2.2.2.1.2.1.1.1 _ (by omega)).trans w9
    have hlp := lpB_1 (d := d + 1) (dp := dp) (ind := ind) (tr := tr) (ca := ca + wC r.2.2 + 10) (ra := ra + wR (qK (by1 A) n) r.2.2 + 11) (cb := ca + wC r.2.2 + 3) (rb := ra + wR (qK (by1 A) n) r.2.2 + 3) (bk := a + 2 + wC r.2.2 + 1 + 2) (xt := a + 2 + wC r.2.2 + 1 + 4) hX h84 G10 ⟨by omega, by omega, by omega, by omega, by rw [n1]; omega, by rw [n1]; omega⟩ hL10 (by omega) (by omega) (by omega) hx10 (by omega) (by omega) (by omega) (by omega) (by omega) (by omega) (by omega) (by omega)
    have hgo : ∀ {S11 S12 : cS} {a5 : Nat}, Ans (d + 11) 90 [.ref 43, .int (nI ind), .int (nI dp), .int (nI (a + 2 + wC r.2.2 + 1 + 2)), .int (nI (a + 2 + wC r.2.2 + 1 + 4))] S10 none S11 → a5 < 2 ^ 20 → Ans (d + 11) 71 [.ref 23, .int (nI 11)] S11 (some (.int (nI a5))) S12 → Ans (d + 12) 91 [.ref 43, .int (nI dp)] S none S12 := fun x m y => Ans.of (by rw [ml_91]; exact Nat.le_of_ble_eq_true rfl) (Bod.lv (by rfl) (cFrr_1 (d := d + 3) (by omega) h3108 (by omega) hln (by omega) p1 q1 r1 u1 (by omega) w1 (by omega) w2 (by omega) w3 htop (by omega) hpt (by omega) w5 w6 x m y))
    cases hb : psA A n F 2 (dp + 1) ind s (some (ca + wC r.2.2 + 3, ra + wR (qK (by1 A) n) r.2.2 + 3, tr)) tr (ca + wC r.2.2 + 10) (ra + wR (qK (by1 A) n) r.2.2 + 11) (scB (Eb (by1 A) n) s (k + 1) sc) at' r.1 with
    | inl l =>
      obtain ⟨S11, v, x1, x2⟩ := hlp.2 l hb
      have x3 := yOK_bad (H := []) (yOK_hole (p := a + 2 + wC r.2.2 + 1 + 4 + 1) (v := v) Y10 (by omega)) x2 (by omega) (fun p hp => by cases hp)
      have x4 := yB_J (H := []) Y58 (S1 := wA 24 (a + 2 + wC r.2.2 + 1 + 4 + 1) v S9) (FrT_wA (by decide) F9) (fun i hi => by
          show upd (sA S9 24) _ v i = _
          have hi2 : i < a + 2 + wC r.2.2 + (1 + (2 + (2 + 0))) := hi
          rw [upd_at, if_neg (by omega)]
          exact b9 i (by omega)) x3 (show a + 2 + wC r.2.2 + (1 + (2 + (2 + 0))) + 4 ≤ _ by omega) (fun p hp => by cases hp)
      have x5 := yOK_bad (H := []) Y2 (yOK_bad (H := []) t1 x4 (Nat.le_refl _) (fun p hp => by cases hp)) (Nat.le_refl _) (fun p hp => by cases hp)
      obtain ⟨S12, a12, y1, y2, y3⟩ := yB_put1 (d := d + 9) (x0 := nI 11) x5 (by omega)
      refine ⟨S12, hgo x1 y2 y1, yRes_l (l := l) ?_ (yB_le y3 (by omega) (by omega) (by omega) (by omega) (Nat.le_refl _) (Nat.le_refl _))⟩
      unfold psFor
      rw [if_pos ⟨k3, k45⟩, hr]
      show sb (psA A n F 2 (dp + 1) ind s (some (ca + wC r.2.2 + 3, ra + wR (qK (by1 A) n) r.2.2 + 3, tr)) tr (ca + wC r.2.2 + 10) (ra + wR (qK (by1 A) n) r.2.2 + 11) (scB (Eb (by1 A) n) s (k + 1) sc) at' r.1) _ = _
      rw [hb]
      rfl
    | inr b =>
      obtain ⟨kb, ob, scb, atb⟩ := b
      have hat := ps_at F 2 (by omega) _ _ _ _ _ _ _ _ _ _ _ hb
      dsimp only at hat
      subst hat
      have hw := (ps_H (by1 A) n (Eb (by1 A) n) F).2.2.1 2 (dp + 1) ind s _ tr _ _ _ _ _ _ (Or.inl rfl) hb
      have hw2 := hw.2.2.2.1
      have hw3 := hw.2.2.2.2.1
      have hw4 := hw.2.2.1
      dsimp only at hw2 hw3 hw4
      obtain ⟨S11, x1, x2⟩ := hlp.1 _ hb (qK (by1 A) n) (ca + wC r.2.2 + 10 + wC ob + 2) (ra + wR (qK (by1 A) n) r.2.2 + 11 + wR (qK (by1 A) n) ob + 2) (ca + wC r.2.2 + 10) (ra + wR (qK (by1 A) n) r.2.2 + 11) (((ca + wC r.2.2 + 3 : Nat) : Int) - (ca + wC r.2.2 + 10 + wC ob : Nat)) (((ra + wR (qK (by1 A) n) r.2.2 + 3 : Nat) : Int) - ((ra + wR (qK (by1 A) n) r.2.2 + 11 + wR (qK (by1 A) n) ob : Nat) + 1)) (by dsimp only; omega) (by dsimp only; omega)
      dsimp only at x2
      have y1 := told9 (a + 2 + wC r.2.2 + 1 + 4 + 2 + wC [(19, [k + 1, s], (0 : Int), (0 : Int))] + wC ob + 2) ((7 + wC ob : Nat) : Int) ((7 + wR (qK (by1 A) n) ob : Nat) : Int) (by omega)
      have y2 := yOK_app y1 (yOK_app (yOK_hole (p := a + 2 + wC r.2.2 + 1 + 4 + 1) (v := nI (a + 2 + wC r.2.2 + 1 + 4 + 2 + wC [(19, [k + 1, s], (0 : Int), (0 : Int))] + wC ob + 2)) Y10 (show a + 2 + wC r.2.2 + 1 + 4 + 1 < a + 2 + wC r.2.2 + 1 + 4 + 2 by omega)) x2)
      have y3 := yOK_app Y2 (yOK_app t1 (yOK_app Y58 y2))
      have yG3 := y3.1
      dsimp only at yG3
      obtain ⟨S12, v1, v2, v3⟩ := yE_1 (d := d + 9) (t := 11) (p := []) yG3 (by omega) (by
        rw [wC_app, wC_app, wC_app, wC_app, wC_app, wC_app, wC_app, wC_app, (rsv_w ob _ _).1]
        show a + 2 + (0 + (wC r.2.2 + ((1 + 0 + (2 + 0 + (2 + 0))) + (2 + 0 + (3 + 0 + (wC ob + (2 + 0))))))) + 1 ≤ _
        omega)
      have y4 := yOK_app y3 v2
      refine ⟨S12, hgo x1 (by
        rw [wC_app, wC_app, wC_app, wC_app, wC_app, wC_app, wC_app, wC_app, (rsv_w ob _ _).1]
        show a + 2 + (0 + (wC r.2.2 + ((1 + 0 + (2 + 0 + (2 + 0))) + (2 + 0 + (3 + 0 + (wC ob + (2 + 0))))))) < _
        omega) v1, yRes_r (x := _) ?_ y4⟩
      unfold psFor
      rw [if_pos ⟨k3, k45⟩, hr]
      show sb (psA A n F 2 (dp + 1) ind s (some (ca + wC r.2.2 + 3, ra + wR (qK (by1 A) n) r.2.2 + 3, tr)) tr (ca + wC r.2.2 + 10) (ra + wR (qK (by1 A) n) r.2.2 + 11) (scB (Eb (by1 A) n) s (k + 1) sc) atb r.1) _ = _
      rw [hb]
      exact congrArg Sum.inr (by simp only [List.append_assoc, List.cons_append, List.nil_append])
end
