/-! BINDING in the class: a target and a sign with =; an expression alone; all of it -/
section
variable {A : Nat → Int32} {n z0 fb a0 s ab d : Nat} {S0 B : cS}
theorem chO_T {tk : Nat} {S : cS} (h : tk < 64) : Ans (d + 9) 121 [.int (nI tk)] S (some (.int (nI (chO tk)))) S := by
  refine Ans.of (by rw [ml_121]; exact Nat.le_of_ble_eq_true rfl) (Bod.lv (by rfl) ?_)
  by_cases h1 : tk = 23
  · subst h1; exact cCg23_1
  by_cases h2 : tk = 24
  · subst h2; exact cCg24_1
  by_cases h3 : tk = 25
  · subst h3; exact cCg25_1
  have e : chO tk = 0 := by unfold chO; rw [if_neg h1, if_neg h2, if_neg h3]
  rw [e]
  exact cCgD_1 (by omega) h h1 h2 h3
theorem chO_le (tk : Nat) : chO tk = 0 ∨ (27 ≤ chO tk ∧ chO tk ≤ 29 ∧ 23 ≤ tk ∧ tk ≤ 25) := by
  unfold chO
  repeat' split
  all_goals omega
theorem yOK_re {a c f : Nat} {x : PT} {B1 S : cS} (h : yOK A n S0 z0 fb a0 s ab B1 a c f x S) (hF : yF fb a c f ab B B1) (e : sI B1 4310 = sI B 4310) : yOK A n S0 z0 fb a0 s ab B a c f x S :=
  ⟨h.1, h.2.1, h.2.2.1, yF_trans hF h.2.2.2.1 (Nat.le_refl _) (Nat.le_refl _) (Nat.le_refl _) (Nat.le_refl _), by rw [← e]; exact h.2.2.2.2.1, h.2.2.2.2.2⟩
theorem yOK_me {a c f : Nat} {x : PT} {B1 S : cS} (h : yOK A n S0 z0 fb a0 s ab B1 a c f x S) (hb : bks a x.2.1 = []) : yOK A n S0 z0 fb a0 s ab S a c f x S ∧ sI S 4310 = sI B1 4310 := by
  have h5 := h.2.2.2.2.1
  rw [hb] at h5
  refine ⟨⟨h.1, h.2.1, h.2.2.1, ⟨FrT.refl _ _ _ _ _, kQ_eq (fun _ _ => rfl) (fun _ _ => rfl), cP_nK h.1.1 rfl (fun _ _ => rfl)⟩, ?_, h.2.2.2.2.2⟩, h5⟩
  rw [hb]
  exact rfl
set_option maxHeartbeats 8000000 in
theorem bindO_T {a c f k dp : Nat} {sc : SCs} {at' : List Nat} {S : cS} {r : Nat × Nat × List Op} (hX : yPre A n S0 z0) (h : yG A n S0 z0 fb a0 s ab k sc at' a c f S) (hz : yZ (rm (by1 A) n k) dp (a - 2) c f sc.2.length sc.1.length (fb + sc.1.length - 1)) (hdp : dp ≤ 12) (hr : exs (qK (by1 A) n) s k = some r) (hO : chO (qK (by1 A) n r.1) ≠ 0) (hd : 240 ≤ d) : ∃ S1, Ans (d + 12) 117 [.ref 43] S none S1 ∧ yBi A n S0 z0 fb a0 s ab k sc at' a c f S S1 := by
  obtain ⟨c1, c2, c3, c4, c5, c6⟩ := yZ_c hz hdp
  obtain ⟨z1, z2, z3, z4, z5, z6⟩ := hz
  have hrm : rm (by1 A) n k = n + 1 - qP (by1 A) n k := rfl
  have hn := hX.1.1
  have hq := q_lt (by1 A) n k
  obtain ⟨x1, x2, x3, x4, x5, x6⟩ := exs_G hr
  obtain ⟨v1, v2, v3, v4⟩ := q_run (by omega) x2
  have hqr := q_lt (by1 A) n r.1
  obtain ⟨ch1, ch2, ch3, ch4⟩ : 27 ≤ chO (qK (by1 A) n r.1) ∧ chO (qK (by1 A) n r.1) ≤ 29 ∧ 23 ≤ qK (by1 A) n r.1 ∧ qK (by1 A) n r.1 ≤ 25 := by
    have := chO_le (qK (by1 A) n r.1)
    omega
  obtain ⟨g1, g2, g3, g4, g5, g6⟩ := q_gt (β := by1 A) (n := n) (k := r.1) (by omega)
  have gw := q_w2 (β := by1 A) (n := n) (k := r.1) (by omega)
  have hq1 := q_lt (by1 A) n (r.1 + 1)
  obtain ⟨d1, rfl⟩ : ∃ d1, d = d1 + 6 := ⟨d - 6, by omega⟩
  obtain ⟨S1, p1, _, p3, _⟩ := ex_T (D := d1 + 17) (qa := 39560) (qc := 5150) (qf := 1508) hX.1 hX.2 h (by omega) (by omega) (by omega) (by omega) (by omega) (by omega) (by omega)
  obtain ⟨b1, b2, b3⟩ := p3 r hr
  have htop : sI S 2307 = nI a := h.2.1.1
  have hcs : sI S 2308 = nI c := h.2.1.2.1
  have htk : sI S1 3105 = nI (qK (by1 A) n r.1) := cP_5 b1.1.1
  have hps : ∀ y : PSr, psBind (qK (by1 A) n) (qL (by1 A) n) (Eb (by1 A) n) s sc at' k = y ↔ (if r.2.1 = 0 then .inl (qL (by1 A) n k) else pb (qL (by1 A) n k) (exs (qK (by1 A) n) s (r.1 + 1)) fun q => ln (qK (by1 A) n) (qL (by1 A) n k) q.1 (rtl 18 40 45 r.2.2 ++ (q.2.2 ++ [(chO (qK (by1 A) n r.1), [qK (by1 A) n r.1], 0, 0), (if r.2.1 = 1 then (19, [r.1 - 1, s], 0, 0) else if r.2.1 = 2 then (42, [], 0, 0) else (47, [r.1 - 1], 0, 0))])) (scT (Eb (by1 A) n) s r.2.1 (r.1 - 1) sc) at') = y := fun y => by
    unfold psBind
    rw [hr]
    show (if qK (by1 A) n r.1 = 19 then _ else _) = y ↔ _
    rw [if_neg (by omega), if_neg hO]
  have hgr : r.2.1 ≤ 3 := by
    by_cases h0 : r.2.1 = 0
    · omega
    · obtain ⟨os', o, _, hc⟩ := ex_tg hr h0
      rcases hc with ⟨e, _⟩ | ⟨e, _⟩ | ⟨e, _⟩ <;> omega
  obtain ⟨rb, n1, n2⟩ := tname_T (d := d1 + 8) b1 hr b2 hgr b3
  obtain ⟨b1m, e4310⟩ := yOK_me b1 (x6 a)
  have hT := chO_T (d := d1 + 8) (S := S1) (tk := qK (by1 A) n r.1) hqr.2.2.2.2
  -- the three ways it ends
  have w1 : ∀ {S4 S5 S6 S7 S8 : cS} {u1 u2 : Nat}, r.2.1 ≠ 1 → r.2.1 ≠ 2 → Ans (d1 + 17) 110 [.ref 43, .int (nI 18), .int (nI 40), .int (nI 45)] S1 none S4 → Ans (d1 + 17) 40 [.ref 31] S4 none S5 → Ans (d1 + 17) 57 [.ref 44, .int (nI 0)] S5 none S6 → u1 < 2 ^ 20 → Ans (d1 + 17) 71 [.ref 23, .int (nI (chO (qK (by1 A) n r.1)))] S6 (some (.int (nI u1))) S7 → u2 < 2 ^ 20 → Ans (d1 + 17) 54 [.ref 23, .int (nI 47), .int rb] S7 (some (.int (nI u2))) S8 → Ans (d1 + 6 + 12) 117 [.ref 43] S none S8 := fun {S4 S5 S6 S7 S8 u1 u2} y1 y2 y3 y4 y5 y6 y7 y8 y9 => Ans.of (by rw [ml_117]; exact Nat.le_of_ble_eq_true rfl) (Bod.lv (by rfl) (cBjr_1 (d := d1 + 9) (top := a) (cs := c) (tk := qK (by1 A) n r.1) (tk1 := qK (by1 A) n r.1) (tg := r.2.1) htop (by omega) hcs (by omega) p1 htk (by omega) (by omega) (by omega) hT hO htk (by omega) (by omega) hT b2 (by omega) n1 y3 y4 y5 y6 y7 y1 y2 y8 y9))
  have w2 : ∀ {S4 S5 S6 S7 S8 : cS} {u1 u2 : Nat}, r.2.1 = 2 → Ans (d1 + 17) 110 [.ref 43, .int (nI 18), .int (nI 40), .int (nI 45)] S1 none S4 → Ans (d1 + 17) 40 [.ref 31] S4 none S5 → Ans (d1 + 17) 57 [.ref 44, .int (nI 0)] S5 none S6 → u1 < 2 ^ 20 → Ans (d1 + 17) 71 [.ref 23, .int (nI (chO (qK (by1 A) n r.1)))] S6 (some (.int (nI u1))) S7 → u2 < 2 ^ 20 → Ans (d1 + 17) 71 [.ref 23, .int (nI 42)] S7 (some (.int (nI u2))) S8 → Ans (d1 + 6 + 12) 117 [.ref 43] S none S8 := fun {S4 S5 S6 S7 S8 u1 u2} y1 y3 y4 y5 y6 y7 y8 y9 => Ans.of (by rw [ml_117]; exact Nat.le_of_ble_eq_true rfl) (Bod.lv (by rfl) (cBjr_2 (d := d1 + 9) (top := a) (cs := c) (tk := qK (by1 A) n r.1) (tk1 := qK (by1 A) n r.1) (tg := r.2.1) htop (by omega) hcs (by omega) p1 htk (by omega) (by omega) (by omega) hT hO htk (by omega) (by omega) hT b2 (by omega) n1 y3 y4 y5 y6 y7 (by omega) y1 y8 y9))
  have w3 : ∀ {S4 S5 S6 S7 S8 : cS} {u1 : Nat}, r.2.1 = 1 → Ans (d1 + 17) 110 [.ref 43, .int (nI 18), .int (nI 40), .int (nI 45)] S1 none S4 → Ans (d1 + 17) 40 [.ref 31] S4 none S5 → Ans (d1 + 17) 57 [.ref 44, .int (nI 0)] S5 none S6 → u1 < 2 ^ 20 → Ans (d1 + 17) 71 [.ref 23, .int (nI (chO (qK (by1 A) n r.1)))] S6 (some (.int (nI u1))) S7 → Ans (d1 + 17) 93 [.ref 43, .int rb] S7 none S8 → Ans (d1 + 6 + 12) 117 [.ref 43] S none S8 := fun {S4 S5 S6 S7 S8 u1} y1 y3 y4 y5 y6 y7 y8 => Ans.of (by rw [ml_117]; exact Nat.le_of_ble_eq_true rfl) (Bod.lv (by rfl) (cBjr_3 (d := d1 + 9) (top := a) (cs := c) (tk := qK (by1 A) n r.1) (tk1 := qK (by1 A) n r.1) (tg := r.2.1) htop (by omega) hcs (by omega) p1 htk (by omega) (by omega) (by omega) hT hO htk (by omega) (by omega) hT b2 (by omega) n1 y3 y4 y5 y6 y7 y1 y8))
  by_cases h0 : r.2.1 = 0
  · obtain ⟨S2, f1, f2, f3, f4⟩ := fail_T (d := d1 + 15) hX.1 hX.2 b1.1.1
    dsimp only at f2
    rw [v2] at f2
    rw [h0] at b2
    have r1 : Ans (d1 + 17) 110 [.ref 43, .int (nI 18), .int (nI 40), .int (nI 45)] S1 none S2 := Ans.of (by rw [ml_110]; exact Nat.le_of_ble_eq_true rfl) (Bod.lv (by rfl) (cRtz_1 (d := d1 + 8) (by omega) (by omega) (by omega) b2 f1))
    have i4 := yB_base0 b1.2.2.2.1 e4310 (by dsimp only; omega) (by dsimp only; omega) (by dsimp only; omega) (yG_bad (lo := 40960) hn b1.1 f2 f3 f4 (by dsimp only; omega))
    dsimp only at i4
    obtain ⟨S3, i5, i6⟩ := yB_parse (d := d1) (dp := 0) i4
    obtain ⟨S4, t1, j1, j2, j3⟩ := yB_put1 (d := d1 + 15) (x0 := nI (chO (qK (by1 A) n r.1))) i6 (by omega)
    obtain ⟨S5, t2, j4, j5, j6, _, _⟩ := yB_put2 (d := d1 + 15) (x0 := nI 47) (x1 := rb) j3 (by omega)
    have j7 := yB_H (H1 := []) j6 (fun x hx => by cases hx)
    exact ⟨S5, w1 (by omega) (by omega) r1 (yB_read (d := d1 + 16) i4) i5 j2 j1 j5 j4, Or.inr ⟨(hps _).mpr (if_pos h0), yB_le (yB_lo j7 (by omega) (by omega)) (by omega) (by omega) (by omega) (by omega) (by omega) (by omega)⟩⟩
  obtain ⟨S2, o1, o2⟩ := rtg_T (d := d1 + 6) (k0 := k) (os := []) (x := 18) (y := 40) (z := 45) b1m hr b2 (fun hh => b3 hh) h0 (Or.inr (Or.inr ⟨rfl, rfl, rfl⟩)) (by omega)
  obtain ⟨sl1, sl2, sl3⟩ := scT_l (Eb (by1 A) n) s r.2.1 (r.1 - 1) sc
  obtain ⟨rw1, rw2, rw3⟩ := rtl_w hr h0 (a := 18) (b := 40) (c := 45) (by omega) (by omega) (by omega)
  have o3 : yOK A n S0 z0 fb a0 s ab S1 a c f (r.1, rtl 18 40 45 r.2.2, scT (Eb (by1 A) n) s r.2.1 (r.1 - 1) sc, at') S2 := o2
  obtain ⟨S3, q1, q2, _, _⟩ := read_O (d := d1 + 9) hX.1 o3 (by omega)
  have G3 : yG A n S0 z0 fb a0 s ab (r.1 + 1) (scT (Eb (by1 A) n) s r.2.1 (r.1 - 1) sc) at' (a + wC (rtl 18 40 45 r.2.2)) (c + cnN (rtl 18 40 45 r.2.2)) (f + fxM (rtl 18 40 45 r.2.2)) S3 := q2.1
  obtain ⟨S4, t1, _, t3, t4⟩ := ex_T (D := d1 + 17) (qa := 39560) (qc := 5150) (qf := 1508) hX.1 hX.2 G3 (by omega) (by omega) (by omega) (by omega) (by omega) (by omega) (by omega)
  cases hq2 : exs (qK (by1 A) n) s (r.1 + 1) with
  | none =>
    obtain ⟨t5, _⟩ := t4 hq2
    have i3 := yOK_bad (H := []) (yOK_re q2 b1.2.2.2.1 e4310) (t5 40960 (by omega)) (by omega) (fun p hp => by cases hp)
    rw [g5, v2, sl1] at i3
    have i4 := yB_le i3 (Nat.le_refl _) (Nat.le_refl _) (Nat.le_refl _) (pe := 1508) (by omega) (ps := 280) (by omega) (pn := 893) (by omega)
    obtain ⟨S5, u1, j1, j2, j3⟩ := yB_put1 (d := d1 + 15) (x0 := nI (chO (qK (by1 A) n r.1))) i4 (by omega)
    have hbad : psBind (qK (by1 A) n) (qL (by1 A) n) (Eb (by1 A) n) s sc at' k = .inl (qL (by1 A) n k) := (hps _).mpr (by rw [if_neg h0, hq2]; rfl)
    by_cases e1 : r.2.1 = 1
    · obtain ⟨S6, j4, j5⟩ := yB_bindTo (d := d1 + 6) (q := rb) j3 (by omega) (by omega) (by omega)
      exact ⟨S6, w3 e1 o1 q1 t1 j2 j1 j4, Or.inr ⟨hbad, yB_le j5 (by omega) (by omega) (by omega) (by omega) (by omega) (by omega)⟩⟩
    by_cases e2 : r.2.1 = 2
    · obtain ⟨S6, u2, j4, j5, j6⟩ := yB_put1 (d := d1 + 15) (x0 := nI 42) j3 (by omega)
      exact ⟨S6, w2 e2 o1 q1 t1 j2 j1 j5 j4, Or.inr ⟨hbad, yB_le j6 (by omega) (by omega) (by omega) (by omega) (by omega) (by omega)⟩⟩
    · obtain ⟨S6, u2, j4, j5, j6, _, _⟩ := yB_put2 (d := d1 + 15) (x0 := nI 47) (x1 := rb) j3 (by omega)
      have j7 := yB_H (H1 := []) j6 (fun x hx => by cases hx)
      exact ⟨S6, w1 e1 e2 o1 q1 t1 j2 j1 j5 j4, Or.inr ⟨hbad, yB_le j7 (by omega) (by omega) (by omega) (by omega) (by omega) (by omega)⟩⟩
  | some q =>
    obtain ⟨t5, _, _⟩ := t3 q hq2
    obtain ⟨y1, y2, y3, y4, y5, y6⟩ := exs_G hq2
    obtain ⟨m1, m2, m3, m4⟩ := q_run (by omega) y2
    have hqq := q_lt (by1 A) n q.1
    have hOK4 := yOK_app q2 t5
    dsimp only at hOK4
    have l1 : wC (rtl 18 40 45 r.2.2 ++ q.2.2) = wC r.2.2 + wC q.2.2 := by rw [wC_app, rw1]
    have l2 : cnN (rtl 18 40 45 r.2.2 ++ q.2.2) = cnN r.2.2 + cnN q.2.2 := by rw [cnN_app, rw3]
    have l3 : fxM (rtl 18 40 45 r.2.2 ++ q.2.2) = fxM r.2.2 + fxM q.2.2 := by rw [fxM_app, rw2]
    obtain ⟨S5, j1, j2, _⟩ := yE_1 (d := d1 + 15) (t := chO (qK (by1 A) n r.1)) (p := [qK (by1 A) n r.1]) hOK4.1 (by omega) (by dsimp only; omega)
    have hOK5 := yOK_app hOK4 j2
    dsimp only at hOK5
    have k1 : wC (rtl 18 40 45 r.2.2 ++ q.2.2 ++ [(chO (qK (by1 A) n r.1), [qK (by1 A) n r.1], (0 : Int), (0 : Int))]) = wC r.2.2 + wC q.2.2 + 1 := by rw [wC_app, l1]; show _ + (lC _ + 0) = _; rw [lC_op (by omega)]
    have k2 : cnN (rtl 18 40 45 r.2.2 ++ q.2.2 ++ [(chO (qK (by1 A) n r.1), [qK (by1 A) n r.1], (0 : Int), (0 : Int))]) = cnN r.2.2 + cnN q.2.2 := by rw [cnN_app, l2]; show _ + (cnO _ + 0) = _; rw [cnO_op (by omega)]; omega
    have k3 : fxM (rtl 18 40 45 r.2.2 ++ q.2.2 ++ [(chO (qK (by1 A) n r.1), [qK (by1 A) n r.1], (0 : Int), (0 : Int))]) ≤ fxM r.2.2 + fxM q.2.2 + 1 := by rw [fxM_app, l3]; show _ + (fxO _ + 0) ≤ _; have := fxO_le (chO (qK (by1 A) n r.1), [qK (by1 A) n r.1], 0, 0); omega
    have hnm : r.2.1 = 1 ∨ r.2.1 = 3 → nmR (by1 A) n S5 (r.1 - 1) rb := fun hh => nmR_K hOK5.2.2.2.1.2.2 (n2 hh)
    have hmu2 : a + wC (rtl 18 40 45 r.2.2 ++ q.2.2 ++ [(chO (qK (by1 A) n r.1), [qK (by1 A) n r.1], (0 : Int), (0 : Int))]) < 2 ^ 20 := by rw [k1]; omega
    have hmu : a + wC (rtl 18 40 45 r.2.2 ++ q.2.2) < 2 ^ 20 := by omega
    by_cases e1 : r.2.1 = 1
    · obtain ⟨qn', hrb, hqn⟩ : ∃ q, rb = nI q ∧ q < 4096 := by
        obtain ⟨q, z, i1, i2, i3, i4, i5, i6⟩ := n2 (Or.inl e1)
        exact ⟨q, i1, by omega⟩
      subst hrb
      obtain ⟨S6, j4, j5⟩ := bindTo_T (d := d1 + 6) (kn := r.1 - 1) hOK5.1 (hnm (Or.inl e1)) hqn (by dsimp only; omega) (by dsimp only; omega) (by dsimp only; omega)
      have hOK6 := yOK_app hOK5 j5
      have es : scB (Eb (by1 A) n) s (r.1 - 1) (scT (Eb (by1 A) n) s r.2.1 (r.1 - 1) sc) = scT (Eb (by1 A) n) s r.2.1 (r.1 - 1) sc := by
        unfold scT
        rw [if_pos e1]
        exact scB_2 (Eb_iff.mpr ⟨rfl, rfl⟩)
      dsimp only at hOK6
      rw [es] at hOK6
      refine ⟨S6, w3 e1 o1 q1 t1 hmu j1 j4, Or.inl ⟨q.1, _, _, (hps _).mpr ?_, yOK_re hOK6 b1.2.2.2.1 e4310, by omega, ?_, ?_, ?_, by omega, sl1⟩⟩
      · rw [if_neg h0, hq2]
        simp only [pb, if_pos e1, List.append_assoc, List.cons_append, List.nil_append]
      · rw [wC_app, k1]; show _ + (_ + (3 + 0)) ≤ _; omega
      · rw [cnN_app, k2]; show _ + (_ + (0 + 0)) ≤ _; omega
      · rw [fxM_app]; show _ + (_ + (fxO (19, [r.1 - 1, s], 0, 0) + 0)) ≤ _; have := fxO_le (19, [r.1 - 1, s], 0, 0); omega
    by_cases e2 : r.2.1 = 2
    · obtain ⟨S6, j4, j5, _⟩ := yE_1 (d := d1 + 15) (t := 42) (p := []) hOK5.1 (by omega) (by dsimp only; omega)
      have hOK6 := yOK_app hOK5 j5
      dsimp only at hOK6
      refine ⟨S6, w2 e2 o1 q1 t1 hmu j1 hmu2 j4, Or.inl ⟨q.1, _, _, (hps _).mpr ?_, yOK_re hOK6 b1.2.2.2.1 e4310, by omega, ?_, ?_, ?_, by omega, sl1⟩⟩
      · rw [if_neg h0, hq2]
        simp only [pb, if_neg e1, if_pos e2, List.append_assoc, List.cons_append, List.nil_append]
      · rw [wC_app, k1]; show _ + (_ + (1 + 0)) ≤ _; omega
      · rw [cnN_app, k2]; show _ + (_ + (0 + 0)) ≤ _; omega
      · rw [fxM_app]; show _ + (_ + (fxO (42, [], 0, 0) + 0)) ≤ _; have := fxO_le (42, [], 0, 0); omega
    · have e3 : r.2.1 = 3 := by omega
      obtain ⟨S6, j4, j5⟩ := yE_A (d := d1 + 15) (t := 47) (kn := r.1 - 1) hOK5.1 (by omega) (hnm (Or.inr e3)) (by dsimp only; omega)
      have hOK6 := yOK_app hOK5 j5
      dsimp only at hOK6
      refine ⟨S6, w1 e1 e2 o1 q1 t1 hmu j1 hmu2 j4, Or.inl ⟨q.1, _, _, (hps _).mpr ?_, yOK_re hOK6 b1.2.2.2.1 e4310, by omega, ?_, ?_, ?_, by omega, sl1⟩⟩
      · rw [if_neg h0, hq2]
        simp only [pb, if_neg e1, if_neg e2, List.append_assoc, List.cons_append, List.nil_append]
      · rw [wC_app, k1]; show _ + (_ + (2 + 0)) ≤ _; omega
      · rw [cnN_app, k2]; show _ + (_ + (0 + 0)) ≤ _; omega
      · rw [fxM_app]; show _ + (_ + (fxO (47, [r.1 - 1], 0, 0) + 0)) ≤ _; have := fxO_le (47, [r.1 - 1], 0, 0); omega
end
