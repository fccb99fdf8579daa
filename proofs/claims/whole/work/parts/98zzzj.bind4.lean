/-! BINDING in the class: all of it; the statement -/
section
variable {A : Nat → Int32} {n z0 fb a0 s ab d : Nat} {S0 B : cS}
theorem bind_T {a c f k dp : Nat} {sc : SCs} {at' : List Nat} {S : cS} (hX : yPre A n S0 z0) (h : yG A n S0 z0 fb a0 s ab k sc at' a c f S) (hz : yZ (rm (by1 A) n k) dp (a - 2) c f sc.2.length sc.1.length (fb + sc.1.length - 1)) (hdp : dp ≤ 12) (hd : 240 ≤ d) : ∃ S1, Ans (d + 12) 117 [.ref 43] S none S1 ∧ yBi A n S0 z0 fb a0 s ab k sc at' a c f S S1 := by
  cases hr : exs (qK (by1 A) n) s k with
  | none =>
    obtain ⟨c1, c2, c3, c4, c5, c6⟩ := yZ_c hz hdp
    obtain ⟨z1, z2, z3, z4, z5, z6⟩ := hz
    have hrm : rm (by1 A) n k = n + 1 - qP (by1 A) n k := rfl
    have hn := hX.1.1
    have hq := q_lt (by1 A) n k
    obtain ⟨S1, p1, _, _, p4⟩ := ex_T (D := d + 11) (qa := 39560) (qc := 5150) (qf := 1508) hX.1 hX.2 h (by omega) (by omega) (by omega) (by omega) (by omega) (by omega) (by omega)
    obtain ⟨t5, _⟩ := p4 hr
    have i4 := t5 (a + 2) (by omega)
    obtain ⟨S2, u, j1, j2, j3⟩ := yB_put1 (d := d + 9) (x0 := nI 17) i4 (by omega)
    exact ⟨S2, Ans.of (by rw [ml_117]; exact Nat.le_of_ble_eq_true rfl) (Bod.lv (by rfl) (cBjr_4 (d := d + 3) (top := a) (cs := c) (tk := 0) (a := 0) h.2.1.1 (by omega) h.2.1.2.1 (by omega) p1 (yB_5 i4) (by omega) (by omega) (by omega) (chO_T (d := d + 2) (tk := 0) (by omega)) rfl j2 j1)), Or.inr ⟨by unfold psBind; rw [hr]; rfl, yB_le j3 (by omega) (by omega) (by omega) (by omega) (by omega) (by omega)⟩⟩
  | some r =>
    by_cases h19 : qK (by1 A) n r.1 = 19
    · exact bindE_T hX h hz hdp hr h19 hd
    by_cases hO : chO (qK (by1 A) n r.1) = 0
    · obtain ⟨c1, c2, c3, c4, c5, c6⟩ := yZ_c hz hdp
      obtain ⟨z1, z2, z3, z4, z5, z6⟩ := hz
      have hrm : rm (by1 A) n k = n + 1 - qP (by1 A) n k := rfl
      have hn := hX.1.1
      have hq := q_lt (by1 A) n k
      obtain ⟨x1, x2, x3, x4, x5, x6⟩ := exs_G hr
      obtain ⟨v1, v2, v3, v4⟩ := q_run (by omega) x2
      have hqr := q_lt (by1 A) n r.1
      obtain ⟨S1, p1, _, p3, _⟩ := ex_T (D := d + 11) (qa := 39560) (qc := 5150) (qf := 1508) hX.1 hX.2 h (by omega) (by omega) (by omega) (by omega) (by omega) (by omega) (by omega)
      obtain ⟨b1, b2, b3⟩ := p3 r hr
      obtain ⟨S2, j1, j2, _⟩ := yE_1 (d := d + 9) (t := 17) (p := []) b1.1 (by omega) (by dsimp only; omega)
      have hOK := yOK_app b1 j2
      have hu : a + wC r.2.2 < 2 ^ 20 := by omega
      have hT := chO_T (d := d + 2) (S := S1) (tk := qK (by1 A) n r.1) hqr.2.2.2.2
      rw [hO] at hT
      refine ⟨S2, Ans.of (by rw [ml_117]; exact Nat.le_of_ble_eq_true rfl) (Bod.lv (by rfl) (cBjr_4 (d := d + 3) (top := a) (cs := c) (tk := qK (by1 A) n r.1) (a := 0) h.2.1.1 (by omega) h.2.1.2.1 (by omega) p1 (cP_5 b1.1.1) (by omega) h19 (by omega) hT rfl hu j1)), Or.inl ⟨r.1, r.2.2 ++ [(17, [], 0, 0)], sc, ?_, hOK, by omega, ?_, ?_, ?_, by omega, rfl⟩⟩
      · unfold psBind
        rw [hr]
        show (if qK (by1 A) n r.1 = 19 then _ else _) = _
        rw [if_neg h19, if_pos hO]
      · rw [wC_app]; show _ + (_ + (1 + 0)) ≤ _; omega
      · rw [cnN_app]; show _ + (_ + (0 + 0)) ≤ _; omega
      · rw [fxM_app]; show _ + (_ + (0 + 0)) ≤ _; omega
    · exact bindO_T hX h hz hdp hr hO hd
theorem St_B {a c f k dp : Nat} {sc : SCs} {at' : List Nat} {S : cS} (hX : yPre A n S0 z0) (h : yG A n S0 z0 fb a0 s ab k sc at' a c f S) (hz : yZ (rm (by1 A) n k) dp a c f sc.2.length sc.1.length (fb + sc.1.length - 1)) (hdp : dp ≤ 12) (hk : qK (by1 A) n k < 40 ∨ qK (by1 A) n k = 41 ∨ qK (by1 A) n k = 42 ∨ qK (by1 A) n k = 45 ∨ qK (by1 A) n k = 55 ∨ 56 < qK (by1 A) n k) (hd : 240 ≤ d) : ∃ S1, Ans (d + 14) 53 [.ref 43, .int (nI dp)] S none S1 ∧ yRes A n S0 z0 fb a0 s ab S a c f 39600 5152 1510 1510 (sbp [(1, [qL (by1 A) n k], 0, 0)] (psBind (qK (by1 A) n) (qL (by1 A) n) (Eb (by1 A) n) s sc at' k)) S1 := by
  obtain ⟨c1, c2, c3, c4, c5, c6⟩ := yZ_c hz hdp
  obtain ⟨S1, p1, p2, p3, p4, p5, p6⟩ := St_1 (d := d + 5) hX.1.1 h c1
  have hq := q_lt (by1 A) n k
  have hG : yG A n S0 z0 fb a0 s ab k sc at' (a + 2) c f S1 := p2.1
  obtain ⟨S2, q1, q2⟩ := bind_T (d := d + 1) (dp := dp) hX hG (by rw [Nat.add_sub_cancel]; exact hz) hdp (by omega)
  have hgo : ∀ {S3 : cS}, Ans (d + 13) 86 [.ref 31] S2 none S3 → Ans (d + 14) 53 [.ref 43, .int (nI dp)] S none S3 := fun {S3} v => by
    refine Ans.of (by rw [ml_53]; exact Nat.le_of_ble_eq_true rfl) (Bod.lv (by rfl) ?_)
    by_cases k41 : qK (by1 A) n k = 41
    · rw [k41] at p5; exact cSt41_1 (d := d + 5) (by omega) p3 p4 (by omega) p1 p5 q1 v
    by_cases k42 : qK (by1 A) n k = 42
    · rw [k42] at p5; exact cSt42_1 (d := d + 5) (by omega) p3 p4 (by omega) p1 p5 q1 v
    by_cases k45 : qK (by1 A) n k = 45
    · rw [k45] at p5; exact cSt45_1 (d := d + 5) (by omega) p3 p4 (by omega) p1 p5 q1 v
    by_cases k55 : qK (by1 A) n k = 55
    · rw [k55] at p5; exact cSt55_1 (d := d + 5) (by omega) p3 p4 (by omega) p1 p5 q1 v
    exact cStB_1 (d := d + 5) (tk := qK (by1 A) n k) (by omega) p3 p4 (by omega) p1 p5 (by omega) (by omega) (by omega) (by omega) (by omega) (by omega) (by omega) (by omega) (by omega) (by omega) (by omega) (by omega) (by omega) (by omega) (by omega) (by omega) (by omega) (by omega) (by omega) q1 v
  have w1 : wC [(1, [qL (by1 A) n k], (0 : Int), (0 : Int))] = 2 := rfl
  rcases q2 with ⟨k1, os, sc1, e, hOK, hL, b1, b2, b3, b4, b5⟩ | ⟨e, hB⟩
  · have hOK2 := yOK_app p2 hOK
    dsimp only at hOK2
    have hl1 : sc1.1.length = sc.1.length := by rw [b5]
    obtain ⟨S3, v1, v2⟩ := ln_T (d := d + 5) (qa := 39600) (qc := 5152) (qf := 1510) (qe := 1510) (l := qL (by1 A) n k) hX.1 hX.2 hOK2 hL (by rw [wC_app]; omega) (by rw [cnN_app]; show c + (0 + _) ≤ _; omega) (by rw [fxM_app]; show f + (0 + _) ≤ _; omega) b4 (by omega) (by omega)
    refine ⟨S3, hgo v1, ?_⟩
    rw [e, sbp_ln]
    exact v2
  · obtain ⟨S3, v1, v2⟩ := yB_nl (d := d + 11) hB
    refine ⟨S3, hgo v1, ?_⟩
    rw [e]
    refine ⟨fun x hx => (by cases hx), fun l hl => ?_⟩
    have hl : (.inl (qL (by1 A) n k) : PSr) = .inl l := hl
    injection hl with hl
    subst hl
    exact yB_le (yOK_bad p2 v2 (by omega) (fun p hp => by cases hp)) (by omega) (by omega) (by omega) (by omega) (Nat.le_refl _) (Nat.le_refl _)
end
