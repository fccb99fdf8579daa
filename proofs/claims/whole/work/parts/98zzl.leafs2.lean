/-! LEAF STATEMENTS of the class: return, del -/
section
variable {A : Nat → Int32} {n z0 fb a0 s ab d : Nat} {S0 : cS}
theorem St_48 {a c f k dp : Nat} {sc : SCs} {at' : List Nat} {S : cS} (hX : yPre A n S0 z0) (h : yG A n S0 z0 fb a0 s ab k sc at' a c f S) (hz : yZ (rm (by1 A) n k) dp a c f sc.2.length sc.1.length (fb + sc.1.length - 1)) (hdp : dp ≤ 12) (hk : qK (by1 A) n k = 48) (hd : 240 ≤ d) : ∃ S1, Ans (d + 11) 53 [.ref 43, .int (nI dp)] S none S1 ∧ yRes A n S0 z0 fb a0 s ab S a c f 39600 5152 1510 1510 (sbp [(1, [qL (by1 A) n k], 0, 0)] (psRet (qK (by1 A) n) (qL (by1 A) n) s sc at' k)) S1 := by
  obtain ⟨c1, c2, c3, c4, c5, c6⟩ := yZ_c hz hdp
  have hz' := hz
  obtain ⟨z1, z2, z3, z4, z5, z6⟩ := hz'
  obtain ⟨S1, p1, p2, p3, p4, p5, p6⟩ := St_1 (d := d + 2) hX.1.1 h c1
  rw [hk] at p5
  obtain ⟨g1, g2, g3, g4⟩ := rm_gt (β := by1 A) (n := n) (k := k) (by omega)
  have w1 : wC [(1, [qL (by1 A) n k], (0 : Int), (0 : Int))] = 2 := rfl
  have hI := inF_T (d := d + 0) p2.1
  by_cases h0 : s = 0
  · obtain ⟨d0, rfl⟩ : ∃ d0, d = d0 + 8 := ⟨d - 8, by omega⟩
    rw [if_pos h0] at hI
    have e : psRet (qK (by1 A) n) (qL (by1 A) n) s sc at' k = .inl (qL (by1 A) n k) := by unfold psRet; exact if_pos h0
    obtain ⟨S2, q1, q2⟩ := fail_X (d := d0 + 9) (qa := 39560) (qc := 5150) (qf := 1508) (qe := 1508) hX.1 hX.2 p2 (by omega) (show c + 0 ≤ _ by omega) (show f + 0 ≤ _ by omega) (by omega) (by omega) (by omega)
    obtain ⟨S3, r1, r2⟩ := yB_pass (d := d0 + 15) (t := 48) q2 (by omega) (by omega)
    obtain ⟨S4, t1, t2⟩ := yB_parse (d := d0) (dp := 0) r2
    obtain ⟨S5, tt, u1, u2, u3⟩ := yB_put1 (d := d0 + 15) (x0 := nI 8) t2 (by omega)
    obtain ⟨S6, v1, v2⟩ := yB_nl (d := d0 + 16) u3
    refine ⟨S6, Ans.of (by rw [ml_53]; exact Nat.le_of_ble_eq_true rfl) (Bod.lv (by rfl) (cSt48_1 (d := d0 + 10) (by omega) p3 p4 (by omega) p1 p5 (Ans.of (by rw [ml_112]; exact Nat.le_of_ble_eq_true rfl) (Bod.lv (by rfl) (cRet_3 (d := d0 + 9) (tk := 0) hI q1 r1 (yB_5 r2) (by omega) (by omega) t1 u2 u1))) v1)), ?_⟩
    rw [e]
    refine ⟨fun x hx => (by cases hx), fun l hl => ?_⟩
    have hl : (.inl (qL (by1 A) n k) : PSr) = .inl l := hl
    injection hl with hl
    subst hl
    exact yB_le v2 (by omega) (by omega) (by omega) (by omega) (Nat.le_refl _) (Nat.le_refl _)
  rw [if_neg h0] at hI
  obtain ⟨S2, q1, q2, q3, q4⟩ := pass_O (d := d + 1) hX.1 p2 hk (by omega)
  have hq := q_lt (by1 A) n (k + 1)
  have hrm : rm (by1 A) n (k + 1) = n + 1 - qP (by1 A) n (k + 1) := rfl
  by_cases h2 : qK (by1 A) n (k + 1) = 2
  · have e : psRet (qK (by1 A) n) (qL (by1 A) n) s sc at' k = .inr (k + 2, [(63, [], 0, 0), (8, [], 0, 0)], sc, at') := by unfold psRet; rw [if_neg h0, if_pos h2]
    obtain ⟨S3, r1, r2⟩ := yE_Z (d := d + 6) q2.1 (by dsimp only; omega) (show c + 0 + 1 ≤ _ by omega)
    have r3 := yOK_app q2 r2
    obtain ⟨S4, u1, u2, u3⟩ := yE_1 (d := d + 7) (t := 8) (p := []) r3.1 (by omega) (show a + (2 + (2 + 0)) + 1 ≤ _ by omega)
    have u4 := yOK_app r3 u2
    dsimp only at u4
    obtain ⟨S5, v1, v2⟩ := ln_T (d := d + 2) (qa := 39600) (qc := 5152) (qf := 1510) (qe := 1510) (l := qL (by1 A) n k) hX.1 hX.2 u4 g3 (show a + (2 + (2 + (1 + 0))) ≤ _ by omega) (show c + (0 + (1 + (0 + 0))) ≤ _ by omega) (show f + (0 + (0 + (0 + 0))) ≤ _ by omega) (by omega) (by omega) (by omega)
    refine ⟨S5, Ans.of (by rw [ml_53]; exact Nat.le_of_ble_eq_true rfl) (Bod.lv (by rfl) (cSt48_1 (d := d + 2) (by omega) p3 p4 (by omega) p1 p5 (Ans.of (by rw [ml_112]; exact Nat.le_of_ble_eq_true rfl) (Bod.lv (by rfl) (cRet_2 (d := d + 1) (tk := 2) (a := a + 4) hI q1 ((cP_5 q2.1.1).trans (congrArg nI h2)) (by omega) rfl r1 (by omega) u1))) v1)), ?_⟩
    rw [e]
    have e2 : ln (qK (by1 A) n) (qL (by1 A) n k) (k + 1) (([(1, [qL (by1 A) n k], 0, 0)] ++ [(63, [], 0, 0)]) ++ [(8, [], 0, 0)]) sc at' = sbp [(1, [qL (by1 A) n k], 0, 0)] (.inr (k + 2, [(63, [], 0, 0), (8, [], 0, 0)], sc, at')) := if_pos h2
    rw [← e2]
    exact v2
  have e : psRet (qK (by1 A) n) (qL (by1 A) n) s sc at' k = pb (qL (by1 A) n k) (exs (qK (by1 A) n) s (k + 1)) (fun r => ln (qK (by1 A) n) (qL (by1 A) n k) r.1 (r.2.2 ++ [(8, [], 0, 0)]) sc at') := by unfold psRet; rw [if_neg h0, if_neg h2]
  obtain ⟨S3, r1, r2, r3⟩ := ex_O (d := d + 9) (W := rm (by1 A) n (k + 1)) (dp := dp) hX.1 hX.2 q2 (by omega) hdp ⟨by omega, (show 2 * (c + 0) + _ ≤ _ by omega), (show 2 * (f + 0) + _ ≤ _ by omega), by omega, by omega, by omega⟩ (by omega)
  have htk : sI S2 3105 = nI (qK (by1 A) n (k + 1)) := cP_5 q2.1.1
  have hrse : sbp [(1, [qL (by1 A) n k], 0, 0)] (psRet (qK (by1 A) n) (qL (by1 A) n) s sc at' k) = pb (qL (by1 A) n k) (exs (qK (by1 A) n) s (k + 1)) (fun r => ln (qK (by1 A) n) (qL (by1 A) n k) r.1 ([(1, [qL (by1 A) n k], 0, 0)] ++ (r.2.2 ++ [(8, [], 0, 0)])) sc at') := by
    rw [e, sbp_pb]
    congr 1
    funext x
    rw [sbp_ln]
  rw [hrse]
  cases hr : exs (qK (by1 A) n) s (k + 1) with
  | none =>
    obtain ⟨t1, t2⟩ := r3 hr
    obtain ⟨S4, tt, u1, u2, u3⟩ := yB_put1 (d := d + 7) (x0 := nI 8) t1 (by omega)
    obtain ⟨S5, v1, v2⟩ := yB_nl (d := d + 8) u3
    refine ⟨S5, Ans.of (by rw [ml_53]; exact Nat.le_of_ble_eq_true rfl) (Bod.lv (by rfl) (cSt48_1 (d := d + 2) (by omega) p3 p4 (by omega) p1 p5 (Ans.of (by rw [ml_112]; exact Nat.le_of_ble_eq_true rfl) (Bod.lv (by rfl) (cRet_1 (d := d + 1) hI q1 htk (by omega) h2 r1 u2 u1))) v1)), (fun x hx => by cases hx), fun l hl => ?_⟩
    have hl : (.inl (qL (by1 A) n k) : PSr) = .inl l := hl
    injection hl with hl
    subst hl
    rw [← g3]
    exact yB_le v2 (by omega) (by omega) (by omega) (by omega) (Nat.le_refl _) (Nat.le_refl _)
  | some r =>
    obtain ⟨t1, t2, t3⟩ := r2 r hr
    obtain ⟨e1, e2, e3, e4, e5, e6, e7, e8, e9⟩ := ex_pm hr
    obtain ⟨S4, u1, u2, u3⟩ := yE_1 (d := d + 7) (t := 8) (p := []) t1.1 (by omega) (by dsimp only; rw [wC_app]; omega)
    have v0 := yOK_app t1 u2
    dsimp only at v0
    rw [List.append_assoc] at v0
    obtain ⟨S5, v1, v2⟩ := ln_T (d := d + 2) (qa := 39600) (qc := 5152) (qf := 1510) (qe := 1510) (l := qL (by1 A) n k) hX.1 hX.2 v0 (by omega) (by rw [wC_app, wC_app]; show a + (2 + (_ + (1 + 0))) ≤ _; omega) (by rw [cnN_app, cnN_app]; show c + (0 + (_ + (0 + 0))) ≤ _; omega) (by rw [fxM_app, fxM_app]; show f + (0 + (_ + (0 + 0))) ≤ _; omega) (by omega) (by omega) (by omega)
    exact ⟨S5, Ans.of (by rw [ml_53]; exact Nat.le_of_ble_eq_true rfl) (Bod.lv (by rfl) (cSt48_1 (d := d + 2) (by omega) p3 p4 (by omega) p1 p5 (Ans.of (by rw [ml_112]; exact Nat.le_of_ble_eq_true rfl) (Bod.lv (by rfl) (cRet_1 (d := d + 1) hI q1 htk (by omega) h2 r1 (by dsimp only; rw [wC_app]; omega) u1))) v1)), v2⟩
end
section
variable {A : Nat → Int32} {n z0 fb a0 s ab d : Nat} {S0 : cS}
theorem St_52 {a c f k dp : Nat} {sc : SCs} {at' : List Nat} {S : cS} (hX : yPre A n S0 z0) (h : yG A n S0 z0 fb a0 s ab k sc at' a c f S) (hz : yZ (rm (by1 A) n k) dp a c f sc.2.length sc.1.length (fb + sc.1.length - 1)) (hdp : dp ≤ 12) (hk : qK (by1 A) n k = 52) (hd : 240 ≤ d) : ∃ S1, Ans (d + 14) 53 [.ref 43, .int (nI dp)] S none S1 ∧ yRes A n S0 z0 fb a0 s ab S a c f 39600 5152 1510 1510 (sbp [(1, [qL (by1 A) n k], 0, 0)] (psDel (qK (by1 A) n) (qL (by1 A) n) (Eb (by1 A) n) s sc at' k)) S1 := by
  obtain ⟨c1, c2, c3, c4, c5, c6⟩ := yZ_c hz hdp
  have hz' := hz
  obtain ⟨z1, z2, z3, z4, z5, z6⟩ := hz'
  obtain ⟨S1, p1, p2, p3, p4, p5, p6⟩ := St_1 (d := d + 5) hX.1.1 h c1
  rw [hk] at p5
  obtain ⟨S2, q1, q2, q3, q4⟩ := pass_O (d := d + 4) hX.1 p2 hk (by omega)
  obtain ⟨g1, g2, g3, g4⟩ := rm_gt (β := by1 A) (n := n) (k := k) (by omega)
  have w1 : wC [(1, [qL (by1 A) n k], (0 : Int), (0 : Int))] = 2 := rfl
  have hq := q_lt (by1 A) n (k + 1)
  have hrm : rm (by1 A) n (k + 1) = n + 1 - qP (by1 A) n (k + 1) := rfl
  have hG : yG A n S0 z0 fb a0 s ab (k + 1) sc at' (a + 2) c f S2 := q2.1
  obtain ⟨S3, r1, r0, r2, r3⟩ := ex_T (D := d + 12) (qa := 39560) (qc := 5150) (qf := 1508) hX.1 hX.2 hG (by omega) (by omega) (by omega) (by omega) (by omega) (by omega) (by omega)
  have hdel : sbp [(1, [qL (by1 A) n k], 0, 0)] (psDel (qK (by1 A) n) (qL (by1 A) n) (Eb (by1 A) n) s sc at' k) = pb (qL (by1 A) n k) (exs (qK (by1 A) n) s (k + 1)) (fun r => if r.2.1 = 0 then .inl (qL (by1 A) n k) else ln (qK (by1 A) n) (qL (by1 A) n k) r.1 ([(1, [qL (by1 A) n k], 0, 0)] ++ rtl 20 43 48 r.2.2) (scT (Eb (by1 A) n) s r.2.1 (r.1 - 1) sc) at') := by
    unfold psDel
    rw [sbp_pb]
    congr 1
    funext x
    by_cases hx : x.2.1 = 0
    · rw [if_pos hx, if_pos hx]; rfl
    · rw [if_neg hx, if_neg hx, sbp_ln]
  rw [hdel]
  have hgo : ∀ S4 S5, Ans (d + 12) 110 [.ref 43, .int (nI 20), .int (nI 43), .int (nI 48)] S3 none S4 → Ans (d + 13) 86 [.ref 31] S4 none S5 → Ans (d + 14) 53 [.ref 43, .int (nI dp)] S none S5 := fun S4 S5 u v => Ans.of (by rw [ml_53]; exact Nat.le_of_ble_eq_true rfl) (Bod.lv (by rfl) (cSt52_1 (d := d + 5) (by omega) p3 p4 (by omega) p1 p5 (Ans.of (by rw [ml_109]; exact Nat.le_of_ble_eq_true rfl) (Bod.lv (by rfl) (cDel_1 (d := d + 4) q1 r1 u))) v))
  cases hr : exs (qK (by1 A) n) s (k + 1) with
  | none =>
    obtain ⟨t1, t, t2, t3, t4⟩ := r3 hr
    obtain ⟨S4, u1, u2⟩ := yB_rtg (d := d + 1) (x := 20) (y := 43) (z := 48) (yB_le (t1 40960 (by omega)) (Nat.le_refl _) (Nat.le_refl _) (Nat.le_refl _) (pe := 1508) (by omega) (ps := 280) (by omega) (pn := 893) (by omega)) (Nat.le_refl _) t2 t3 (Nat.le_refl _) t4 (by omega) (by omega) (by omega) (by omega)
    obtain ⟨S5, v1, v2⟩ := yB_nl (d := d + 11) u2
    refine ⟨S5, hgo S4 S5 u1 v1, (fun x hx => by cases hx), fun l hl => ?_⟩
    have hl : (.inl (qL (by1 A) n k) : PSr) = .inl l := hl
    injection hl with hl
    subst hl
    rw [← g3]
    exact yB_le (yOK_bad q2 v2 (by omega) (fun p hp => by cases hp)) (by omega) (by omega) (by omega) (by omega) (Nat.le_refl _) (Nat.le_refl _)
  | some r =>
    obtain ⟨t1, t2, t3⟩ := r2 r hr
    obtain ⟨e1, e2, e3, e4, e5, e6, e7, e8, e9⟩ := ex_pm hr
    have t0 := yOK_app q2 t1
    dsimp only at t0
    by_cases hr0 : r.2.1 = 0
    · obtain ⟨S4, u1, u2⟩ := fail_X (d := d + 3) (qa := 39600) (qc := 5152) (qf := 1510) (qe := 1510) hX.1 hX.2 t0 (by rw [wC_app]; omega) (by rw [cnN_app]; show c + (0 + _) ≤ _; omega) (by rw [fxM_app]; show f + (0 + _) ≤ _; omega) (by omega) (by omega) (by omega)
      rw [hr0] at t2
      obtain ⟨S5, v1, v2⟩ := yB_nl (d := d + 11) u2
      refine ⟨S5, hgo S4 S5 (Ans.of (by rw [ml_110]; exact Nat.le_of_ble_eq_true rfl) (Bod.lv (by rfl) (cRtz_1 (d := d + 3) (by omega) (by omega) (by omega) t2 u1))) v1, (fun x hx => ?_), fun l hl => ?_⟩
      · have hx : (if r.2.1 = 0 then (.inl (qL (by1 A) n k) : PSr) else _) = .inr x := hx
        rw [if_pos hr0] at hx
        cases hx
      · have hl : (if r.2.1 = 0 then (.inl (qL (by1 A) n k) : PSr) else _) = .inl l := hl
        rw [if_pos hr0] at hl
        injection hl with hl
        subst hl
        rw [e4, g3] at v2
        exact v2
    · obtain ⟨S4, u1, u2⟩ := rtg_T (d := d + 1) (x := 20) (y := 43) (z := 48) t0 hr t2 (fun hne => by rw [w1]; exact t3 hne) hr0 (Or.inl ⟨rfl, rfl, rfl⟩) (by omega)
      obtain ⟨m1, m2, m3⟩ := rtl_w (a := 20) (b := 43) (c := 48) hr hr0 (by omega) (by omega) (by omega)
      obtain ⟨n1, n2⟩ := scT_l (Eb (by1 A) n) s r.2.1 (r.1 - 1) sc
      obtain ⟨S5, v1, v2⟩ := ln_T (d := d + 5) (qa := 39600) (qc := 5152) (qf := 1510) (qe := 1510) (l := qL (by1 A) n k) hX.1 hX.2 u2 (by omega) (by rw [wC_app, m1]; omega) (by rw [cnN_app, m3]; show c + (0 + _) ≤ _; omega) (by rw [fxM_app, m2]; show f + (0 + _) ≤ _; omega) (by omega) (by rw [n1]; omega) (by rw [n1]; omega)
      refine ⟨S5, hgo S4 S5 u1 v1, ?_⟩
      show yRes A n S0 z0 fb a0 s ab S a c f 39600 5152 1510 1510 (if r.2.1 = 0 then (.inl (qL (by1 A) n k) : PSr) else _) S5
      rw [if_neg hr0]
      exact v2
end
