/-! LEAF STATEMENTS of the class: pass, return, raise -/
theorem sbp_ln (K : Nat → Nat) (l k : Nat) (os os1 : List Op) (sc : SCs) (at' : List Nat) : sbp os (ln K l k os1 sc at') = ln K l k (os ++ os1) sc at' := by
  unfold ln
  by_cases h : K k = 2
  · rw [if_pos h, if_pos h]; rfl
  · rw [if_neg h, if_neg h]; rfl
theorem sbp_pb (os : List Op) (l : Nat) (r : PR) (g : Nat × Nat × List Op → PSr) : sbp os (pb l r g) = pb l r (fun x => sbp os (g x)) := by
  cases r <;> rfl
section
variable {A : Nat → Int32} {n z0 fb a0 s ab d : Nat} {S0 : cS}
/-- what a rule asks of the state it begins in -/
def yPre (A : Nat → Int32) (n : Nat) (S0 : cS) (z0 : Nat) : Prop := pX A n S0 z0 ∧ qK (by1 A) n 0 ≠ 1
theorem yZ_c {W dp a c f e sn fn : Nat} (h : yZ W dp a c f e sn fn) (hdp : dp ≤ 12) : a ≤ 39000 ∧ c ≤ 5150 ∧ f ≤ 1507 ∧ e ≤ 1507 ∧ sn ≤ 264 ∧ fn ≤ 893 := by
  obtain ⟨z1, z2, z3, z4, z5, z6⟩ := h
  exact ⟨by omega, by omega, by omega, by omega, by omega, by omega⟩
/-- the step that tells the line -/
theorem St_1 {a c f k : Nat} {sc : SCs} {at' : List Nat} {S : cS} (hn : n ≤ 3000) (h : yG A n S0 z0 fb a0 s ab k sc at' a c f S) (ha : a ≤ 39000) : ∃ S1, Ans (d + 8) 54 [.ref 23, .int (nI 1), .int (nI (qL (by1 A) n k))] S (some (.int (nI a))) S1 ∧ yOK A n S0 z0 fb a0 s ab S a c f (k, [(1, [qL (by1 A) n k], 0, 0)], sc, at') S1 ∧ sI S 3106 = nI (qL (by1 A) n k) ∧ qL (by1 A) n k < 2 ^ 20 ∧ sI S1 3105 = nI (qK (by1 A) n k) ∧ qK (by1 A) n k < 64 := by
  obtain ⟨S1, p1, p2, p3⟩ := yE_2 (d := d + 6) (m := qL (by1 A) n k) h (t := 1) (by omega) (by omega)
  have hq := q_lt (by1 A) n k
  exact ⟨S1, p1, p2, cP_6 h.1, by omega, cP_5 p2.1.1, hq.2.2.2.2⟩
theorem St_51 {a c f k dp : Nat} {sc : SCs} {at' : List Nat} {S : cS} (hX : yPre A n S0 z0) (h : yG A n S0 z0 fb a0 s ab k sc at' a c f S) (hz : yZ (rm (by1 A) n k) dp a c f sc.2.length sc.1.length (fb + sc.1.length - 1)) (hdp : dp ≤ 12) (hk : qK (by1 A) n k = 51) : ∃ S1, Ans (d + 11) 53 [.ref 43, .int (nI dp)] S none S1 ∧ yRes A n S0 z0 fb a0 s ab S a c f 39600 5152 1510 1510 (sbp [(1, [qL (by1 A) n k], 0, 0)] (ln (qK (by1 A) n) (qL (by1 A) n k) (k + 1) [] sc at')) S1 := by
  obtain ⟨c1, c2, c3, c4, c5, c6⟩ := yZ_c hz hdp
  obtain ⟨S1, p1, p2, p3, p4, p5, p6⟩ := St_1 (d := d + 2) hX.1.1 h c1
  rw [hk] at p5
  obtain ⟨S2, q1, q2, q3, q4⟩ := pass_O (d := d + 2) hX.1 p2 hk (by omega)
  obtain ⟨g1, g2, g3, g4⟩ := rm_gt (β := by1 A) (n := n) (k := k) (by omega)
  have w1 : wC [(1, [qL (by1 A) n k], (0 : Int), (0 : Int))] = 2 := rfl
  obtain ⟨S3, r1, r2⟩ := ln_T (d := d + 2) (qa := 39600) (qc := 5152) (qf := 1510) (qe := 1510) hX.1 hX.2 q2 g3 (by omega) (show c + 0 ≤ _ by omega) (show f + 0 ≤ _ by omega) (by omega) (by omega) (by omega)
  refine ⟨S3, Ans.of (by rw [ml_53]; exact Nat.le_of_ble_eq_true rfl) (Bod.lv (by rfl) (cSt51_1 (d := d + 2) (by omega) p3 p4 (by omega) p1 p5 q1 r1)), ?_⟩
  rw [sbp_ln]
  exact r2
theorem St_56 {a c f k dp : Nat} {sc : SCs} {at' : List Nat} {S : cS} (hX : yPre A n S0 z0) (h : yG A n S0 z0 fb a0 s ab k sc at' a c f S) (hz : yZ (rm (by1 A) n k) dp a c f sc.2.length sc.1.length (fb + sc.1.length - 1)) (hdp : dp ≤ 12) (hk : qK (by1 A) n k = 56) (hd : 240 ≤ d) : ∃ S1, Ans (d + 11) 53 [.ref 43, .int (nI dp)] S none S1 ∧ yRes A n S0 z0 fb a0 s ab S a c f 39600 5152 1510 1510 (sbp [(1, [qL (by1 A) n k], 0, 0)] (psRse (qK (by1 A) n) (qL (by1 A) n) s sc at' k)) S1 := by
  obtain ⟨c1, c2, c3, c4, c5, c6⟩ := yZ_c hz hdp
  have hz' := hz
  obtain ⟨z1, z2, z3, z4, z5, z6⟩ := hz'
  obtain ⟨S1, p1, p2, p3, p4, p5, p6⟩ := St_1 (d := d + 2) hX.1.1 h c1
  rw [hk] at p5
  obtain ⟨S2, q1, q2, q3, q4⟩ := pass_O (d := d + 1) hX.1 p2 hk (by omega)
  obtain ⟨g1, g2, g3, g4⟩ := rm_gt (β := by1 A) (n := n) (k := k) (by omega)
  have w1 : wC [(1, [qL (by1 A) n k], (0 : Int), (0 : Int))] = 2 := rfl
  have hq := q_lt (by1 A) n (k + 1)
  have hrm : rm (by1 A) n (k + 1) = n + 1 - qP (by1 A) n (k + 1) := rfl
  obtain ⟨S3, r1, r2, r3⟩ := ex_O (d := d + 9) (W := rm (by1 A) n (k + 1)) (dp := dp) hX.1 hX.2 q2 (by omega) hdp ⟨by omega, (show 2 * (c + 0) + _ ≤ _ by omega), (show 2 * (f + 0) + _ ≤ _ by omega), by omega, by omega, by omega⟩ (by omega)
  have hrse : sbp [(1, [qL (by1 A) n k], 0, 0)] (psRse (qK (by1 A) n) (qL (by1 A) n) s sc at' k) = pb (qL (by1 A) n k) (exs (qK (by1 A) n) s (k + 1)) (fun r => ln (qK (by1 A) n) (qL (by1 A) n k) r.1 ([(1, [qL (by1 A) n k], 0, 0)] ++ (r.2.2 ++ [(14, [], 0, 0)])) sc at') := by
    unfold psRse
    rw [sbp_pb]
    congr 1
    funext x
    rw [sbp_ln]
  rw [hrse]
  cases hr : exs (qK (by1 A) n) s (k + 1) with
  | none =>
    obtain ⟨t1, t2⟩ := r3 hr
    obtain ⟨S4, tt, u1, u2, u3⟩ := yB_put1 (d := d + 7) (x0 := nI 14) t1 (by omega)
    obtain ⟨S5, v1, v2⟩ := yB_nl (d := d + 8) u3
    refine ⟨S5, Ans.of (by rw [ml_53]; exact Nat.le_of_ble_eq_true rfl) (Bod.lv (by rfl) (cSt56_1 (d := d + 2) (by omega) p3 p4 (by omega) p1 p5 (Ans.of (by rw [ml_113]; exact Nat.le_of_ble_eq_true rfl) (Bod.lv (by rfl) (cRse_1 (d := d + 1) q1 r1 u2 u1))) v1)), (fun x hx => by cases hx), fun l hl => ?_⟩
    have hl : (.inl (qL (by1 A) n k) : PSr) = .inl l := hl
    injection hl with hl
    subst hl
    rw [← g3]
    exact yB_le v2 (by omega) (by omega) (by omega) (by omega) (Nat.le_refl _) (Nat.le_refl _)
  | some r =>
    obtain ⟨t1, t2, t3⟩ := r2 r hr
    obtain ⟨e1, e2, e3, e4, e5, e6, e7, e8, e9⟩ := ex_pm hr
    obtain ⟨S4, u1, u2, u3⟩ := yE_1 (d := d + 7) (t := 14) (p := []) t1.1 (by omega) (by dsimp only; rw [wC_app]; omega)
    have v0 := yOK_app t1 u2
    dsimp only at v0
    rw [List.append_assoc] at v0
    obtain ⟨S5, v1, v2⟩ := ln_T (d := d + 2) (qa := 39600) (qc := 5152) (qf := 1510) (qe := 1510) (l := qL (by1 A) n k) hX.1 hX.2 v0 (by omega) (by rw [wC_app, wC_app]; show a + (2 + (_ + (1 + 0))) ≤ _; omega) (by rw [cnN_app, cnN_app]; show c + (0 + (_ + (0 + 0))) ≤ _; omega) (by rw [fxM_app, fxM_app]; show f + (0 + (_ + (0 + 0))) ≤ _; omega) (by omega) (by omega) (by omega)
    exact ⟨S5, Ans.of (by rw [ml_53]; exact Nat.le_of_ble_eq_true rfl) (Bod.lv (by rfl) (cSt56_1 (d := d + 2) (by omega) p3 p4 (by omega) p1 p5 (Ans.of (by rw [ml_113]; exact Nat.le_of_ble_eq_true rfl) (Bod.lv (by rfl) (cRse_1 (d := d + 1) q1 r1 (by dsimp only; rw [wC_app]; omega) u1))) v1)), v2⟩
end
