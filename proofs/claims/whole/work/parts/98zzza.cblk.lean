/-! A CLASS'S BLOCK in the class -/
def PC5 (A : Nat → Int32) (n : Nat) (S0 : cS) (z0 fb a0 F : Nat) : Prop := ∀ (d dp ind s ab ca ra k a c f : Nat) (sc : SCs) (at' : List Nat) (S : cS), lvD dp ≤ d + 2 → ind < 2 ^ 20 → dp ≤ 11 → (s ≠ 0 → 1 ≤ ind) → qI (by1 A) n k = ind → qK (by1 A) n k ≠ 0 → qK (by1 A) n k ≠ 1 → 4 * rem (by1 A) n k + 3 ≤ F → yG A n S0 z0 fb a0 s ab k sc at' a c f S → yZ (rem (by1 A) n k) dp a c f sc.2.length sc.1.length (fb + sc.1.length - 1) → a = a0 + ca → ab ≤ 40 * dp → ab ≤ 400 → ∃ S1, (∀ (t : Nat) (lv : sm_L) (v : Option Value) (Sf : cS), t ≤ 3000 → sm_get lv 0 = some (.ref 43) → sm_get lv 1 = some (.int (nI ind)) → sm_get lv 2 = some (.int (nI dp)) → sm_get lv 3 = some (.int (nI ab)) → sm_get lv 4 = some (.int (nI t)) → (∀ lv1 : sm_L, sm_get lv1 0 = some (.ref 43) → sm_get lv1 1 = some (.int (nI ind)) → sm_get lv1 2 = some (.int (nI dp)) → sm_get lv1 3 = some (.int (nI ab)) → sm_get lv1 4 = some (.int (nI (t + 1))) → Bod d 106 3 lv1 [] S1 v Sf) → Bod d 106 3 lv [] S v Sf) ∧ yRes A n S0 z0 fb a0 s ab S a c f (qA dp) (qC dp) (qF dp) (qF dp) (psA A n F 5 dp ind s none 0 ca ra sc at' k) S1
def P106 (A : Nat → Int32) (n : Nat) (S0 : cS) (z0 fb a0 F : Nat) : Prop := ∀ (d dp ind s ab ca ra k a c f : Nat) (sc : SCs) (at' : List Nat) (S : cS), lvD dp ≤ d + 2 → ind < 2 ^ 20 → dp ≤ 11 → (s ≠ 0 → 1 ≤ ind) → 4 * rem (by1 A) n k + 4 ≤ F → yG A n S0 z0 fb a0 s ab k sc at' a c f S → yZ (rem (by1 A) n k) dp a c f sc.2.length sc.1.length (fb + sc.1.length - 1) → a = a0 + ca → ab ≤ 40 * dp → ab ≤ 400 → ∃ S1, (∀ (t : Nat) (lv : sm_L), t + rem (by1 A) n k ≤ 3001 → sm_get lv 0 = some (.ref 43) → sm_get lv 1 = some (.int (nI ind)) → sm_get lv 2 = some (.int (nI dp)) → sm_get lv 3 = some (.int (nI ab)) → sm_get lv 4 = some (.int (nI t)) → Bod d 106 3 lv [] S none S1) ∧ yRes A n S0 z0 fb a0 s ab S a c f (qA dp) (qC dp) (qF dp) (qF dp) (psA A n F 4 dp ind s none 0 ca ra sc at' k) S1
/-- the head of a class's block and the block -/
def PB6 (A : Nat → Int32) (n : Nat) (S0 : cS) (z0 fb a0 F : Nat) : Prop := ∀ (d dp ind s ab ca ra k a c f : Nat) (sc : SCs) (at' : List Nat) (S : cS), lvD dp ≤ d + 1 → ind < 2 ^ 20 → dp ≤ 12 → 4 * rm (by1 A) n k + 1 ≤ F → yG A n S0 z0 fb a0 s ab k sc at' a c f S → yZ (rm (by1 A) n k - 2) dp a c f sc.2.length sc.1.length (fb + sc.1.length - 1) → a = a0 + ca → ab ≤ 40 * dp → ∃ S1, (Ans d 85 [.ref 43, .int (nI ind), .int (nI dp)] S (some (.int (nI 0))) S1 ∨ ∃ S' i1, Ans d 85 [.ref 43, .int (nI ind), .int (nI dp)] S (some (.int (nI 1))) S' ∧ sI S' 3108 = nI i1 ∧ i1 < 2 ^ 20 ∧ Ans d 106 [.ref 43, .int (nI i1), .int (nI dp), .int (nI ab)] S' none S1) ∧ yRes A n S0 z0 fb a0 s ab S a c f (qA dp) (qC dp) (qF dp) (qF dp) (psA A n F 6 dp ind s none 0 ca ra sc at' k) S1
theorem pc_bad0 {A : Nat → Int32} {n k dp ind s tr ca ra : Nat} {lp : LpT} {sc : SCs} {at' : List Nat} (h : qK (by1 A) n k = 0) : ∀ F, psA A n F 5 dp ind s lp tr ca ra sc at' k = .inl (qL (by1 A) n k) := by
  intro F
  cases F with
  | zero => rfl
  | succ F =>
    show psC (qK (by1 A) n) (qL (by1 A) n) (Eb (by1 A) n) (psA A n F) dp ind s ca ra sc at' k = _
    unfold psC psC0
    rw [if_neg (by omega), if_neg (by omega), if_neg (fun hc => by omega)]
    rfl
theorem pc_bad1 {A : Nat → Int32} {n k dp s tr ca ra : Nat} {lp : LpT} {sc : SCs} {at' : List Nat} (h : qK (by1 A) n k = 0) : ∀ F, psA A n F 4 dp (qI (by1 A) n k) s lp tr ca ra sc at' k = .inl (qL (by1 A) n k) := by
  intro F
  cases F with
  | zero => rfl
  | succ F =>
    show psQ (qK (by1 A) n) (qL (by1 A) n) (qI (by1 A) n) (psA A n F) 5 4 dp (qI (by1 A) n k) s lp tr ca ra sc at' k = _
    unfold psQ
    rw [if_neg (by omega), if_neg (by omega), pc_bad0 h]
    rfl
section
variable {A : Nat → Int32} {n z0 fb a0 F : Nat} {S0 : cS}
set_option maxHeartbeats 4000000 in
/-- a statement of a class's block -/
theorem PC5_T (hX : yPre A n S0 z0) (h84 : P84 A n S0 z0 fb a0 F) : PC5 A n S0 z0 fb a0 (F + 1) := by
  intro d' dp ind s ab ca ra k a c f sc at' S hd hind hdp hs hie k0 k1 hF h hz hca hab hab4
  have hn := hX.1.1
  have hlv : lvD dp = 270 + 8 * (12 - dp) := rfl
  have hqA : qA dp = 39700 + 60 * (12 - dp) := rfl
  have hqC : qC dp = 5160 + 2 * (12 - dp) := rfl
  have hqF : qF dp = 1515 + 4 * (12 - dp) := rfl
  obtain ⟨d, rfl⟩ : ∃ d, d' = d + 12 := ⟨d' - 12, by omega⟩
  have e : psA A n (F + 1) 5 dp ind s none 0 ca ra sc at' k = psC (qK (by1 A) n) (qL (by1 A) n) (Eb (by1 A) n) (psA A n F) dp ind s ca ra sc at' k := rfl
  have hrr := rem_rm (β := by1 A) (n := n) (k := k) k1
  have hrp := rm_pos (by1 A) n k
  have hzr : yZ (rm (by1 A) n k) dp a c f sc.2.length sc.1.length (fb + sc.1.length - 1) := yZ_le hz (by omega) (Nat.le_refl _)
  obtain ⟨c1, c2, c3, c4, c5, c6⟩ := yZ_c hz (by omega)
  obtain ⟨z1, z2, z3, z4, z5, z6⟩ := id hz
  have hin := ins_T (d := d + 3) hn h hind
  rw [if_pos ⟨k0, k1, hie⟩] at hin
  obtain ⟨S1, p1, p2, p3, p4, p5, p6⟩ := St_1 (d := d + 4) hn h c1
  have hdpM : dp < 2 ^ 20 := by omega
  have hqk := q_lt (by1 A) n k
  have G1 : yG A n S0 z0 fb a0 s ab k sc at' (a + 2) c f S1 := p2.1
  rw [e]
  unfold psC
  -- what comes behind the first step
  have hpre : ∀ {r : PSr} {S2 : cS}, yRes A n S0 z0 fb a0 s ab S1 (a + 2) c f (qA dp) (qC dp) (qF dp) (qF dp) r S2 → yRes A n S0 z0 fb a0 s ab S a c f (qA dp) (qC dp) (qF dp) (qF dp) (sb r fun x => .inr (x.1, (1, [qL (by1 A) n k], 0, 0) :: x.2.1, x.2.2.1, x.2.2.2)) S2 := fun {r S2} g => yRes_pre p2 g
  by_cases k46 : qK (by1 A) n k = 46
  · obtain ⟨S2, x, q1, q2, q3⟩ := fun_T (d := d) hX h84 (ind := ind) (ra := ra + 2) G1 hzr (show a + 2 = a0 + (ca + 2) by omega) hab k46 hie hdp (by omega) (by omega)
    cases hr : psDef (qK (by1 A) n) (qL (by1 A) n) (Eb (by1 A) n) (psA A n F) dp ind s (ca + 2) (ra + 2) sc at' k with
    | inl l =>
      obtain ⟨S3, r1, r2⟩ := give_B (d := d + 1) (q := x) (q3 l hr) (by omega)
      refine ⟨S3, fun t lv v Sf ht e0 e1 e2 e3 e4 hB => cCbr_6 (d := d + 4) e4 e0 e1 e2 e3 (by omega) hind hdpM (by omega) ht hin p3 p4 (by omega) p1 p5 (by omega) k46 q1 r1 hB, hpre (yRes_l (l := l) ?_ (yB_le r2 (by omega) (by omega) (by omega) (by omega) (Nat.le_refl _) (Nat.le_refl _)))⟩
      unfold psC0
      rw [if_pos k46, hr]
      rfl
    | inr y =>
      obtain ⟨Y2, q, rfl, qM, hnm⟩ := q2 y hr
      obtain ⟨m1, m2, m3, m4, m5, m6⟩ := psDef_G (ps_H (by1 A) n (Eb (by1 A) n) F) k46 hie hr
      obtain ⟨n1, n2, n3, n4, n5, n6, n7, n8⟩ := m3
      obtain ⟨ky, oy, scy, aty⟩ := y
      dsimp only at m4 n1 n2
      subst m4
      have G2 : yG A n S0 z0 fb a0 s ab ky scy aty (a + 2 + wC oy) (c + cnN oy) (f + fxM oy) S2 := Y2.1
      obtain ⟨S3, r1, Y3⟩ := give_T (d := d + 1) G2 hnm qM hab4 (by omega)
      refine ⟨S3, fun t lv v Sf ht e0 e1 e2 e3 e4 hB => cCbr_6 (d := d + 4) e4 e0 e1 e2 e3 (by omega) hind hdpM (by omega) ht hin p3 p4 (by omega) p1 p5 (by omega) k46 q1 r1 hB, hpre (yRes_r (x := _) ?_ (yOK_app Y2 Y3))⟩
      unfold psC0
      rw [if_pos k46, hr]
      rfl
  by_cases k51 : qK (by1 A) n k = 51
  · obtain ⟨g1, g2, g3, g4⟩ := rm_gt (β := by1 A) (n := n) (k := k) (by omega)
    obtain ⟨S2, q1, Y2, _, _⟩ := pass_O (d := d + 4) hX.1 (yOK_nil G1) k51 (by omega)
    obtain ⟨S3, r1, r2⟩ := ln_T (d := d + 4) (qa := qA dp) (qc := qC dp) (qf := qF dp) (qe := qF dp) (l := qL (by1 A) n k) hX.1 hX.2 Y2 g3 (show a + 2 + 0 ≤ _ by omega) (show c + 0 ≤ _ by omega) (show f + 0 ≤ _ by omega) (by omega) (by omega) (by omega)
    refine ⟨S3, fun t lv v Sf ht e0 e1 e2 e3 e4 hB => cCbr_5 (d := d + 4) e4 e0 e1 e2 e3 (by omega) hind hdpM (by omega) ht hin p3 p4 (by omega) p1 p5 (by omega) k46 k51 q1 r1 hB, hpre ?_⟩
    unfold psC0
    rw [if_neg k46, if_pos k51]
    exact r2
  have hgo : ∀ {rb : Int32} {S3 S4 S5 S6 S7 : cS}, Ans (d + 12) 92 [.ref 43] S1 (some (.int rb)) S3 → Ans (d + 12) 75 [.ref 31, .int (nI 19)] S3 none S4 → Ans (d + 12) 57 [.ref 44, .int (nI 0)] S4 none S5 → Ans (d + 12) 107 [.ref 43, .int rb, .int (nI ab)] S5 none S6 → Ans (d + 12) 86 [.ref 31] S6 none S7 → ∀ (t : Nat) (lv : sm_L) (v : Option Value) (Sf : cS), t ≤ 3000 → sm_get lv 0 = some (.ref 43) → sm_get lv 1 = some (.int (nI ind)) → sm_get lv 2 = some (.int (nI dp)) → sm_get lv 3 = some (.int (nI ab)) → sm_get lv 4 = some (.int (nI t)) → (∀ lv1 : sm_L, sm_get lv1 0 = some (.ref 43) → sm_get lv1 1 = some (.int (nI ind)) → sm_get lv1 2 = some (.int (nI dp)) → sm_get lv1 3 = some (.int (nI ab)) → sm_get lv1 4 = some (.int (nI (t + 1))) → Bod (d + 12) 106 3 lv1 [] S7 v Sf) → Bod (d + 12) 106 3 lv [] S v Sf := fun {rb S3 S4 S5 S6 S7} u1 u2 u3 u4 u5 t lv v Sf ht e0 e1 e2 e3 e4 hB => cCbr_4 (d := d + 4) e4 e0 e1 e2 e3 (by omega) hind hdpM (by omega) ht hin p3 p4 (by omega) p1 p5 (by omega) k46 k51 u1 u2 u3 u4 u5 hB
  have hbad : ∀ {S4 S5 : cS} {rb : Int32} {l : Nat}, Ans (d + 12) 57 [.ref 44, .int (nI 0)] S4 none S5 → yB A n S0 z0 fb l (a + 2) c f ab (a + 2 + 2) [] 39560 5150 1508 1508 280 893 S1 S5 → ∃ S6 S7, Ans (d + 12) 107 [.ref 43, .int rb, .int (nI ab)] S5 none S6 ∧ Ans (d + 12) 86 [.ref 31] S6 none S7 ∧ yB A n S0 z0 fb l (a + 2) c f ab (a + 2 + 2) [] (qA dp) (qC dp) (qF dp) (qF dp) 280 893 S1 S7 := fun {S4 S5 rb l} u1 g => by
    obtain ⟨S6, v1, v2⟩ := give_B (d := d + 1) (q := rb) g (by omega)
    obtain ⟨S7, w1, w2⟩ := yB_nl (d := d + 10) v2
    exact ⟨S6, S7, v1, w1, yB_le w2 (by omega) (by omega) (by omega) (by omega) (Nat.le_refl _) (Nat.le_refl _)⟩
  obtain ⟨dd, rfl⟩ : ∃ dd, d = dd + 5 := ⟨d - 5, by omega⟩
  by_cases k3' : qK (by1 A) n k ≠ 3
  · have ep : psC0 (qK (by1 A) n) (qL (by1 A) n) (Eb (by1 A) n) (psA A n F) dp ind s (ca + 2) (ra + 2) sc at' k = .inl (qL (by1 A) n k) := by
      unfold psC0
      rw [if_neg k46, if_neg k51, if_neg (fun hc => k3' hc.1)]
    obtain ⟨S3, q1, q2⟩ := pass_X (d := dd + 8) (t := 3) (qa := 39560) (qc := 5150) (qf := 1508) (qe := 1508) hX.1 hX.2 (yOK_nil G1) k3' (by omega) (show a + 2 + 0 ≤ _ by omega) (show c + 0 ≤ _ by omega) (show f + 0 ≤ _ by omega) (by omega) (by omega) (by omega)
    obtain ⟨S4, r1, r2⟩ := yB_pass (d := dd + 15) (t := 19) q2 (by omega) (by omega)
    obtain ⟨S5, t1, t2⟩ := yB_parse (d := dd) (dp := 0) r2
    obtain ⟨S6, S7, v1, v2, v3⟩ := hbad (rb := sI S1 3109) t1 t2
    exact ⟨S7, hgo (Ans.of (by rw [ml_92]; exact Nat.le_of_ble_eq_true rfl) (Bod.lv (by rfl) (cTkr_1 (d := dd + 8) q1))) r1 t1 v1 v2, hpre (yRes_l ep v3)⟩
  have k3 : qK (by1 A) n k = 3 := by omega
  obtain ⟨g1, g2, g3, g4⟩ := rm_gt (β := by1 A) (n := n) (k := k) (by omega)
  obtain ⟨S3, q, q1, qM, Y3, hnm, hnK3⟩ := name_O (d := dd + 8) hX.1 (yOK_nil G1) k3
  by_cases k19' : qK (by1 A) n (k + 1) ≠ 19
  · have ep : psC0 (qK (by1 A) n) (qL (by1 A) n) (Eb (by1 A) n) (psA A n F) dp ind s (ca + 2) (ra + 2) sc at' k = .inl (qL (by1 A) n k) := by
      unfold psC0
      rw [if_neg k46, if_neg k51, if_neg (fun hc => k19' hc.2)]
    obtain ⟨S4, r1, r2⟩ := pass_X (d := dd + 9) (t := 19) (qa := 39560) (qc := 5150) (qf := 1508) (qe := 1508) hX.1 hX.2 Y3 k19' (by omega) (show a + 2 + 0 ≤ _ by omega) (show c + 0 ≤ _ by omega) (show f + 0 ≤ _ by omega) (by omega) (by omega) (by omega)
    obtain ⟨S5, t1, t2⟩ := yB_parse (d := dd) (dp := 0) r2
    obtain ⟨S6, S7, v1, v2, v3⟩ := hbad (rb := nI q) t1 t2
    refine ⟨S7, hgo q1 r1 t1 v1 v2, hpre (yRes_l ep ?_)⟩
    rw [← g3]
    exact v3
  have k19 : qK (by1 A) n (k + 1) = 19 := by omega
  obtain ⟨g5, g6, g7, g8⟩ := rm_gt' (β := by1 A) (n := n) (k := k + 1) (k' := k + 2) rfl (by omega)
  obtain ⟨S4, r1, Y4, _, hnK4⟩ := pass_O (d := dd + 9) hX.1 Y3 k19 (by omega)
  have G4 : yG A n S0 z0 fb a0 s ab (k + 2) sc at' (a + 2) c f S4 := Y4.1
  have hq2 := q_lt (by1 A) n (k + 2)
  have hrm2 : rm (by1 A) n (k + 2) = n + 1 - qP (by1 A) n (k + 2) := rfl
  obtain ⟨S5, u1, u2, u3⟩ := ex_O (d := dd + 17) (W := rm (by1 A) n (k + 2)) (dp := dp) hX.1 hX.2 (yOK_nil G4) (by omega) (by omega) ⟨(show a + 2 + 0 + _ ≤ _ by omega), (show 2 * (c + 0) + _ ≤ _ by omega), (show 2 * (f + 0) + _ ≤ _ by omega), by omega, by omega, by omega⟩ (by omega)
  cases hr : exs (qK (by1 A) n) s (k + 2) with
  | none =>
    obtain ⟨v1, _⟩ := u3 hr
    have ep : psC0 (qK (by1 A) n) (qL (by1 A) n) (Eb (by1 A) n) (psA A n F) dp ind s (ca + 2) (ra + 2) sc at' k = .inl (qL (by1 A) n k) := by
      unfold psC0
      rw [if_neg k46, if_neg k51, if_pos ⟨k3, k19⟩, hr]
      rfl
    obtain ⟨S6, S7, w1, w2, w3⟩ := hbad (rb := nI q) u1 (yOK_bad (H := []) Y4 v1 (Nat.le_refl _) (fun p hp => by cases hp))
    refine ⟨S7, hgo q1 r1 u1 w1 w2, hpre (yRes_l ep ?_)⟩
    rw [← g3, ← g7]
    exact w3
  | some r =>
    obtain ⟨t1, t2, t3⟩ := u2 r hr
    obtain ⟨e1, e2, e3, e4, e5, e6, e7, e8, e9⟩ := ex_pm hr
    rw [List.nil_append] at t1
    have G5 : yG A n S0 z0 fb a0 s ab r.1 sc at' (a + 2 + wC r.2.2) (c + cnN r.2.2) (f + fxM r.2.2) S5 := t1.1
    obtain ⟨S6, w1, Y6⟩ := give_T (d := dd + 6) G5 (nmR_K (nK_trans hnK4 t1.2.2.2.1.2.2) hnm) qM hab4 (by omega)
    have Y7 : yOK A n S0 z0 fb a0 s ab S1 (a + 2) c f (r.1, r.2.2 ++ gvO (Eb (by1 A) n) at' k, sc, gvA (Eb (by1 A) n) at' k) S6 := yOK_app Y4 (yOK_app t1 Y6)
    obtain ⟨o1, o2, o3, o4⟩ := gv_w (Eb (by1 A) n) at' k
    obtain ⟨S7, x1, x2⟩ := ln_T (d := dd + 9) (qa := qA dp) (qc := qC dp) (qf := qF dp) (qe := qF dp) (l := qL (by1 A) n k) hX.1 hX.2 Y7 (by omega) (by rw [wC_app]; omega) (by rw [cnN_app, o4]; omega) (by rw [fxM_app, o3]; omega) (by omega) (by omega) (by omega)
    refine ⟨S7, hgo q1 r1 u1 w1 x1, hpre ?_⟩
    unfold psC0
    rw [if_neg k46, if_neg k51, if_pos ⟨k3, k19⟩, hr]
    exact x2
/-- statements of a class's block -/
theorem P106_T (hX : yPre A n S0 z0) (h5 : PC5 A n S0 z0 fb a0 F) (h106 : P106 A n S0 z0 fb a0 F) : P106 A n S0 z0 fb a0 (F + 1) := by
  intro d dp ind s ab ca ra k a c f sc at' S hd hind hdp hs hF h hz hca hab hab4
  have hlv : lvD dp = 270 + 8 * (12 - dp) := rfl
  obtain ⟨d1, rfl⟩ : ∃ d1, d = d1 + 9 := ⟨d - 9, by omega⟩
  have e : psA A n (F + 1) 4 dp ind s none 0 ca ra sc at' k = psQ (qK (by1 A) n) (qL (by1 A) n) (qI (by1 A) n) (psA A n F) 5 4 dp ind s none 0 ca ra sc at' k := rfl
  have h8 := cP_8 h.1
  have hin := ins_T (d := d1) hX.1.1 h hind
  have hq := q_lt (by1 A) n k
  have hrl := rm_le (β := by1 A) (k := k) hX.1.1
  obtain ⟨c0, c1, c2, c3, c4, c5, c6⟩ := yZ_cap hz (by omega)
  have hdpM : dp < 2 ^ 20 := by omega
  have hfi : ab < 2 ^ 20 := by omega
  rw [e]
  unfold psQ
  by_cases k1 : qK (by1 A) n k = 1
  · rw [if_neg (fun hc => hc.2.1 k1)] at hin
    refine ⟨S, fun t lv ht q0 q1 q2 q3 q4 => ?_, yRes_r (if_pos (Or.inl k1)) (yOK_nil h)⟩
    by_cases h3 : 3000 < t
    · exact cCbr_3 (d := d1 + 1) q4 q0 q1 q2 q3 (by omega) hind hdpM hfi h3 (h8.1 k1)
    · exact cCbr_9 (d := d1 + 1) q4 q0 q1 q2 q3 (by omega) hind hdpM hfi (by omega) hin (h8.1 k1)
  have hi := h8.2 k1
  have hiM := ind_lt (A := A) (k := k) hX.1.1
  by_cases hlt : qI (by1 A) n k < ind
  · rw [if_neg (fun hc => by have := hc.2.2; omega)] at hin
    refine ⟨S, fun t lv ht q0 q1 q2 q3 q4 => ?_, yRes_r (if_pos (Or.inr hlt)) (yOK_nil h)⟩
    by_cases h3 : 3000 < t
    · exact cCbr_1 (d := d1 + 1) q4 q0 q1 q2 q3 (by omega) hind hdpM hfi h3 hi hiM (by omega)
    · exact cCbr_7 (d := d1 + 1) q4 q0 q1 q2 q3 (by omega) hind hdpM hfi (by omega) hin hi hiM (by omega)
  rw [if_neg (fun hc => hc.elim k1 hlt)]
  by_cases hgt : ind < qI (by1 A) n k
  · rw [if_neg (fun hc => by have := hc.2.2; omega)] at hin
    obtain ⟨S1, p1, p2⟩ := fail_X (d := d1 + 1) (qa := qA dp) (qc := qC dp) (qf := qF dp) (qe := qF dp) hX.1 hX.2 (yOK_nil h) c1 c2 c3 c4 c5 c6
    refine ⟨S1, fun t lv ht q0 q1 q2 q3 q4 => ?_, yRes_l (if_pos hgt) p2⟩
    by_cases h3 : 3000 < t
    · exact cCbr_2 (d := d1 + 1) q4 q0 q1 q2 q3 (by omega) hind hdpM hfi h3 hi hiM hgt p1
    · exact cCbr_8 (d := d1 + 1) q4 q0 q1 q2 q3 (by omega) hind hdpM hfi (by omega) hin hi hiM hgt p1
  rw [if_neg hgt]
  have hie : qI (by1 A) n k = ind := by omega
  by_cases k0 : qK (by1 A) n k = 0
  · rw [if_neg (fun hc => hc.1 k0)] at hin
    refine ⟨S, fun t lv ht q0 q1 q2 q3 q4 => ?_, yRes_l (l := qL (by1 A) n k) ?_ (yRes_bad hX.1.1 (yOK_nil h) (cP_B hX.1 h.1 k0) (FrT.refl _ _ _ _ _) (nK_id h.1) c1 c2 c3 c4 c5 c6)⟩
    · by_cases h3 : 3000 < t
      · exact cCbr_1 (d := d1 + 1) q4 q0 q1 q2 q3 (by omega) hind hdpM hfi h3 hi hiM (by omega)
      · exact cCbr_7 (d := d1 + 1) q4 q0 q1 q2 q3 (by omega) hind hdpM hfi (by omega) hin hi hiM (by omega)
    · rw [pc_bad0 k0]; rfl
  have hrr := rem_rm (β := by1 A) (n := n) (k := k) k1
  have hrp := rm_pos (by1 A) n k
  obtain ⟨S2, p1, p2⟩ := h5 (d1 + 9) dp ind s ab ca ra k a c f sc at' S hd hind hdp hs hie k0 k1 (by omega) h hz hca hab hab4
  cases hr : psA A n F 5 dp ind s none 0 ca ra sc at' k with
  | inl l =>
    obtain ⟨S3, q1, q2⟩ := cbk_B (d := d1) (i := ind) (dp := dp) (fi := ab) (p2.2 l hr) hind hdpM hfi
    exact ⟨S3, fun t lv ht e0 e1 e2 e3 e4 => p1 t lv _ _ (by omega) e0 e1 e2 e3 e4 (fun lv1 u0 u1 u2 u3 u4 => q1 (t + 1) lv1 (by omega) u0 u1 u2 u3 u4), yRes_l rfl q2⟩
  | inr x =>
    obtain ⟨k', os, sc1, at1⟩ := x
    have hx := p2.1 _ hr
    obtain ⟨x1, x2, x3, x4⟩ := (ps_H (by1 A) n (Eb (by1 A) n) F).1 5 dp ind s none 0 ca ra sc at' k _ (Or.inr rfl) hie hs hr
    have hs1 : s < sc.1.length := h.2.2.2.2.2.2.2.2.1
    dsimp only at x2 x3
    obtain ⟨S3, q1, q2⟩ := h106 (d1 + 9) dp ind s ab (ca + wC os) (ra + wR (qK (by1 A) n) os) k' (a + wC os) (c + cnN os) (f + fxM os) sc1 at1 S2 hd hind hdp hs (by omega) hx.1 (yZ_go (x := (k', os, sc1, at1)) hz x4 (by dsimp only; omega) (by omega)) (by omega) hab hab4
    exact ⟨S3, fun t lv ht e0 e1 e2 e3 e4 => p1 t lv _ _ (by omega) e0 e1 e2 e3 e4 (fun lv1 u0 u1 u2 u3 u4 => q1 (t + 1) lv1 (by omega) u0 u1 u2 u3 u4), yRes_pre hx q2⟩
/-- the head of a class's block and the block -/
theorem PB6_T (hX : yPre A n S0 z0) (h106 : P106 A n S0 z0 fb a0 F) : PB6 A n S0 z0 fb a0 (F + 1) := by
  intro d dp ind s ab ca ra k a c f sc at' S hd hind hdp hF h hz hca hab
  have hlv : lvD dp = 270 + 8 * (12 - dp) := rfl
  obtain ⟨d0, rfl⟩ : ∃ d0, d = d0 + 9 := ⟨d - 9, by omega⟩
  have e : psA A n (F + 1) 6 dp ind s none 0 ca ra sc at' k = psB (qK (by1 A) n) (qL (by1 A) n) (qI (by1 A) n) (psA A n F) 4 dp ind s none 0 ca ra sc at' k := rfl
  obtain ⟨c0, c1, c2, c3, c4, c5, c6⟩ := yZ_cap hz hdp
  have hdpM : dp < 2 ^ 20 := by omega
  rw [e]
  unfold psB
  rcases opn_T (d := d0) (o := ind) (dp := dp) (qa := qA dp) (qc := qC dp) (qf := qF dp) (qe := qF dp) hX (yOK_nil h) hind hdpM c1 c2 c3 c4 c5 c6 with ⟨k13, k2, k1, k0, hlt, hd10, S1, p1, p2⟩ | ⟨S1, l, p1, p2, p3⟩
  · have hG : yG A n S0 z0 fb a0 s ab (k + 2) sc at' a c f S1 := p2.1
    have hrn : rem (by1 A) n (k + 2) + 1 ≤ rm (by1 A) n (k + 1) := rm_nl (β := by1 A) (n := n) (j := k + 1) k2
    have hrg := rm_gt (β := by1 A) (n := n) (k := k) (by omega)
    have hrl := rm_le (β := by1 A) (k := k + 2) hX.1.1
    have hiM := ind_lt (A := A) (k := k + 2) hX.1.1
    obtain ⟨S2, q1, q2⟩ := h106 (d0 + 8) dp (qI (by1 A) n (k + 2)) s ab ca ra (k + 2) a c f sc at' S1 (by omega) hiM (by omega) (fun _ => by omega) (by omega) hG (yZ_le hz (by omega) (Nat.le_refl _)) hca hab (by omega)
    refine ⟨S2, Or.inr ⟨S1, _, p1, (cP_8 hG.1).2 k1, hiM, Ans.of (by rw [ml_106]; exact Nat.le_of_ble_eq_true rfl) (Bod.lv (by rfl) (cCb0_1 (d := d0) hiM hdpM (by omega) (fun lv1 u0 u1 u2 u3 u4 => q1 0 lv1 (by omega) u0 u1 u2 u3 u4)))⟩, ?_⟩
    rw [if_neg (fun hc => hc k13), if_neg (fun hc => hc k2), if_neg (fun hc => by omega)]
    have := yRes_pre p2 q2
    rw [sbp_nil] at this
    exact this
  · refine ⟨S1, Or.inl p1, yRes_l (l := l) ?_ p2⟩
    rcases p3 with ⟨u1, u2⟩ | ⟨u1, u2, u3, u4⟩
    · by_cases k13 : qK (by1 A) n k = 13
      · rw [if_neg (fun hc => hc k13), if_pos (fun hc => u1 ⟨k13, hc⟩), u2]
      · rw [if_pos k13, u2]
    · rw [if_neg (fun hc => hc u1), if_neg (fun hc => hc u2)]
      by_cases hc : qK (by1 A) n (k + 2) = 1 ∨ qI (by1 A) n (k + 2) ≤ ind ∨ 10 < dp
      · rw [if_pos hc, u4]
      · rw [if_neg hc, pc_bad1 (by omega), u4]
end
