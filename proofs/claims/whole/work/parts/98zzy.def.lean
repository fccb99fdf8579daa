/-! DEF in the class -/
section
variable {A : Nat → Int32} {n z0 fb l a c f ab lo : Nat} {S0 : cS} {H : List Nat} {qa qc qf qe qs qn d : Nat}
/-- a function's text behind a fault: its block, its end -/
theorem fnTl_B {T S : cS} {ind dp : Nat} (h : yB A n S0 z0 fb l a c f ab lo H qa qc qf qe qs qn T S) (hq : qa + 3 ≤ 40960) (hc : qc + 1 ≤ 5200) (hind : ind < 2 ^ 20) (hdp : dp < 2 ^ 20) : ∃ tr S7 S8 a3 S9, sI S 4308 = nI tr ∧ tr < 2 ^ 20 ∧ Ans (d + 11) 84 [.ref 43, .int (nI ind), .int (nI dp)] (wI 4308 (nI 0) (wI 4309 (Int32.ofInt (-1)) S)) none S7 ∧ Ans (d + 11) 73 [.ref 23, .long 1152921504606846976, .long 0] S7 none S8 ∧ a3 < 2 ^ 20 ∧ Ans (d + 11) 71 [.ref 23, .int (nI 8)] S8 (some (.int (nI a3))) S9 ∧ yB A n S0 z0 fb l a c f ab lo H (qa + 3) (qc + 1) qf qe qs qn T (wI 4308 (nI tr) (wI 4309 (sI S 4309) S9)) := by
  obtain ⟨tr, lt, t1, t2, t3, t4⟩ := yB_tl h
  have e3 := yB_eq3 h
  have hT : ∀ S : cS, FrT [4308, 4309, 4311] [] [] [] S (wI 4308 (nI 0) (wI 4309 (Int32.ofInt (-1)) S)) := fun S => FrT_wI (by decide) (FrT_wI (by decide) (FrT.refl _ _ _ _ _))
  have h1 := yB_ints h (hT T) (hT S) (fun i hi => by
    have h0 := e3 i hi
    simp only [List.mem_cons, List.not_mem_nil, or_false] at hi
    rcases hi with rfl | rfl | rfl
    · exact (rIe _ _ _).trans (rIe _ _ _).symm
    · exact ((rIn _ _ (by decide)).trans (rIe _ _ _)).trans ((rIn _ _ (by decide)).trans (rIe _ _ _)).symm
    · exact ((rIn _ _ (by decide)).trans (rIn _ _ (by decide))).trans (h0.trans ((rIn _ _ (by decide)).trans (rIn _ _ (by decide))).symm)) ⟨0, lt, rIe _ _ _, ((rIn _ _ (by decide)).trans (rIn _ _ (by decide))).trans t2, by omega, t4⟩
  obtain ⟨S7, p1, p2⟩ := yB_blk (d := d + 1) (o := ind) (dp := dp) h1 hind hdp
  obtain ⟨S8, q1, q2⟩ := yB_const (d := d + 8) (hi := 1152921504606846976) (lo' := 0) p2 (by omega) hc
  obtain ⟨S9, a3, r1, r2, r3⟩ := yB_put1 (d := d + 9) (x0 := nI 8) q2 (by omega)
  refine ⟨tr, S7, S8, a3, S9, t1, by omega, p1, q1, r2, r1, yB_ints r3 (hT T).symm (FrT_wI (by decide) (FrT_wI (by decide) (FrT.refl _ _ _ _ _))) (fun i hi => ?_) ⟨tr, lt, rIe _ _ _, ?_, t3, t4⟩⟩
  · have h0 := yB_eq3 r3 i hi
    have h00 := e3 i hi
    simp only [List.mem_cons, List.not_mem_nil, or_false] at hi
    rcases hi with rfl | rfl | rfl
    · exact (rIe _ _ _).trans (t1.symm.trans h00)
    · exact ((rIn _ _ (by decide)).trans (rIe _ _ _)).trans h00
    · exact ((rIn _ _ (by decide)).trans (rIn _ _ (by decide))).trans (h0.trans ((rIn _ _ (by decide)).trans (rIn _ _ (by decide))))
  · have h0 := yB_eq3 r3 4311 (by decide)
    exact ((rIn _ _ (by decide)).trans (rIn _ _ (by decide))).trans (h0.trans (((rIn _ _ (by decide)).trans (rIn _ _ (by decide))).trans ((e3 4311 (by decide)).symm.trans t2)))
/-- a function's end behind a fault -/
theorem fnE_B {B S : cS} {t0 nu : Nat} (h : yB A n S0 z0 fb l a c f ab lo [t0] qa qc qf qe qs qn B S) (hq : qa + 2 ≤ 40960) (ht0 : a ≤ t0) : ∃ top a5 S12, sI S 2307 = nI top ∧ top < 2 ^ 20 ∧ Ans (d + 11) 83 [.ref 23, .int (nI (t0 + 1)), .int (nI top)] S none (wA 24 (t0 + 1) (nI top) S) ∧ a5 < 2 ^ 20 ∧ Ans (d + 11) 54 [.ref 23, .int (nI 22), .int (nI nu)] (wA 24 (t0 + 1) (nI top) S) (some (.int (nI a5))) S12 ∧ yB A n S0 z0 fb l a c f ab lo [] (qa + 2) qc qf qe qs qn B S12 := by
  obtain ⟨t, c', f', s, e, sn, fn, av, tv, lv, l', h1, h2, h3, h4, h5, h6, h7', h8, h9, hfl, hlo, g1, g2, g3, g4, g5, g6, g7, g8, g9, g10⟩ := yB_top h
  obtain ⟨u1, u2⟩ := yB_patch (d := d + 10) (p := t0) (x := nI t) h List.mem_cons_self ht0
  obtain ⟨S12, a5, v1, v2, v3, _⟩ := yB_put2 (d := d + 9) (x0 := nI 22) (x1 := nI nu) u2 hq
  exact ⟨t, a5, S12, h1.1, by omega, u1, v2, v1, yB_H v3 (fun x hx => by cases hx)⟩
end
section
variable {A : Nat → Int32} {n z0 fb a0 F s ab d : Nat} {S0 : cS}
/-- a block that has no colon -/
theorem blk_N (hX : yPre A n S0 z0) {dp ind tr ca ra k a c f : Nat} {lp : LpT} {sc : SCs} {at' : List Nat} {S : cS} (h : yG A n S0 z0 fb a0 s ab k sc at' a c f S) (hk : qK (by1 A) n k ≠ 13) (hind : ind < 2 ^ 20) (hdp : dp < 2 ^ 20) (ha : a ≤ qA dp) (hc : c ≤ qC dp) (hf : f ≤ qF dp) (he : sc.2.length ≤ qF dp) (hs : sc.1.length ≤ 280) (hfn : fb + sc.1.length ≤ 894) : ∃ S1, Ans (d + 10) 84 [.ref 43, .int (nI ind), .int (nI dp)] S none S1 ∧ yRes A n S0 z0 fb a0 s ab S a c f (qA dp) (qC dp) (qF dp) (qF dp) (psA A n F 2 dp ind s lp tr ca ra sc at' k) S1 := by
  rcases opn_T (d := d) (o := ind) (dp := dp) (qa := qA dp) (qc := qC dp) (qf := qF dp) (qe := qF dp) hX (yOK_nil h) hind hdp ha hc hf he hs hfn with ⟨k13, _⟩ | ⟨S1, l, p1, p2, p3⟩
  · exact absurd k13 hk
  · have hl : l = qL (by1 A) n k := by
      rcases p3 with ⟨_, u2⟩ | ⟨u1, _⟩
      · exact u2
      · exact absurd u1 hk
    subst hl
    refine ⟨S1, Ans.of (by rw [ml_84]; exact Nat.le_of_ble_eq_true rfl) (Bod.lv (by rfl) (cBlk_3 (d := d + 1) hind hdp p1)), yRes_l (l := qL (by1 A) n k) ?_ p2⟩
    cases F with
    | zero => rfl
    | succ F =>
      show psB (qK (by1 A) n) (qL (by1 A) n) (qI (by1 A) n) (psA A n F) 1 dp ind s lp tr ca ra sc at' k = _
      unfold psB
      exact if_pos hk
set_option maxHeartbeats 8000000 in
/-- def, up to the making of its function -/
theorem fun_T (hX : yPre A n S0 z0) (h84 : P84 A n S0 z0 fb a0 F) {dp ind ca ra k a c f : Nat} {sc : SCs} {at' : List Nat} {S : cS} (h : yG A n S0 z0 fb a0 s ab k sc at' (a + 2) c f S) (hz : yZ (rm (by1 A) n k) dp a c f sc.2.length sc.1.length (fb + sc.1.length - 1)) (hca : a + 2 = a0 + ca) (hab : ab ≤ 40 * dp) (hk : qK (by1 A) n k = 46) (hie : qI (by1 A) n k = ind) (hdp : dp ≤ 11) (hF : 4 * rm (by1 A) n k + 1 ≤ F) (hd : lvD dp ≤ d + 15) : ∃ Sf x, Ans (d + 12) 97 [.ref 43, .int (nI dp)] S (some (.int x)) Sf ∧ (∀ y, psDef (qK (by1 A) n) (qL (by1 A) n) (Eb (by1 A) n) (psA A n F) dp ind s ca ra sc at' k = .inr y → yOK A n S0 z0 fb a0 s ab S (a + 2) c f y Sf ∧ ∃ q, x = nI q ∧ q < 4096 ∧ nmR (by1 A) n Sf (k + 1) (nI q)) ∧ ∀ l, psDef (qK (by1 A) n) (qL (by1 A) n) (Eb (by1 A) n) (psA A n F) dp ind s ca ra sc at' k = .inl l → yB A n S0 z0 fb l (a + 2) c f ab (a + 4) [] (qA dp - 20) (qC dp - 1) (qF dp - 2) (qF dp - 2) 280 893 S Sf := by
  have hn := hX.1.1
  obtain ⟨c1, c2, c3, c4, c5, c6⟩ := yZ_c hz (by omega)
  obtain ⟨z1, z2, z3, z4, z5, z6⟩ := id hz
  have hlv : lvD dp = 270 + 8 * (12 - dp) := rfl
  have hlv1 : lvD (dp + 1) = 270 + 8 * (12 - (dp + 1)) := rfl
  have hqA : qA dp = 39700 + 60 * (12 - dp) := rfl
  have hqC : qC dp = 5160 + 2 * (12 - dp) := rfl
  have hqF : qF dp = 1515 + 4 * (12 - dp) := rfl
  have hqA1 : qA (dp + 1) = 39700 + 60 * (12 - (dp + 1)) := rfl
  have hqC1 : qC (dp + 1) = 5160 + 2 * (12 - (dp + 1)) := rfl
  have hqF1 : qF (dp + 1) = 1515 + 4 * (12 - (dp + 1)) := rfl
  obtain ⟨g1, g2, g3, g4⟩ := rm_gt (β := by1 A) (n := n) (k := k) (by omega)
  have hqk := q_lt (by1 A) n k
  have hiM := ind_lt (A := A) (k := k) hX.1.1
  have hindM : ind < 2 ^ 20 := by omega
  have h3108 : sI S 3108 = nI ind := ((cP_8 h.1).2 (by omega)).trans (congrArg nI hie)
  have hsl : s < sc.1.length := h.2.2.2.2.2.2.2.2.1
  have hrp := rm_pos (by1 A) n k
  obtain ⟨S1, p1, Y1, _, _⟩ := pass_O (d := d + 3) hX.1 (yOK_nil h) hk (by omega)
  have G1 : yG A n S0 z0 fb a0 s ab (k + 1) sc at' (a + 2) c f S1 := Y1.1
  by_cases k3' : qK (by1 A) n (k + 1) ≠ 3
  · obtain ⟨S2, q1, q2, q3, q4⟩ := pass_F (d := d + 8) hX.1 hX.2 G1.1 k3' (by omega)
    have b2 := yG_bad (lo := a + 2 + 2) hX.1.1 G1 q2 q3 q4 (by omega)
    have n2 : Ans (d + 11) 92 [.ref 43] S1 (some (.int (sI S1 3109))) S2 := Ans.of (by rw [ml_92]; exact Nat.le_of_ble_eq_true rfl) (Bod.lv (by rfl) (cTkr_1 (d := d + 2) q1))
    obtain ⟨S3, t0, r1, r2, r3, r4, r5⟩ := yB_put2 (d := d + 9) (x0 := nI 4) (x1 := nI 0) b2 (by omega)
    obtain ⟨nu, cur, t, c', f', S4, T, u1, u2, u3, u4, u5, u6, u7⟩ := fnB_E (d := d + 10) (b := sI S1 3109) r3 (by omega) (by omega) (by omega)
    obtain ⟨S6, v1, v2⟩ := prs_B (d := d + 1) u6 u3 u4
    obtain ⟨tr, S7, S8, a3, S9, w1, w2, w3, w4, w5, w6, w7⟩ := fnTl_B (d := d) (ind := ind) (dp := dp + 1) v2 (by omega) (by omega) hindM (by omega)
    have x1 := u7 _ _ _ _ _ _ _ w7
    obtain ⟨top, a5, S12, y1, y2, y3, y4, y5, y6⟩ := fnE_B (d := d) (nu := nu) x1 (by omega) r5
    have ep : psDef (qK (by1 A) n) (qL (by1 A) n) (Eb (by1 A) n) (psA A n F) dp ind s ca ra sc at' k = .inl (qL (by1 A) n k) := by
      unfold psDef
      exact if_neg (fun hc => k3' hc.1)
    refine ⟨S12, _, Ans.of (by rw [ml_97]; exact Nat.le_of_ble_eq_true rfl) (Bod.lv (by rfl) (cFnr_1 (d := d + 3) (by omega) h3108 hindM p1 n2 r2 r1 (by omega) u1 (by omega) u2 v1 w1 w2 w3 w4 w5 w6 (leave_ev (d := d + 10)) y1 y2 y3 y4 y5)), fun y hy => (by rw [ep] at hy; cases hy), fun l hl => ?_⟩
    rw [ep] at hl
    injection hl with hl
    subst hl
    rw [← g3]
    exact yB_le (yOK_bad (H := []) Y1 y6 (Nat.le_refl _) (fun p hp => by cases hp)) (by omega) (by omega) (by omega) (by omega) (by omega) (by omega)
  have k3 : qK (by1 A) n (k + 1) = 3 := by omega
  have gd := rm_def (β := by1 A) (n := n) (k := k) hk k3
  obtain ⟨g5, g6, g7, g8⟩ := rm_gt' (β := by1 A) (n := n) (k := k + 1) (k' := k + 2) rfl (by omega)
  obtain ⟨S2, q, n2, qM, Y2, hnm, hnK2⟩ := name_O (d := d + 2) hX.1 Y1 k3
  have G2 : yG A n S0 z0 fb a0 s ab (k + 2) sc at' (a + 2) c f S2 := Y2.1
  obtain ⟨S3, r1, F3, G3, r2, r3, b3, told3⟩ := yE_J (d := d + 9) (t := 4) (u := 4) (w := nI 0) G2 (by omega) rfl (by omega)
  have hnK3 : nK S2 S3 := cP_nK G2.1 (F3.1 _ (by decide)) (fun x _ => F3.2.2.2.1 x (fun h => by cases h))
  obtain ⟨S4, T, u1, u2, hTF, hTb, hnKT, GT⟩ := fn_T (d := d + 10) (cb := ca + 2) (rb := ra + 2) G3 (nmR_K hnK3 hnm) (by omega) (by omega) (by omega)
  have hln : (sc.1 ++ [(s, ca + 2, ra + 2, k + 1)]).length = sc.1.length + 1 := by rw [List.length_append]; rfl
  have e11 : sI S3 3211 = nI s := G3.2.1.2.2.2.1
  have t11 : sI T 3211 = nI sc.1.length := GT.2.1.2.2.2.1
  obtain ⟨S6, v1, v2, v3⟩ := prs_T (d := d) hX (by omega) (by omega) (by omega) (by omega) GT (by dsimp only; omega) (by dsimp only; rw [hln]; omega) (by dsimp only; rw [hln]; omega)
  -- from the function's text back to where it stands; its jump still waits
  have hout : ∀ {l qa qc qf qe : Nat} {S9 : cS}, yB A n S0 z0 fb l (a + 2 + 2) c f ab (a + 2 + 2 + 2) [] qa qc qf qe 280 893 T S9 → yB A n S0 z0 fb l (a + 2) c f ab (a + 2 + 2) [a + 2] qa qc qf qe 280 893 S2 (wI 3211 (nI s) S9) := fun {l qa qc qf qe S9} g => yB_J (H := [a + 2]) (yOK_nil G2) F3 b3 (fnB_L (s1 := s) g hTF hTb e11 hnKT t11 hsl (by omega)) (show a + 2 + 0 + 4 ≤ _ by omega) (fun p hp => by
    rw [List.mem_singleton.mp hp]
    exact Or.inl ⟨Nat.le_refl _, fun hc => by cases hc⟩)
  by_cases hps : qK (by1 A) n (k + 2) ≠ 6 ∨ psPs (qK (by1 A) n) (Eb (by1 A) n) sc.1.length (sc.1 ++ [(s, ca + 2, ra + 2, k + 1)], sc.2) (k + 3) = none
  · have b6 := v3 hps
    obtain ⟨tr, S7, S8, a3, S9, w1, w2, w3, w4, w5, w6, w7⟩ := fnTl_B (d := d) (ind := ind) (dp := dp + 1) b6 (by omega) (by omega) hindM (by omega)
    obtain ⟨top, a5, S12, y1, y2, y3, y4, y5, y6⟩ := fnE_B (d := d) (nu := fb + sc.1.length - 1) (hout w7) (by omega) (Nat.le_refl _)
    have ep : psDef (qK (by1 A) n) (qL (by1 A) n) (Eb (by1 A) n) (psA A n F) dp ind s ca ra sc at' k = .inl (qL (by1 A) n k) := by
      unfold psDef
      rcases hps with hp | hp
      · exact if_neg (fun hc => hp hc.2)
      · split
        · rw [hp]
        · rfl
    refine ⟨S12, nI q, Ans.of (by rw [ml_97]; exact Nat.le_of_ble_eq_true rfl) (Bod.lv (by rfl) (cFnr_1 (d := d + 3) (by omega) h3108 hindM p1 n2 (by omega) r1 (by omega) u1 (by omega) u2 v1 w1 w2 w3 w4 w5 w6 (leave_ev (d := d + 10)) y1 y2 y3 y4 y5)), fun y hy => (by rw [ep] at hy; cases hy), fun l hl => ?_⟩
    rw [ep] at hl
    injection hl with hl
    subst hl
    rw [← g3, ← g7]
    exact yB_le (yOK_bad (H := []) Y2 y6 (Nat.le_refl _) (fun p hp => by cases hp)) (by omega) (by omega) (by omega) (by omega) (by omega) (by omega)
  have k6 : qK (by1 A) n (k + 2) = 6 := by
    by_cases h6 : qK (by1 A) n (k + 2) = 6
    · exact h6
    · exact absurd (Or.inl h6) hps
  obtain ⟨g9, g10, g11, g12⟩ := rm_gt' (β := by1 A) (n := n) (k := k + 2) (k' := k + 3) rfl (by omega)
  cases hpx : psPs (qK (by1 A) n) (Eb (by1 A) n) sc.1.length (sc.1 ++ [(s, ca + 2, ra + 2, k + 1)], sc.2) (k + 3) with
  | none => exact absurd (Or.inr hpx) hps
  | some x =>
    obtain ⟨i1, i2, i3, i4, i5, i6, i7, i8⟩ := psPs_G hpx
    have Y6 := v2 x k6 hpx
    have G6 : yG A n S0 z0 fb a0 sc.1.length ab x.1 x.2.1 at' (a + 2 + 2) c f S6 := Y6.1
    have i5l : x.2.1.1.length = sc.1.length + 1 := by rw [i5]; exact hln
    obtain ⟨tr, lt, t1, t2, t3, t4⟩ := G6.2.2.2.2.2.2.2.2.2.2.2.2.1
    have hT6 : FrT [4308, 4309, 4311] [] [] [] S6 (wI 4308 (nI 0) (wI 4309 (Int32.ofInt (-1)) S6)) := FrT_wI (by decide) (FrT_wI (by decide) (FrT.refl _ _ _ _ _))
    have G6T : yG A n S0 z0 fb a0 sc.1.length ab x.1 x.2.1 at' (a + 2 + 2) c f (wI 4308 (nI 0) (wI 4309 (Int32.ofInt (-1)) S6)) := yG_I G6 (hT6.mono (by decide) (fun _ h => h) (fun _ h => h) (fun _ h => h)) ⟨0, lt, rIe _ _ _, ((rIn _ _ (by decide)).trans (rIn _ _ (by decide))).trans t2, by omega, t4⟩
    have L6T : yLp a0 none 0 (wI 4308 (nI 0) (wI 4309 (Int32.ofInt (-1)) S6)) := ⟨rIe _ _ _, by omega, fun _ => (rIn _ _ (by decide)).trans (rIe _ _ _), fun x hx => by cases hx⟩
    have hrx := rm_pos (by1 A) n x.1
    dsimp only at i6 i7
    have hx7 : rm (by1 A) n x.1 + 7 ≤ rm (by1 A) n k := by omega
    have hblk : ∃ S7, Ans (d + 11) 84 [.ref 43, .int (nI ind), .int (nI (dp + 1))] (wI 4308 (nI 0) (wI 4309 (Int32.ofInt (-1)) S6)) none S7 ∧ yRes A n S0 z0 fb a0 sc.1.length ab (wI 4308 (nI 0) (wI 4309 (Int32.ofInt (-1)) S6)) (a + 2 + 2) c f (qA (dp + 1)) (qC (dp + 1)) (qF (dp + 1)) (qF (dp + 1)) (psA A n F 2 (dp + 1) ind sc.1.length none 0 (ca + 2) (ra + 2) x.2.1 at' x.1) S7 := by
      by_cases k13 : qK (by1 A) n x.1 = 13
      · obtain ⟨j1, _, _, _⟩ := rm_gt (β := by1 A) (n := n) (k := x.1) (by omega)
        have j2 := rm_pos (by1 A) n (x.1 + 1)
        exact h84 (d + 11) (dp + 1) ind sc.1.length ab 0 (ca + 2) (ra + 2) x.1 (a + 2 + 2) c f none x.2.1 at' _ (by omega) hindM (by omega) (by omega) ⟨G6T, ⟨by omega, by omega, by omega, by omega, by omega, by omega⟩, L6T, by omega, by omega, by omega⟩
      · exact blk_N (d := d + 1) hX G6T k13 hindM (by omega) (by omega) (by omega) (by omega) (by omega) (by omega) (by omega)
    obtain ⟨S7, o1, o2⟩ := hblk
    cases hb : psA A n F 2 (dp + 1) ind sc.1.length none 0 (ca + 2) (ra + 2) x.2.1 at' x.1 with
    | inl l =>
      have b7 := o2.2 l hb
      -- the block had the fault: the function's end
      obtain ⟨S8, q1', q2'⟩ := yB_const (d := d + 8) (hi := 1152921504606846976) (lo' := 0) b7 (by omega) (by omega)
      obtain ⟨S9, a3, r1', r2', r3'⟩ := yB_put1 (d := d + 9) (x0 := nI 8) q2' (by omega)
      have e3 := yB_eq3 r3'
      have b9 := yB_ints r3' hT6.symm (S1 := wI 4308 (nI tr) (wI 4309 (sI S6 4309) S9)) (FrT_wI (by decide) (FrT_wI (by decide) (FrT.refl _ _ _ _ _))) (fun i hi => by
        have h0 := e3 i hi
        simp only [List.mem_cons, List.not_mem_nil, or_false] at hi
        rcases hi with rfl | rfl | rfl
        · exact (rIe _ _ _).trans t1.symm
        · exact (rIn _ _ (by decide)).trans (rIe _ _ _)
        · exact ((rIn _ _ (by decide)).trans (rIn _ _ (by decide))).trans (h0.trans ((rIn _ _ (by decide)).trans (rIn _ _ (by decide))))) ⟨tr, lt, rIe _ _ _, ((rIn _ _ (by decide)).trans (rIn _ _ (by decide))).trans ((e3 4311 (by decide)).trans (((rIn _ _ (by decide)).trans (rIn _ _ (by decide))).trans t2)), t3, t4⟩
      have b10 := hout (yOK_bad (H := []) Y6 b9 (Nat.le_refl _) (fun p hp => by cases hp))
      obtain ⟨top, a5, S12, y1, y2, y3, y4, y5, y6⟩ := fnE_B (d := d) (nu := fb + sc.1.length - 1) b10 (by omega) (Nat.le_refl _)
      have ep : psDef (qK (by1 A) n) (qL (by1 A) n) (Eb (by1 A) n) (psA A n F) dp ind s ca ra sc at' k = .inl l := by
        unfold psDef
        rw [if_pos ⟨k3, k6⟩, hpx]
        show sb (psA A n F 2 (dp + 1) ind sc.1.length none 0 (ca + 2) (ra + 2) x.2.1 at' x.1) _ = _
        rw [hb]
        rfl
      refine ⟨S12, nI q, Ans.of (by rw [ml_97]; exact Nat.le_of_ble_eq_true rfl) (Bod.lv (by rfl) (cFnr_1 (d := d + 3) (by omega) h3108 hindM p1 n2 (by omega) r1 (by omega) u1 (by omega) u2 v1 t1 (by omega) o1 q1' r2' r1' (leave_ev (d := d + 10)) y1 y2 y3 y4 y5)), fun y hy => (by rw [ep] at hy; cases hy), fun l' hl => ?_⟩
      rw [ep] at hl
      injection hl with hl
      subst hl
      exact yB_le (yOK_bad (H := []) Y2 y6 (Nat.le_refl _) (fun p hp => by cases hp)) (by omega) (by omega) (by omega) (by omega) (by omega) (by omega)
    | inr b =>
      obtain ⟨kb, ob, scb, atb⟩ := b
      have hat := ps_at F 2 (by omega) _ _ _ _ _ _ _ _ _ _ _ hb
      dsimp only at hat
      subst hat
      have Y7 := o2.1 _ hb
      have G7 : yG A n S0 z0 fb a0 sc.1.length ab kb scb atb (a + 2 + 2 + wC ob) (c + cnN ob) (f + fxM ob) S7 := Y7.1
      obtain ⟨hw1, hw2, hw3, hw4⟩ := (ps_H (by1 A) n (Eb (by1 A) n) F).2.2.1 2 (dp + 1) ind sc.1.length none 0 _ _ _ _ _ _ (Or.inl rfl) hb
      obtain ⟨m1, m2, m3, m4, m5, m6, m7, m8⟩ := hw4
      dsimp only at hw2 hw3 m1 m2 m3 m4 m5 m6 m7 m8
      obtain ⟨S8, q1', Y8⟩ := yE_Z (d := d + 8) G7 (by omega) (by omega)
      have G8 : yG A n S0 z0 fb a0 sc.1.length ab kb scb atb (a + 2 + 2 + wC ob + 2) (c + cnN ob + 1) (f + fxM ob) S8 := Y8.1
      obtain ⟨S9, r1', Y9, _⟩ := yE_1 (d := d + 9) (t := 8) (p := []) G8 (by omega) (by omega)
      have Y79 := yOK_app Y7 (yOK_app Y8 Y9)
      have e3 : ∀ i, i ∈ [4308, 4309, 4311] → sI S9 i = sI (wI 4308 (nI 0) (wI 4309 (Int32.ofInt (-1)) S6)) i := fun i hi => Y79.2.2.2.1.1.1 i (by
        have : ∀ i, i ∈ [4308, 4309, 4311] → i ∉ yI := by decide
        exact this i hi)
      have b9 := yOK_ints Y79 hT6.symm (S1 := wI 4308 (nI tr) (wI 4309 (sI S6 4309) S9)) (FrT_wI (by decide) (FrT_wI (by decide) (FrT.refl _ _ _ _ _))) (fun i hi => by
        have h0 := e3 i hi
        simp only [List.mem_cons, List.not_mem_nil, or_false] at hi
        rcases hi with rfl | rfl | rfl
        · exact (rIe _ _ _).trans t1.symm
        · exact (rIn _ _ (by decide)).trans (rIe _ _ _)
        · exact ((rIn _ _ (by decide)).trans (rIn _ _ (by decide))).trans (h0.trans ((rIn _ _ (by decide)).trans (rIn _ _ (by decide))))) ⟨tr, lt, rIe _ _ _, ((rIn _ _ (by decide)).trans (rIn _ _ (by decide))).trans ((e3 4311 (by decide)).trans (((rIn _ _ (by decide)).trans (rIn _ _ (by decide))).trans t2)), t3, t4⟩
      have Y10 := fn_L (s := s) (yOK_app Y6 b9) hTF hTb e11 hnKT (by omega) (by dsimp only; omega)
      have G10 := Y10.1
      dsimp only at G10
      have ew : wC ([] ++ (ob ++ ([(63, [], (0 : Int), (0 : Int))] ++ [(8, [], (0 : Int), (0 : Int))]))) = wC ob + 3 := by
        rw [List.nil_append, wC_app]
        rfl
      have e10 : sI (wI 3211 (nI s) (wI 4308 (nI tr) (wI 4309 (sI S6 4309) S9))) 2307 = nI (a + 2 + 2 + wC ob + 3) := by
        have := G10.2.1.1
        rw [ew] at this
        exact this
      have hpt := patch_T (d := d + 10) (q := a + 2 + 1) (x := nI (a + 2 + 2 + wC ob + 3)) e10 (by omega) (by omega)
      have Y11 := yOK_app (told3 (a + 2 + 2 + wC ob + 3) ((5 + wC ob : Nat) : Int) ((3 + wR (qK (by1 A) n) ob : Nat) : Int) (by omega)) (yOK_hole (p := a + 2 + 1) (v := nI (a + 2 + 2 + wC ob + 3)) Y10 (show a + 2 + 1 < a + 2 + 2 by omega))
      have G11 := Y11.1
      dsimp only at G11
      have e11w : a + 2 + wC ([(4, [], ((5 + wC ob : Nat) : Int), ((3 + wR (qK (by1 A) n) ob : Nat) : Int))] ++ ([] ++ (ob ++ ([(63, [], (0 : Int), (0 : Int))] ++ [(8, [], (0 : Int), (0 : Int))])))) = a + 2 + 2 + wC ob + 3 := by
        rw [wC_app, ew]
        show a + 2 + (2 + 0 + (wC ob + 3)) = _
        omega
      obtain ⟨S12, x1, Y12⟩ := yE_F (d := d + 9) (m := sc.1.length - 1) G11 (by rw [e11w]; omega)
      rw [e11w] at x1
      have enu : fb + (sc.1.length - 1) = fb + sc.1.length - 1 := by omega
      rw [enu] at x1
      have Yf := yOK_app Y2 (yOK_app Y11 Y12)
      have hnKf : nK S2 S12 := nK_trans Y11.2.2.2.1.2.2 Y12.2.2.2.1.2.2
      refine ⟨S12, nI q, Ans.of (by rw [ml_97]; exact Nat.le_of_ble_eq_true rfl) (Bod.lv (by rfl) (cFnr_1 (d := d + 3) (by omega) h3108 hindM p1 n2 (by omega) r1 (by omega) u1 (by omega) u2 v1 t1 (by omega) o1 q1' (by omega) r1' (leave_ev (d := d + 10)) e10 (by omega) hpt (by omega) x1)), fun y hy => ?_, fun l hl => ?_⟩
      · have ep : psDef (qK (by1 A) n) (qL (by1 A) n) (Eb (by1 A) n) (psA A n F) dp ind s ca ra sc atb k = .inr (kb, (4, [], ((5 + wC ob : Nat) : Int), ((3 + wR (qK (by1 A) n) ob : Nat) : Int)) :: (ob ++ [(63, [], 0, 0), (8, [], 0, 0), (22, [sc.1.length - 1], 0, 0)]), scb, atb) := by
          unfold psDef
          rw [if_pos ⟨k3, k6⟩, hpx]
          show sb (psA A n F 2 (dp + 1) ind sc.1.length none 0 (ca + 2) (ra + 2) x.2.1 atb x.1) _ = _
          rw [hb]
          rfl
        rw [ep] at hy
        injection hy with hy
        subst hy
        refine ⟨?_, q, rfl, qM, nmR_K hnKf hnm⟩
        dsimp only at Yf
        simp only [List.append_assoc, List.cons_append, List.nil_append] at Yf
        exact Yf
      · have ep : psDef (qK (by1 A) n) (qL (by1 A) n) (Eb (by1 A) n) (psA A n F) dp ind s ca ra sc atb k = .inr (kb, (4, [], ((5 + wC ob : Nat) : Int), ((3 + wR (qK (by1 A) n) ob : Nat) : Int)) :: (ob ++ [(63, [], 0, 0), (8, [], 0, 0), (22, [sc.1.length - 1], 0, 0)]), scb, atb) := by
          unfold psDef
          rw [if_pos ⟨k3, k6⟩, hpx]
          show sb (psA A n F 2 (dp + 1) ind sc.1.length none 0 (ca + 2) (ra + 2) x.2.1 atb x.1) _ = _
          rw [hb]
          rfl
        rw [ep] at hl
        cases hl
end
