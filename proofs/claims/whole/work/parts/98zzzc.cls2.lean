/-! CLASS in the class: the whole statement -/
section
variable {A : Nat → Int32} {n z0 fb a0 F s ab d : Nat} {S0 : cS}
/-- opens, and the block if it does -/
def opB (d ind dp fi : Nat) (S S1 : cS) : Prop := Ans d 85 [.ref 43, .int (nI ind), .int (nI dp)] S (some (.int (nI 0))) S1 ∨ ∃ S' i1, Ans d 85 [.ref 43, .int (nI ind), .int (nI dp)] S (some (.int (nI 1))) S' ∧ sI S' 3108 = nI i1 ∧ i1 < 2 ^ 20 ∧ Ans d 106 [.ref 43, .int (nI i1), .int (nI dp), .int (nI fi)] S' none S1
/-- class without a base -/
theorem cl_go0 {S S1 S2 S7 S8 S9 S10 Sf : cS} {dp ind ln tk av a2 t av1 t2 : Nat} {nm : Int32} (hdp : dp < 2 ^ 20) (h8 : sI S 3108 = nI ind) (hind : ind < 2 ^ 20) (h6 : sI S 3106 = nI ln) (hln : ln < 2 ^ 20) (c1 : Ans (d + 11) 75 [.ref 31, .int (nI 47)] S none S1) (c2 : Ans (d + 11) 92 [.ref 43] S1 (some (.int nm)) S2) (htk : sI S2 3105 = nI tk) (htk2 : tk < 2 ^ 20) (htk6 : tk ≠ 6) (hav : sI S2 4305 = nI av) (hav2 : av < 2 ^ 20) (ho : opB (d + 11) ind (dp + 1) av S2 S7) (ha2 : a2 < 2 ^ 20) (c4 : Ans (d + 11) 54 [.ref 23, .int (nI 3), .int (nI ln)] S7 (some (.int (nI a2))) S8) (ht : t < 2 ^ 20) (c5 : Ans (d + 11) 68 [.ref 23, .int (nI 23), .int nm, .int (nI 0)] S8 (some (.int (nI t))) S9) (hav1 : sI S9 4305 = nI av1) (hav12 : av1 < 2 ^ 20) (hle : av ≤ av1) (ht2 : t2 < 2 ^ 20) (c6 : Ans (d + 11) 71 [.ref 23, .int (nI (av1 - av))] S9 (some (.int (nI t2))) S10) (hB : ∀ lv1 : sm_L, sm_get lv1 0 = some (.ref 43) → sm_get lv1 7 = some (.int (nI av)) → sm_get lv1 8 = some (.int (nI av)) → sm_get lv1 4 = some (.int nm) → Bod (d + 11) 105 184 lv1 [] S10 none Sf) : Ans (d + 12) 105 [.ref 43, .int (nI dp)] S none Sf := by
  rcases ho with o | ⟨S', i1, o1, o2, o3, o4⟩
  · exact Ans.of (by rw [ml_105]; exact Nat.le_of_ble_eq_true rfl) (Bod.lv (by rfl) (cClr0_2 (d := d + 3) hdp h8 hind h6 hln c1 c2 htk htk2 htk6 hav hav2 o ha2 c4 ht c5 hav1 hav12 hle ht2 c6 hB))
  · exact Ans.of (by rw [ml_105]; exact Nat.le_of_ble_eq_true rfl) (Bod.lv (by rfl) (cClr0_1 (d := d + 3) hdp h8 hind h6 hln c1 c2 htk htk2 htk6 hav hav2 o1 o2 o3 o4 ha2 c4 ht c5 hav1 hav12 hle ht2 c6 hB))
/-- class with a base -/
theorem cl_go1 {S S1 S2 S3 S4 S5 S7 S8 S8' S9 S10 Sf : cS} {dp ind ln tk av a2 a3 t av1 t2 : Nat} {nm bs : Int32} (hdp : dp < 2 ^ 20) (h8 : sI S 3108 = nI ind) (hind : ind < 2 ^ 20) (h6 : sI S 3106 = nI ln) (hln : ln < 2 ^ 20) (c1 : Ans (d + 11) 75 [.ref 31, .int (nI 47)] S none S1) (c2 : Ans (d + 11) 92 [.ref 43] S1 (some (.int nm)) S2) (htk : sI S2 3105 = nI tk) (htk2 : tk < 2 ^ 20) (htk6 : tk = 6) (b1 : Ans (d + 11) 75 [.ref 31, .int (nI 6)] S2 none S3) (b2 : Ans (d + 11) 92 [.ref 43] S3 (some (.int bs)) S4) (b3 : Ans (d + 11) 75 [.ref 31, .int (nI 7)] S4 none S5) (hav : sI S5 4305 = nI av) (hav2 : av < 2 ^ 20) (ho : opB (d + 11) ind (dp + 1) av S5 S7) (ha2 : a2 < 2 ^ 20) (c4 : Ans (d + 11) 54 [.ref 23, .int (nI 3), .int (nI ln)] S7 (some (.int (nI a2))) S8) (ha3 : a3 < 2 ^ 20) (c4' : Ans (d + 11) 67 [.ref 32, .int (nI 18), .int bs] S8 (some (.int (nI a3))) S8') (ht : t < 2 ^ 20) (c5 : Ans (d + 11) 68 [.ref 23, .int (nI 23), .int nm, .int (nI 1)] S8' (some (.int (nI t))) S9) (hav1 : sI S9 4305 = nI av1) (hav12 : av1 < 2 ^ 20) (hle : av ≤ av1) (ht2 : t2 < 2 ^ 20) (c6 : Ans (d + 11) 71 [.ref 23, .int (nI (av1 - av))] S9 (some (.int (nI t2))) S10) (hB : ∀ lv1 : sm_L, sm_get lv1 0 = some (.ref 43) → sm_get lv1 7 = some (.int (nI av)) → sm_get lv1 8 = some (.int (nI av)) → sm_get lv1 4 = some (.int nm) → Bod (d + 11) 105 184 lv1 [] S10 none Sf) : Ans (d + 12) 105 [.ref 43, .int (nI dp)] S none Sf := by
  rcases ho with o | ⟨S', i1, o1, o2, o3, o4⟩
  · exact Ans.of (by rw [ml_105]; exact Nat.le_of_ble_eq_true rfl) (Bod.lv (by rfl) (cClr0_4 (d := d + 3) hdp h8 hind h6 hln c1 c2 htk htk2 htk6 b1 b2 b3 hav hav2 o ha2 c4 ha3 c4' ht c5 hav1 hav12 hle ht2 c6 hB))
  · exact Ans.of (by rw [ml_105]; exact Nat.le_of_ble_eq_true rfl) (Bod.lv (by rfl) (cClr0_3 (d := d + 3) hdp h8 hind h6 hln c1 c2 htk htk2 htk6 b1 b2 b3 hav hav2 o1 o2 o3 o4 ha2 c4 ha3 c4' ht c5 hav1 hav12 hle ht2 c6 hB))
end
section
variable {A : Nat → Int32} {n z0 fb l a c f ab lo : Nat} {S0 B : cS} {H : List Nat} {qa qc qf qe qs qn d : Nat}
/-- class without a base, behind a fault in its block or head -/
theorem clB_0 {S S1 S2 S7 : cS} {dp ind ln tk ab1 : Nat} {nm : Int32} (h : yB A n S0 z0 fb l a c f ab1 lo H qa qc qf qe qs qn B S7) (hab : ab ≤ ab1) (hab4 : ab1 ≤ ab + 40) (hab44 : ab1 ≤ 440) (hq : qa + 49 ≤ 40960) (hqf : qf + 1 ≤ 1600) (hqe : qe + 1 ≤ 1600) (hdp : dp < 2 ^ 20) (h8 : sI S 3108 = nI ind) (hind : ind < 2 ^ 20) (h6 : sI S 3106 = nI ln) (hln : ln < 2 ^ 20) (c1 : Ans (d + 11) 75 [.ref 31, .int (nI 47)] S none S1) (c2 : Ans (d + 11) 92 [.ref 43] S1 (some (.int nm)) S2) (htk : sI S2 3105 = nI tk) (htk2 : tk < 2 ^ 20) (htk6 : tk ≠ 6) (hav : sI S2 4305 = nI ab1) (ho : opB (d + 11) ind (dp + 1) ab1 S2 S7) : ∃ Sf, Ans (d + 12) 105 [.ref 43, .int (nI dp)] S none Sf ∧ yB A n S0 z0 fb l a c f ab lo H (qa + 49) qc (qf + 1) (qe + 1) qs qn B Sf := by
  obtain ⟨S8, a2, p1, p2, p3, _⟩ := yB_put2 (d := d + 9) (x0 := nI 3) (x1 := nI ln) h (by omega)
  obtain ⟨t, S9, av1, t2, S10, S11, q1, q2, q3, q4, q5, q6, q7, q8, q9⟩ := clTl_B (d := d) (nm := nm) (x1 := nI 0) (yB_H p3 (fun x hx => List.mem_cons_of_mem _ hx)) (by omega)
  obtain ⟨Sf, r1, r2⟩ := yB_bindTo (d := d) (q := nm) (yB_ab q9 hab hab4 (rIe _ _ _) hab44) (by omega) hqf hqe
  exact ⟨Sf, cl_go0 hdp h8 hind h6 hln c1 c2 htk htk2 htk6 hav (by omega) ho p2 p1 q2 q1 q3 q4 q5 q7 q6 (q8 Sf r1), r2⟩
/-- class with a base, behind a fault in its block or head -/
theorem clB_1 {S S1 S2 S3 S4 S5 S7 : cS} {dp ind ln tk ab1 : Nat} {nm bs : Int32} (h : yB A n S0 z0 fb l a c f ab1 lo H qa qc qf qe qs qn B S7) (hab : ab ≤ ab1) (hab4 : ab1 ≤ ab + 40) (hab44 : ab1 ≤ 440) (hq : qa + 52 ≤ 40960) (hqf : qf + 2 ≤ 1600) (hqe : qe + 1 ≤ 1600) (hdp : dp < 2 ^ 20) (h8 : sI S 3108 = nI ind) (hind : ind < 2 ^ 20) (h6 : sI S 3106 = nI ln) (hln : ln < 2 ^ 20) (c1 : Ans (d + 11) 75 [.ref 31, .int (nI 47)] S none S1) (c2 : Ans (d + 11) 92 [.ref 43] S1 (some (.int nm)) S2) (htk : sI S2 3105 = nI tk) (htk2 : tk < 2 ^ 20) (htk6 : tk = 6) (b1 : Ans (d + 11) 75 [.ref 31, .int (nI 6)] S2 none S3) (b2 : Ans (d + 11) 92 [.ref 43] S3 (some (.int bs)) S4) (b3 : Ans (d + 11) 75 [.ref 31, .int (nI 7)] S4 none S5) (hav : sI S5 4305 = nI ab1) (ho : opB (d + 11) ind (dp + 1) ab1 S5 S7) : ∃ Sf, Ans (d + 12) 105 [.ref 43, .int (nI dp)] S none Sf ∧ yB A n S0 z0 fb l a c f ab lo H (qa + 52) qc (qf + 2) (qe + 1) qs qn B Sf := by
  obtain ⟨S8, a2, p1, p2, p3, _⟩ := yB_put2 (d := d + 9) (x0 := nI 3) (x1 := nI ln) h (by omega)
  obtain ⟨S8', a3, o1, o2, o3⟩ := yB_scPut (d := d + 8) (x0 := nI 18) (x1 := bs) (yB_H p3 (fun x hx => List.mem_cons_of_mem _ hx)) (by omega) (by omega)
  obtain ⟨t, S9, av1, t2, S10, S11, q1, q2, q3, q4, q5, q6, q7, q8, q9⟩ := clTl_B (d := d) (nm := nm) (x1 := nI 1) o3 (by omega)
  obtain ⟨Sf, r1, r2⟩ := yB_bindTo (d := d) (q := nm) (yB_ab q9 hab hab4 (rIe _ _ _) hab44) (by omega) hqf hqe
  exact ⟨Sf, cl_go1 hdp h8 hind h6 hln c1 c2 htk htk2 htk6 b1 b2 b3 hav (by omega) ho p2 p1 o2 o1 q2 q1 q3 q4 q5 q7 q6 (q8 Sf r1), r2⟩
end
section
variable {A : Nat → Int32} {n z0 fb a0 F s ab d : Nat} {S0 : cS}
theorem yG_4305 {a c f k : Nat} {sc : SCs} {S : cS} (h : yG A n S0 z0 fb a0 s ab k sc [] a c f S) : sI S 4305 = nI ab := h.2.2.2.2.2.2.2.2.2.1.1
set_option maxHeartbeats 8000000 in
theorem cls_T (hX : yPre A n S0 z0) (h6 : PB6 A n S0 z0 fb a0 F) {dp ind ca ra k a c f : Nat} {sc : SCs} {at' : List Nat} {S : cS} (h : yG A n S0 z0 fb a0 s ab k sc at' (a + 2) c f S) (hz : yZ (rm (by1 A) n k) dp a c f sc.2.length sc.1.length (fb + sc.1.length - 1)) (hca : a + 2 = a0 + ca) (hab : ab ≤ 40 * dp) (hk : qK (by1 A) n k = 47) (hie : qI (by1 A) n k = ind) (hdp : dp ≤ 11) (hF : 4 * rm (by1 A) n k + 1 ≤ F) (hd : lvD dp ≤ d + 15) : ∃ Sf, Ans (d + 12) 105 [.ref 43, .int (nI dp)] S none Sf ∧ yRes A n S0 z0 fb a0 s ab S (a + 2) c f (qA dp) (qC dp) (qF dp) (qF dp) (psCl (qK (by1 A) n) (qL (by1 A) n) (Eb (by1 A) n) (psA A n F) dp ind s ca ra sc at' k) Sf := by
  have hn := hX.1.1
  obtain ⟨c1, c2, c3, c4, c5, c6⟩ := yZ_c hz (by omega)
  obtain ⟨z1, z2, z3, z4, z5, z6⟩ := id hz
  have hlv : lvD dp = 270 + 8 * (12 - dp) := rfl
  have hlv1 : lvD (dp + 1) = 270 + 8 * (12 - (dp + 1)) := rfl
  have hqA : qA dp = 39700 + 60 * (12 - dp) := rfl
  have hqC : qC dp = 5160 + 2 * (12 - dp) := rfl
  have hqF : qF dp = 1515 + 4 * (12 - dp) := rfl
  have hqA1 : qA (dp + 1) = 39700 + 60 * (12 - (dp + 1)) := rfl
  have hqC1 : qC (dp + 1) = 5160 + 2 * (12 - (dp + 1)) := rfl
  have hqF1 : qF (dp + 1) = 1515 + 4 * (12 - (dp + 1)) := rfl
  obtain ⟨g1, g2, g3, g4⟩ := rm_gt (β := by1 A) (n := n) (k := k) (by omega)
  have gw := rm_w2 (β := by1 A) (n := n) (k := k) (by omega)
  have hqk := q_lt (by1 A) n k
  have hiM := ind_lt (A := A) (k := k) hX.1.1
  have hindM : ind < 2 ^ 20 := by omega
  have hdpM : dp < 2 ^ 20 := by omega
  have h3108 : sI S 3108 = nI ind := ((cP_8 h.1).2 (by omega)).trans (congrArg nI hie)
  have h3106 := cP_6 h.1
  have hlnM : qL (by1 A) n k < 2 ^ 20 := by omega
  have hat2 := h.2.2.2.2.2.2.2.2.2.1.2.1
  have G0 := yG_ab h
  have hb1 : ab ≤ ab + min at'.length 40 := by omega
  have hb2 : ab + min at'.length 40 ≤ ab + 40 := by omega
  have hb3 : ab + min at'.length 40 ≤ 40 * (dp + 1) := by omega
  obtain ⟨S1, p1, Y1, _, _⟩ := pass_O (d := d + 3) hX.1 (yOK_nil G0) hk (by omega)
  have G1 : yG A n S0 z0 fb a0 s (ab + min at'.length 40) (k + 1) sc [] (a + 2) c f S1 := Y1.1
  have hbad : ∀ {l qa qc qf qe : Nat} {Sf : cS}, qa ≤ qA dp → qc ≤ qC dp → qf ≤ qF dp → qe ≤ qF dp → yB A n S0 z0 fb l (a + 2) c f ab (a + 2 + 2) [] qa qc qf qe 280 893 S Sf → psCl (qK (by1 A) n) (qL (by1 A) n) (Eb (by1 A) n) (psA A n F) dp ind s ca ra sc at' k = .inl l → yRes A n S0 z0 fb a0 s ab S (a + 2) c f (qA dp) (qC dp) (qF dp) (qF dp) (psCl (qK (by1 A) n) (qL (by1 A) n) (Eb (by1 A) n) (psA A n F) dp ind s ca ra sc at' k) Sf := fun {l qa qc qf qe Sf} i1 i2 i3 i4 g e => yRes_l e (yB_le g i1 i2 i3 i4 (Nat.le_refl _) (Nat.le_refl _))
  by_cases k3' : qK (by1 A) n (k + 1) ≠ 3
  · obtain ⟨S2, q1, q2, q3, q4⟩ := pass_F (d := d + 8) hX.1 hX.2 G1.1 k3' (by omega)
    have b2 := yOK_bad (H := []) Y1 (yG_bad (lo := a + 2 + 2) hn G1 q2 q3 q4 (by omega)) (Nat.le_refl _) (fun p hp => by cases hp)
    have n2 : Ans (d + 11) 92 [.ref 43] S1 (some (.int (sI S1 3109))) S2 := Ans.of (by rw [ml_92]; exact Nat.le_of_ble_eq_true rfl) (Bod.lv (by rfl) (cTkr_1 (d := d + 2) q1))
    have av2 : sI S2 4305 = nI (ab + min at'.length 40) := (q3.1 _ (by decide)).trans (yG_4305 G1)
    obtain ⟨S7, o1, o2⟩ := yB_opn (d := d + 2) (o := ind) (dp := dp + 1) b2 hindM (by omega)
    obtain ⟨Sf, r1, r2⟩ := clB_0 (d := d) (ab := ab) (tk := 0) o2 hb1 hb2 hat2 (by omega) (by omega) (by omega) hdpM h3108 hindM h3106 hlnM p1 n2 q2.1 (by omega) (by omega) av2 (Or.inl o1)
    refine ⟨Sf, r1, hbad (by omega) (by omega) (by omega) (by omega) (yB_le r2 (Nat.le_refl _) (Nat.le_refl _) (Nat.le_refl _) (Nat.le_refl _) (by omega) (by omega)) ?_⟩
    unfold psCl
    rw [if_neg k3', g3]
  have k3 : qK (by1 A) n (k + 1) = 3 := by omega
  obtain ⟨S2, q, n2, qM, Y2, hnm, _⟩ := name_O (d := d + 2) hX.1 Y1 k3
  have G2 : yG A n S0 z0 fb a0 s (ab + min at'.length 40) (k + 2) sc [] (a + 2) c f S2 := Y2.1
  obtain ⟨g5, g6, g7, g8⟩ := rm_gt' (β := by1 A) (n := n) (k := k + 1) (k' := k + 2) rfl (by omega)
  have htk := cP_5 G2.1
  have hqk2 := q_lt (by1 A) n (k + 2)
  by_cases hb6 : qK (by1 A) n (k + 2) = 6
  · -- with a base
    obtain ⟨S3, b1, Y3, _, hnK3⟩ := pass_O (d := d + 3) hX.1 Y2 hb6 (by omega)
    have G3 : yG A n S0 z0 fb a0 s (ab + min at'.length 40) (k + 3) sc [] (a + 2) c f S3 := Y3.1
    obtain ⟨g9, g10, g11, g12⟩ := rm_gt' (β := by1 A) (n := n) (k := k + 2) (k' := k + 3) rfl (by omega)
    have epb : (qK (by1 A) n (k + 3) ≠ 3 ∨ qK (by1 A) n (k + 4) ≠ 7) → psCl (qK (by1 A) n) (qL (by1 A) n) (Eb (by1 A) n) (psA A n F) dp ind s ca ra sc at' k = .inl (qL (by1 A) n k) := fun hc => by
      unfold psCl
      rw [if_pos k3, if_pos hb6]
      exact if_neg (fun hh => hc.elim (fun h => h hh.1) (fun h => h hh.2))
    by_cases k33' : qK (by1 A) n (k + 3) ≠ 3
    · obtain ⟨S4, q1, q2, q3, q4⟩ := pass_F (d := d + 8) hX.1 hX.2 G3.1 k33' (by omega)
      have b4 := yOK_bad (H := []) Y3 (yG_bad (lo := a + 2 + 2) hn G3 q2 q3 q4 (by omega)) (Nat.le_refl _) (fun p hp => by cases hp)
      have n4 : Ans (d + 11) 92 [.ref 43] S3 (some (.int (sI S3 3109))) S4 := Ans.of (by rw [ml_92]; exact Nat.le_of_ble_eq_true rfl) (Bod.lv (by rfl) (cTkr_1 (d := d + 2) q1))
      obtain ⟨S5, b3, b5, e5⟩ := yB_passF (d := d + 9) (t := 7) b4 (by omega) (by omega)
      have av5 : sI S5 4305 = nI (ab + min at'.length 40) := e5.trans ((q3.1 _ (by decide)).trans (yG_4305 G3))
      obtain ⟨S7, o1, o2⟩ := yB_opn (d := d + 2) (o := ind) (dp := dp + 1) b5 hindM (by omega)
      obtain ⟨Sf, r1, r2⟩ := clB_1 (d := d) (ab := ab) o2 hb1 hb2 hat2 (by omega) (by omega) (by omega) hdpM h3108 hindM h3106 hlnM p1 n2 htk (by omega) hb6 b1 n4 b3 av5 (Or.inl o1)
      refine ⟨Sf, r1, hbad (by omega) (by omega) (by omega) (by omega) (yB_le r2 (Nat.le_refl _) (Nat.le_refl _) (Nat.le_refl _) (Nat.le_refl _) (by omega) (by omega)) ?_⟩
      rw [epb (Or.inl k33'), g11, g7, g3]
    have k33 : qK (by1 A) n (k + 3) = 3 := by omega
    obtain ⟨S4, q1, n4, qM1, Y4, hnm1, hnK4⟩ := name_O (d := d + 2) hX.1 Y3 k33
    have G4 : yG A n S0 z0 fb a0 s (ab + min at'.length 40) (k + 4) sc [] (a + 2) c f S4 := Y4.1
    obtain ⟨g13, g14, g15, g16⟩ := rm_gt' (β := by1 A) (n := n) (k := k + 3) (k' := k + 4) rfl (by omega)
    by_cases k7' : qK (by1 A) n (k + 4) ≠ 7
    · obtain ⟨S5, b3, q2, q3, q4⟩ := pass_F (d := d + 9) hX.1 hX.2 G4.1 k7' (by omega)
      have b5 := yOK_bad (H := []) Y4 (yG_bad (lo := a + 2 + 2) hn G4 q2 q3 q4 (by omega)) (Nat.le_refl _) (fun p hp => by cases hp)
      have av5 : sI S5 4305 = nI (ab + min at'.length 40) := (q3.1 _ (by decide)).trans (yG_4305 G4)
      obtain ⟨S7, o1, o2⟩ := yB_opn (d := d + 2) (o := ind) (dp := dp + 1) b5 hindM (by omega)
      obtain ⟨Sf, r1, r2⟩ := clB_1 (d := d) (ab := ab) o2 hb1 hb2 hat2 (by omega) (by omega) (by omega) hdpM h3108 hindM h3106 hlnM p1 n2 htk (by omega) hb6 b1 n4 b3 av5 (Or.inl o1)
      refine ⟨Sf, r1, hbad (by omega) (by omega) (by omega) (by omega) (yB_le r2 (Nat.le_refl _) (Nat.le_refl _) (Nat.le_refl _) (Nat.le_refl _) (by omega) (by omega)) ?_⟩
      rw [epb (Or.inr k7'), g15, g11, g7, g3]
    have k7 : qK (by1 A) n (k + 4) = 7 := by omega
    obtain ⟨g17, g18, g19, g20⟩ := rm_gt' (β := by1 A) (n := n) (k := k + 4) (k' := k + 5) rfl (by omega)
    obtain ⟨S5, b3, Y5, _, hnK5⟩ := pass_O (d := d + 3) hX.1 Y4 k7 (by omega)
    have G5 : yG A n S0 z0 fb a0 s (ab + min at'.length 40) (k + 5) sc [] (a + 2) c f S5 := Y5.1
    have hnm5 : nmR (by1 A) n S5 (k + 1) (nI q) := nmR_K (nK_trans hnK3 (nK_trans hnK4 hnK5)) hnm
    have hnm51 : nmR (by1 A) n S5 (k + 3) (nI q1) := nmR_K hnK5 hnm1
    obtain ⟨S7, o1, o2⟩ := h6 (d + 11) (dp + 1) ind s (ab + min at'.length 40) ca ra (k + 5) (a + 2) c f sc [] S5 (by omega) hindM (by omega) (by omega) G5 ⟨by omega, by omega, by omega, by omega, by omega, by omega⟩ hca hb3
    cases hb : psA A n F 6 (dp + 1) ind s none 0 ca ra sc [] (k + 5) with
    | inl l =>
      obtain ⟨Sf, r1, r2⟩ := clB_1 (d := d) (ab := ab) (yOK_bad (H := []) Y5 (o2.2 l hb) (Nat.le_refl _) (fun p hp => by cases hp)) hb1 hb2 hat2 (by omega) (by omega) (by omega) hdpM h3108 hindM h3106 hlnM p1 n2 htk (by omega) hb6 b1 n4 b3 (yG_4305 G5) o1
      refine ⟨Sf, r1, hbad (by omega) (by omega) (by omega) (by omega) r2 ?_⟩
      unfold psCl
      rw [if_pos k3, if_pos hb6, if_pos ⟨k33, k7⟩, hb]
      rfl
    | inr b =>
      obtain ⟨kb, ob, scb, atb⟩ := b
      have Yb := o2.1 _ hb
      have Gb : yG A n S0 z0 fb a0 s (ab + min at'.length 40) kb scb atb (a + 2 + wC ob) (c + cnN ob) (f + fxM ob) S7 := Yb.1
      obtain ⟨hw1, hw2, hw3, hw4⟩ := (ps_H (by1 A) n (Eb (by1 A) n) F).2.2.1 6 (dp + 1) ind s none 0 _ _ _ _ _ _ (Or.inr rfl) hb
      obtain ⟨m1, m2, m3, m4, m5, m6, m7, m8⟩ := hw4
      dsimp only at hw2 hw3 m1 m2 m3 m4 m5 m6 m7 m8
      have hl0 : ([] : List Nat).length = 0 := rfl
      rw [hl0] at m1
      obtain ⟨S8, x1, Y8, _⟩ := yE_2 (d := d + 9) (t := 3) (m := qL (by1 A) n k) Gb (by omega) (by omega)
      have G8 : yG A n S0 z0 fb a0 s (ab + min at'.length 40) kb scb atb (a + 2 + wC ob + 2) (c + cnN ob) (f + fxM ob) S8 := Y8.1
      have nK8 : nK S5 S8 := nK_trans Yb.2.2.2.1.2.2 Y8.2.2.2.1.2.2
      obtain ⟨S8', x2, Y8'⟩ := yE_N (d := d + 8) (t := 18) G8 (nmR_K nK8 hnm51) qM1 (by omega) (by omega) (by omega)
      have hfx := fx_s 18 (k + 3) s 0 0
      have hfx2 := fx_s 19 (k + 1) s 0 0
      have G8' := Y8'.1
      dsimp only at G8'
      have w18 : wC [(18, [k + 3, s], (0 : Int), (0 : Int))] = 3 := rfl
      have c18 : cnN [(18, [k + 3, s], (0 : Int), (0 : Int))] = 0 := rfl
      have f18 : fxM [(18, [k + 3, s], (0 : Int), (0 : Int))] = fxO (18, [k + 3, s], (0 : Int), (0 : Int)) + 0 := rfl
      have nK8' : nK S5 S8' := nK_trans nK8 Y8'.2.2.2.1.2.2
      obtain ⟨S9, S10, S11, u1, u2, u3, Y11, u4⟩ := yE_C (d := d) (b := 1) (nm := nI q) G8' (nmR_K nK8' hnm5) (by omega)
      have nK11 : nK S5 S11 := nK_trans nK8' Y11.2.2.2.1.2.2
      have Yall := yOK_app Y5 (yOK_app Yb (yOK_app Y8 (yOK_app Y8' Y11)))
      have Yab := yOK_ab h Yall
      have Gab := Yab.1
      dsimp only at Gab
      have eC : lC (23, (k + 1) :: 1 :: atb.take 40, (0 : Int), (0 : Int)) = 4 + min atb.length 40 := by
        show 2 + ((atb.take 40).length + 1 + 1) = _
        rw [List.length_take]
        omega
      have fC : fxO (23, (k + 1) :: 1 :: atb.take 40, (0 : Int), (0 : Int)) = 0 := if_neg (fun hc => absurd hc.2.1 (by dsimp only; omega))
      have eW : wC ([] ++ (ob ++ ([(3, [qL (by1 A) n k], (0 : Int), (0 : Int))] ++ ([(18, [k + 3, s], (0 : Int), (0 : Int))] ++ [(23, (k + 1) :: 1 :: atb.take 40, (0 : Int), (0 : Int))])))) = wC ob + (2 + (3 + (4 + min atb.length 40))) := by
        rw [List.nil_append, wC_app, wC_app, wC_app]
        show _ + (2 + 0 + (3 + 0 + (lC (23, (k + 1) :: 1 :: atb.take 40, (0 : Int), (0 : Int)) + 0))) = _
        rw [eC]
        omega
      have eF : fxM ([] ++ (ob ++ ([(3, [qL (by1 A) n k], (0 : Int), (0 : Int))] ++ ([(18, [k + 3, s], (0 : Int), (0 : Int))] ++ [(23, (k + 1) :: 1 :: atb.take 40, (0 : Int), (0 : Int))])))) ≤ fxM ob + 1 := by
        rw [List.nil_append, fxM_app, fxM_app, fxM_app]
        show _ + (0 + 0 + (fxO (18, [k + 3, s], (0 : Int), (0 : Int)) + 0 + (fxO (23, (k + 1) :: 1 :: atb.take 40, (0 : Int), (0 : Int)) + 0))) ≤ _
        rw [fC]
        omega
      obtain ⟨Sf, r1, r2⟩ := bindTo_T (d := d) Gab (nmR_K (nK_S nK11 (T := S5) (T1 := wI 4305 (nI (ab + min at'.length 40)) S11) rfl (rIn _ _ (by decide)) (fun _ _ => rfl) (fun _ _ => rfl)) hnm5) qM (by omega) (by rw [eW]; omega) (by omega)
      refine ⟨Sf, cl_go1 hdpM h3108 hindM h3106 hlnM p1 n2 htk (by omega) hb6 b1 n4 b3 (yG_4305 G5) (by omega) o1 (by omega) x1 (by omega) x2 (by omega) u1 u2 (by omega) (by omega) (by omega) u3 (u4 Sf r1), yRes_r (x := _) ?_ (yOK_app Yab r2)⟩
      unfold psCl clO
      rw [if_pos k3, if_pos hb6, if_pos ⟨k33, k7⟩, hb]
      exact congrArg Sum.inr (by simp only [List.append_assoc, List.cons_append, List.nil_append, if_pos])
  · -- without one
    obtain ⟨S7, o1, o2⟩ := h6 (d + 11) (dp + 1) ind s (ab + min at'.length 40) ca ra (k + 2) (a + 2) c f sc [] S2 (by omega) hindM (by omega) (by omega) G2 ⟨by omega, by omega, by omega, by omega, by omega, by omega⟩ hca hb3
    cases hb : psA A n F 6 (dp + 1) ind s none 0 ca ra sc [] (k + 2) with
    | inl l =>
      obtain ⟨Sf, r1, r2⟩ := clB_0 (d := d) (ab := ab) (yOK_bad (H := []) Y2 (o2.2 l hb) (Nat.le_refl _) (fun p hp => by cases hp)) hb1 hb2 hat2 (by omega) (by omega) (by omega) hdpM h3108 hindM h3106 hlnM p1 n2 htk (by omega) hb6 (yG_4305 G2) o1
      refine ⟨Sf, r1, hbad (by omega) (by omega) (by omega) (by omega) r2 ?_⟩
      unfold psCl
      rw [if_pos k3, if_neg hb6, hb]
      rfl
    | inr b =>
      obtain ⟨kb, ob, scb, atb⟩ := b
      have Yb := o2.1 _ hb
      have Gb : yG A n S0 z0 fb a0 s (ab + min at'.length 40) kb scb atb (a + 2 + wC ob) (c + cnN ob) (f + fxM ob) S7 := Yb.1
      obtain ⟨hw1, hw2, hw3, hw4⟩ := (ps_H (by1 A) n (Eb (by1 A) n) F).2.2.1 6 (dp + 1) ind s none 0 _ _ _ _ _ _ (Or.inr rfl) hb
      obtain ⟨m1, m2, m3, m4, m5, m6, m7, m8⟩ := hw4
      dsimp only at hw2 hw3 m1 m2 m3 m4 m5 m6 m7 m8
      have hl0 : ([] : List Nat).length = 0 := rfl
      rw [hl0] at m1
      obtain ⟨S8, x1, Y8, _⟩ := yE_2 (d := d + 9) (t := 3) (m := qL (by1 A) n k) Gb (by omega) (by omega)
      have G8 : yG A n S0 z0 fb a0 s (ab + min at'.length 40) kb scb atb (a + 2 + wC ob + 2) (c + cnN ob) (f + fxM ob) S8 := Y8.1
      have nK8 : nK S2 S8 := nK_trans Yb.2.2.2.1.2.2 Y8.2.2.2.1.2.2
      have hfx2 := fx_s 19 (k + 1) s 0 0
      obtain ⟨S9, S10, S11, u1, u2, u3, Y11, u4⟩ := yE_C (d := d) (b := 0) (nm := nI q) G8 (nmR_K nK8 hnm) (by omega)
      have nK11 : nK S2 S11 := nK_trans nK8 Y11.2.2.2.1.2.2
      have Yall := yOK_app Y2 (yOK_app Yb (yOK_app Y8 Y11))
      have Yab := yOK_ab h Yall
      have Gab := Yab.1
      dsimp only at Gab
      have eC : lC (23, (k + 1) :: 0 :: atb.take 40, (0 : Int), (0 : Int)) = 4 + min atb.length 40 := by
        show 2 + ((atb.take 40).length + 1 + 1) = _
        rw [List.length_take]
        omega
      have fC : fxO (23, (k + 1) :: 0 :: atb.take 40, (0 : Int), (0 : Int)) = 0 := if_neg (fun hc => absurd hc.2.1 (by dsimp only; omega))
      have eW : wC ([] ++ (ob ++ ([(3, [qL (by1 A) n k], (0 : Int), (0 : Int))] ++ [(23, (k + 1) :: 0 :: atb.take 40, (0 : Int), (0 : Int))]))) = wC ob + (2 + (4 + min atb.length 40)) := by
        rw [List.nil_append, wC_app, wC_app]
        show _ + (2 + 0 + (lC (23, (k + 1) :: 0 :: atb.take 40, (0 : Int), (0 : Int)) + 0)) = _
        rw [eC]
        omega
      have eF : fxM ([] ++ (ob ++ ([(3, [qL (by1 A) n k], (0 : Int), (0 : Int))] ++ [(23, (k + 1) :: 0 :: atb.take 40, (0 : Int), (0 : Int))]))) ≤ fxM ob + 1 := by
        rw [List.nil_append, fxM_app, fxM_app]
        show _ + (0 + 0 + (fxO (23, (k + 1) :: 0 :: atb.take 40, (0 : Int), (0 : Int)) + 0)) ≤ _
        rw [fC]
        omega
      obtain ⟨Sf, r1, r2⟩ := bindTo_T (d := d) Gab (nmR_K (nK_S nK11 (T := S2) (T1 := wI 4305 (nI (ab + min at'.length 40)) S11) rfl (rIn _ _ (by decide)) (fun _ _ => rfl) (fun _ _ => rfl)) hnm) qM (by omega) (by rw [eW]; omega) (by omega)
      refine ⟨Sf, cl_go0 hdpM h3108 hindM h3106 hlnM p1 n2 htk (by omega) hb6 (yG_4305 G2) (by omega) o1 (by omega) x1 (by omega) u1 u2 (by omega) (by omega) (by omega) u3 (u4 Sf r1), yRes_r (x := _) ?_ (yOK_app Yab r2)⟩
      unfold psCl clO
      rw [if_pos k3, if_neg hb6, hb]
      exact congrArg Sum.inr (by simp only [List.append_assoc, List.cons_append, List.nil_append, if_neg, reduceCtorEq, Nat.zero_ne_one, not_false_eq_true])
end
