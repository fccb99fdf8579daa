/-! STATEMENTS OF THE REFERENCE: def: behind its head, up to the block -/
section
variable {β : Nat → Nat} {n : Nat} {E : Nat → Nat → Bool} {V : Nat → Int32} {T : Nat → Nat × Nat} {P : Nat → Int32 → Int32 × Int32} {own0 : Nat → Nat × Nat} {m u k1 : Nat} {S0 Sb Sp S S1 S2 : cS} {H B0 W d c w t f b a F s : Nat} {l : List Int32} {X : Nat → Nat}
theorem z_67 {j : Nat} (hX : zX β n V own0 m k1 S0) (h : zE own0 m u S0 H B0 c w t f b S) (hj : j ≤ k1) : sA S 67 j = nI (rkd (qK β n j)) := (z_tok hX h hj).1
/-- the state behind the head of a function at place c: f functions before -/
theorem df_2 {q ind lb r nl no : Nat} {l2 : List Int32} (hX : zX β n V own0 m k1 S0) (hEb : zE own0 m u S0 H B0 c w t (f + 1) b Sb) (hP : zPs own0 m u S0 H B0 c w t (f + 1) b F nl l2 q Sb Sp) (hF : sI Sb 6122 = nI F) (hFM : F < 15) (h75 : sA Sb 75 F = nI nl) (hno : sI Sb 6137 = nI no) (h7 : qK β n q = 7) (h13 : 6 ≤ qK β n (q + 1) ∧ qK β n (q + 1) < 40) (h2 : qK β n (q + 1 + 1) = 2) (hq : q ≤ k1) (hcH : c + 2 ≤ H) (hH : H ≤ 40000) (hfM : f < 2 ^ 18) (hind : ind < 2 ^ 20) (hlb : lb < 2) (hr : r < 90000) (hl8 : l2.length ≤ 8) (hn1 : nl + (scn1 (qK β n) (qI β n) V ind 6001 (q + 3) none l2).length < 6000) (hn2 : no + (scn2 (qK β n) (qI β n) V ind l2.length 6001 (q + 3) none (scn1 (qK β n) (qI β n) V ind 6001 (q + 3) none l2, [])).2.length ≤ 6000) : ∃ Se, (∀ (lv : sm_L) (v : Option Value) (Sf : cS), sm_get lv 0 = some (.ref 61) → sm_get lv 1 = some (.int (nI ind)) → sm_get lv 2 = some (.int (nI lb)) → sm_get lv 3 = some (.int (nI r)) → sm_get lv 4 = some (.int (nI f)) → sm_get lv 5 = some (.int (nI 0)) → (∀ lv1 : sm_L, sm_get lv1 0 = some (.ref 61) → sm_get lv1 1 = some (.int (nI ind)) → sm_get lv1 2 = some (.int (nI lb)) → sm_get lv1 3 = some (.int (nI r)) → sm_get lv1 4 = some (.int (nI f)) → sm_get lv1 6 = some (.int (nI (c + 1))) → Bod (d + 12) 336 360 lv1 [] Se v Sf) → Bod (d + 12) 336 131 lv [] Sp v Sf) ∧ zE own0 m u S0 H B0 (c + 2) w t (f + 1) b Se ∧ sI Se 6115 = nI (q + 1) ∧ sI Se 6116 = nI 0 ∧ sI Se 6123 = nI (nl + (scn2 (qK β n) (qI β n) V ind l2.length 6001 (q + 3) none (scn1 (qK β n) (qI β n) V ind 6001 (q + 3) none l2, [])).1.length) ∧ sI Se 6137 = nI (no + (scn2 (qK β n) (qI β n) V ind l2.length 6001 (q + 3) none (scn1 (qK β n) (qI β n) V ind 6001 (q + 3) none l2, [])).2.length) ∧ (∀ i, i < 10800 → i ≠ 6115 → i ≠ 6116 → i ≠ 6131 → i ≠ 6132 → i ≠ 6123 → i ≠ 6137 → sI Se i = sI Sb i) ∧ (∀ i y, (scn2 (qK β n) (qI β n) V ind l2.length 6001 (q + 3) none (scn1 (qK β n) (qI β n) V ind 6001 (q + 3) none l2, [])).1[i]? = some y → sA Se 74 (nl + i) = y) ∧ (∀ i y, (scn2 (qK β n) (qI β n) V ind l2.length 6001 (q + 3) none (scn1 (qK β n) (qI β n) V ind 6001 (q + 3) none l2, [])).2[i]? = some y → sA Se 82 (no + i) = y) ∧ (∀ i, i < nl → sA Se 74 i = sA Sb 74 i) ∧ (∀ i, i < no → sA Se 82 i = sA Sb 82 i) ∧ (∀ i, sA Se 76 i = if i = F then nI l2.length else sA Sb 76 i) ∧ (∀ x, 67 ≤ x → x < 108 → x ≠ 79 → x ≠ 80 → x ≠ 74 → x ≠ 82 → x ≠ 76 → sA Se x = sA Sb x) ∧ kW m c w t f b Sb Se ∧ dNm Se m f = dNm Sb m f ∧ dAt Se m f = nI (c + 2) ∧ dPa Se m f = nI l2.length ∧ bkA Se = bkA Sb ∧ bkL Se = bkL Sb ∧ lsS β n V P Se m w t c [(4, [], 0, 0)] := by
  have hk1 := hX.2.1
  have hm1 := hX.2.2.2.2.1
  have hq1 : q + 1 ≤ k1 := q_end hX hq (by omega)
  have hq2 : q + 1 + 1 ≤ k1 := q_end hX hq1 (by omega)
  have hq3 : q + 3 ≤ k1 := q_end (k := q + 1 + 1) hX hq2 (by omega)
  have kp : kF Sb Sp := kF_Ps hP
  have c1 := z_tkT (d := d + 9) (K := 7) hX hP.1 hP.2.1 hq (by decide) h7
  obtain ⟨Sq, hSq⟩ : ∃ Sq, Sq = wI 6115 (nI (q + 1)) Sp := ⟨_, rfl⟩
  rw [← hSq] at c1
  have hEq : zE own0 m u S0 H B0 c w t (f + 1) b Sq := by rw [hSq]; exact zE_wI hP.1 (by decide)
  have kq : kF Sb Sq := by rw [hSq]; exact kF_trans kp kF_wI
  have iq : ∀ i, i ≠ 6115 → sI Sq i = sI Sp i := fun i hi => by rw [hSq]; exact rIn _ _ hi
  have aq : ∀ x, sA Sq x = sA Sp x := fun x => by rw [hSq]; rfl
  have z0 : zO β n V P True own0 m u S0 H B0 (fun _ => 0) 0 Sq c w t (f + 1) b (q + 1) [] (f + 1) Sq := zO_nil hEq (by rw [hSq]; exact rIe _ _ _) ((iq _ (by decide)).trans hP.2.2.1)
  obtain ⟨Sh, hAh, z1, kxh⟩ := zO_hole (d := d + 7) (o := (4, [], 0, 0)) (x := nI 11) hX z0 (by show c + 0 + 2 ≤ H; omega) hH rfl (by show (4 : Nat) ≠ 16; decide) (by show (4 : Nat) ≠ 60; decide) (by show (4 : Nat) ≠ 23; decide) rfl
  have hEh : zE own0 m u S0 H B0 (c + 2) w t (f + 1) b Sh := z1.1
  have hls : lsS β n V P Sh m w t c [(4, [], 0, 0)] := z1.2.2.2.1 trivial
  have hkh : kW m c w t f b Sq Sh := ⟨z1.2.2.2.2.2.1.1, fun i hi => z1.2.2.2.2.2.1.2.1 i (by omega), z1.2.2.2.2.2.1.2.2⟩
  obtain ⟨g7, g8, g9, g10, N, v7, v8, v9, v10, k8, k9, k10, fN, n78, n79, n710, n89, n810, n910, N4⟩ := zE_dg hEh
  obtain ⟨m1, m2, m3, m4, m5, m6⟩ := zE_m hEh
  obtain ⟨y1, y2, y3, y4, y5, y6, y7, y8, y9⟩ := zE_wD (j := 8) (i := f) (x := nI (c + 2)) hEh (by decide)
  rw [vR_eq v8] at y1 y2 y3 y4 y5 y6 y7 y8 y9
  obtain ⟨Sd, hSd⟩ : ∃ Sd, Sd = wA g8 f (nI (c + 2)) Sh := ⟨_, rfl⟩
  rw [← hSd] at y1 y2 y3 y4 y5 y6 y7 y8 y9
  obtain ⟨x1, x2, x3, x4, x5, x6, x7, x8, x9⟩ := zE_wD (j := 9) (i := f) (x := nI l2.length) y1 (by decide)
  have v9d : sV Sd (100 * m + 9) = .ref g9 := by rw [hSd]; exact v9
  rw [vR_eq v9d] at x1 x2 x3 x4 x5 x6 x7 x8 x9
  obtain ⟨Sg, hSg⟩ : ∃ Sg, Sg = wA g9 f (nI l2.length) Sd := ⟨_, rfl⟩
  rw [← hSg] at x1 x2 x3 x4 x5 x6 x7 x8 x9
  have iD : ∀ i, sI Sd i = sI Sh i := fun i => by rw [hSd]; rfl
  have iG : ∀ i, sI Sg i = sI Sh i := fun i => by rw [hSg]; exact iD i
  have iH : ∀ i, i < 10800 → i ≠ 6115 → i ≠ 6116 → i ≠ 6131 → i ≠ 6132 → sI Sh i = sI Sq i := kxh.1
  have aH : ∀ x, 67 ≤ x → x < 108 → x ≠ 79 → x ≠ 80 → sA Sh x = sA Sq x := fun x a1 a2 a3 a4 => (kxh.2.1 x a1 a2 a3 a4).1
  have aG : ∀ x, 67 ≤ x → x < 108 → x ≠ 79 → x ≠ 80 → sA Sg x = sA Sp x := fun x a1 a2 a3 a4 => by rw [x9 x a1 a2 a3 a4, y9 x a1 a2 a3 a4, aH x a1 a2 a3 a4, aq]
  have hFh : sI Sh 6122 = nI F := by rw [iH _ (by decide) (by decide) (by decide) (by decide) (by decide), iq _ (by decide), hP.2.2.2.2.2.2.2.2.1 _ (by decide) (by decide)]; exact hF
  have h76d : sA Sd 76 F = nI l2.length := by rw [y9 76 (by decide) (by decide) (by decide) (by decide), aH 76 (by decide) (by decide) (by decide) (by decide), aq, hP.2.2.2.2.2.2.1, if_pos rfl]
  have h615 : sI Sg 6115 = nI (q + 1) := by rw [iG]; exact z1.2.1
  have h616 : sI Sg 6116 = nI 0 := by rw [iG]; exact z1.2.2.1
  have t13 : sA Sg 67 (q + 1) = nI (rkd (qK β n (q + 1))) := z_67 hX x1 hq1
  have t2 : sA Sg 67 (q + 1 + 1) = nI (rkd (qK β n (q + 1 + 1))) := z_67 hX x1 hq2
  have e5 : rkd (qK β n (q + 1)) = 5 := rkd_5.mpr (by omega)
  have e6 : rkd (qK β n (q + 1 + 1)) = 6 := rkd_6.mpr h2
  have hsn : zSn own0 m u S0 H B0 (c + 2) w t (f + 1) b nl no l2 [] Sg Sg := ⟨x1, by rw [iG, iH _ (by decide) (by decide) (by decide) (by decide) (by decide), iq _ (by decide)]; exact hP.2.2.2.1, by rw [iG, iH _ (by decide) (by decide) (by decide) (by decide) (by decide), iq _ (by decide), hP.2.2.2.2.2.2.2.2.1 _ (by decide) (by decide)]; exact hno, fun i y hy => by rw [aG 74 (by decide) (by decide) (by decide) (by decide)]; exact hP.2.2.2.2.1 i y hy, (fun i y hy => by cases hy), fun _ _ => rfl, fun _ _ => rfl, fun _ _ _ => rfl, fun _ _ _ => rfl, rfl, rfl⟩
  have hFg : sI Sg 6122 = nI F := by rw [iG]; exact hFh
  have h75g : sA Sg 75 F = nI nl := by rw [aG 75 (by decide) (by decide) (by decide) (by decide), hP.2.2.2.2.2.2.2.1 75 (by decide) (by decide)]; exact h75
  have h76g : sA Sg 76 F = nI l2.length := by rw [x9 76 (by decide) (by decide) (by decide) (by decide)]; exact h76d
  obtain ⟨Se, hAs, hse⟩ := scan_T (d := d) (lw := ind) (k := q + 3) hX hsn hFg hFM h75g h76g (by omega) hind hq3 (q_22 h2) hn1 hn2
  obtain ⟨LO, hLO⟩ : ∃ LO, LO = scn2 (qK β n) (qI β n) V ind l2.length 6001 (q + 3) none (scn1 (qK β n) (qI β n) V ind 6001 (q + 3) none l2, []) := ⟨_, rfl⟩
  rw [← hLO] at hse ⊢
  obtain ⟨s1, s2, s3, s4, s5, s6, s7, s8, s9, s10, s11⟩ := id hse
  have kg : kF Sg Se := kF_Sn hse
  obtain ⟨kg1, ⟨kg2, kg3, kg4, kg5⟩, kg6, kg7⟩ := kF_all x1 kg
  obtain ⟨kq1, ⟨kq2, kq3, kq4, kq5⟩, kq6, kq7⟩ := kF_all hEb kq
  have hkx := kxh.2.2
  have kWd : kW m c w t f b Sh Sg := by
    refine ⟨kR_trans (y2 c w t) (x2 c w t) (Nat.le_refl _) (Nat.le_refl _) (Nat.le_refl _), fun i hi => ⟨?_, ?_, ?_, ?_⟩, fun i _ => ⟨?_, ?_⟩⟩
    · rw [x3, y3]
    · rw [x4, if_neg (by omega), y4, if_neg (by omega)]
    · rw [x5, if_neg (by omega), y5, if_neg (by omega)]
    · rw [x6, if_neg (by omega), y6, if_neg (by omega)]
    · rw [x7, y7]
    · rw [x8, y8]
  refine ⟨Se, fun lv v Sf q0 q1 q2 q3 q4 q5 hB => ?_, s1, (s9 _ (by decide) (by decide)).trans h615, (s9 _ (by decide) (by decide)).trans h616, s2, s3, fun i i0 i1 i2 i3 i4 i5 i6 => ?_, fun i y hy => (s4 i y hy).1, s5, fun i hi => ?_, fun i hi => ?_, fun i => ?_, fun x a1 a2 a3 a4 a5 a6 a7 => ?_, kW_trans (kW_trans (kF_kW hEb kq) hkh (Nat.le_refl _) (Nat.le_refl _) (Nat.le_refl _) (Nat.le_refl _) (Nat.le_refl _)) (kW_trans kWd (kF_kW x1 kg) (Nat.le_refl _) (Nat.le_refl _) (Nat.le_refl _) (Nat.le_refl _) (Nat.le_refl _)) (Nat.le_refl _) (Nat.le_refl _) (Nat.le_refl _) (Nat.le_refl _) (Nat.le_refl _), ?_, ?_, ?_, ?_, ?_, ?_⟩
  · have c3 : Ans (d + 12) 338 [.ref 61, .int (nI (q + 1 + 2)), .int (nI ind)] Sg none Se := hAs
    have hz := hSg
    rw [hSg, hSd] at c3 t13 t2 h615 hFg h76g
    have hFd : sI Sd 6122 = nI F := (iD _).trans hFh
    rw [hSd] at hFd h76d
    exact zDq_3 (d := d + 4) (a := c + 1) (n1 := c + 2) (g := g8) (g1 := g9) (N := N) (N1 := N) q0 q1 q2 q3 q4 q5 hind (by omega) (by omega) (by omega) c1 (by omega) hAh m1 m3 m2 v8 k8 (by omega) m4 (by omega) (by omega) v9 k9 (by omega) n89 hFd hFM h76d (by omega) (by omega) h615 (by omega) t13 (by omega) e5 t2 (by omega) e6 c3 hB
  · rw [s9 i i5 i6, iG, iH i i0 i1 i2 i3 i4, iq i i1, hP.2.2.2.2.2.2.2.2.1 i i1 i5]
  · rw [s6 i hi, aG 74 (by decide) (by decide) (by decide) (by decide), hP.2.2.2.2.2.1 i hi]
  · rw [s7 i hi, aG 82 (by decide) (by decide) (by decide) (by decide), hP.2.2.2.2.2.2.2.1 82 (by decide) (by decide)]
  · rw [s8 76 (by decide) (by decide), aG 76 (by decide) (by decide) (by decide) (by decide), hP.2.2.2.2.2.2.1]
  · rw [s8 x a5 a6, aG x a1 a2 a3 a4, hP.2.2.2.2.2.2.2.1 x a5 a7]
  · rw [kg2, x3, y3, hkx.1, kq2]
  · rw [kg3, x4, if_neg (by omega), y4, if_pos ⟨rfl, rfl⟩]
  · rw [kg4, x5, if_pos ⟨rfl, rfl⟩]
  · rw [kg6, x7, y7, hkx.2.2.2.2.1, kq6]
  · rw [kg7, x8, y8, hkx.2.2.2.2.2.1, kq7]
  · have kall : ∀ c' w' t', kR m c' w' t' Sh Se := fun c' w' t' => kR_trans (kR_trans (y2 c' w' t') (x2 c' w' t') (Nat.le_refl _) (Nat.le_refl _) (Nat.le_refl _)) (kg1 c' w' t') (Nat.le_refl _) (Nat.le_refl _) (Nat.le_refl _)
    exact lsS_mv (S := Sh) (S1 := Se) (fun i hi => (kall 0 w t).2.1 i hi) (fun i hi => (kall 0 w t).2.2 i hi) (Nat.le_refl _) (Nat.le_refl _) [(4, [], 0, 0)] c c (w23_1 (by show (4 : Nat) ≠ 23; decide)) (fun i _ => (kall (c + i + 1) w t).1 (c + i) (by omega)) hls
end
