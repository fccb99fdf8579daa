/-! STATEMENTS OF THE REFERENCE: def: a head that no block follows -/
section
variable {β : Nat → Nat} {n : Nat} {E : Nat → Nat → Bool} {V : Nat → Int32} {T : Nat → Nat × Nat} {P : Nat → Int32 → Int32 × Int32} {own0 : Nat → Nat × Nat} {m u k1 : Nat} {S0 Sb Sp S S1 S2 : cS} {H B0 W d c w t f b a F s : Nat} {l : List Int32} {X : Nat → Nat}
/-- no scan: what stands behind the ) isn't a sign at a line's end -/
theorem df_2n {q ind lb r nl no : Nat} {l2 : List Int32} (hX : zX β n V own0 m k1 S0) (hEb : zE own0 m u S0 H B0 c w t (f + 1) b Sb) (hP : zPs own0 m u S0 H B0 c w t (f + 1) b F nl l2 q Sb Sp) (hF : sI Sb 6122 = nI F) (hFM : F < 15) (h75 : sA Sb 75 F = nI nl) (h7 : qK β n q = 7) (h13 : ¬(6 ≤ qK β n (q + 1) ∧ qK β n (q + 1) < 40) ∨ qK β n (q + 1 + 1) ≠ 2) (hq : q ≤ k1) (hcH : c + 2 ≤ H) (hH : H ≤ 40000) (hfM : f < 2 ^ 18) (hind : ind < 2 ^ 20) (hlb : lb < 2) (hr : r < 90000) (hl8 : l2.length ≤ 8) : ∃ Se, (∀ (lv : sm_L) (v : Option Value) (Sf : cS), sm_get lv 0 = some (.ref 61) → sm_get lv 1 = some (.int (nI ind)) → sm_get lv 2 = some (.int (nI lb)) → sm_get lv 3 = some (.int (nI r)) → sm_get lv 4 = some (.int (nI f)) → sm_get lv 5 = some (.int (nI 0)) → (∀ lv1 : sm_L, sm_get lv1 0 = some (.ref 61) → sm_get lv1 1 = some (.int (nI ind)) → sm_get lv1 2 = some (.int (nI lb)) → sm_get lv1 3 = some (.int (nI r)) → sm_get lv1 4 = some (.int (nI f)) → sm_get lv1 6 = some (.int (nI (c + 1))) → Bod (d + 12) 336 360 lv1 [] Se v Sf) → Bod (d + 12) 336 131 lv [] Sp v Sf) ∧ zE own0 m u S0 H B0 (c + 2) w t (f + 1) b Se ∧ sI Se 6115 = nI (q + 1) ∧ sI Se 6116 = nI 0 ∧ sI Se 6123 = nI (nl + l2.length) ∧ (∀ i, i < 10800 → i ≠ 6115 → i ≠ 6116 → i ≠ 6131 → i ≠ 6132 → i ≠ 6123 → i ≠ 6137 → sI Se i = sI Sb i) ∧ sA Se 75 F = nI nl := by
  have hk1 := hX.2.1
  have hm1 := hX.2.2.2.2.1
  have hq1 : q + 1 ≤ k1 := q_end hX hq (by omega)
  have kp : kF Sb Sp := kF_Ps hP
  have c1 := z_tkT (d := d + 9) (K := 7) hX hP.1 hP.2.1 hq (by decide) h7
  obtain ⟨Sq, hSq⟩ : ∃ Sq, Sq = wI 6115 (nI (q + 1)) Sp := ⟨_, rfl⟩
  rw [← hSq] at c1
  have hEq : zE own0 m u S0 H B0 c w t (f + 1) b Sq := by rw [hSq]; exact zE_wI hP.1 (by decide)
  have kq : kF Sb Sq := by rw [hSq]; exact kF_trans kp kF_wI
  have iq : ∀ i, i ≠ 6115 → sI Sq i = sI Sp i := fun i hi => by rw [hSq]; exact rIn _ _ hi
  have aq : ∀ x, sA Sq x = sA Sp x := fun x => by rw [hSq]; rfl
  have z0 : zO β n V (fun _ _ => (0, 0)) True own0 m u S0 H B0 (fun _ => 0) 0 Sq c w t (f + 1) b (q + 1) [] (f + 1) Sq := zO_nil hEq (by rw [hSq]; exact rIe _ _ _) ((iq _ (by decide)).trans hP.2.2.1)
  obtain ⟨Sh, hAh, z1, kxh⟩ := zO_hole (d := d + 7) (o := (4, [], 0, 0)) (x := nI 11) hX z0 (by show c + 0 + 2 ≤ H; omega) hH rfl (by show (4 : Nat) ≠ 16; decide) (by show (4 : Nat) ≠ 60; decide) (by show (4 : Nat) ≠ 23; decide) rfl
  have hEh : zE own0 m u S0 H B0 (c + 2) w t (f + 1) b Sh := z1.1
  have hkh : kW m c w t f b Sq Sh := ⟨z1.2.2.2.2.2.1.1, fun i hi => z1.2.2.2.2.2.1.2.1 i (by omega), z1.2.2.2.2.2.1.2.2⟩
  obtain ⟨g7, g8, g9, g10, N, v7, v8, v9, v10, k8, k9, k10, fN, n78, n79, n710, n89, n810, n910, N4⟩ := zE_dg hEh
  obtain ⟨m1, m2, m3, m4, m5, m6⟩ := zE_m hEh
  obtain ⟨y1, y2, y3, y4, y5, y6, y7, y8, y9⟩ := zE_wD (j := 8) (i := f) (x := nI (c + 2)) hEh (by decide)
  rw [vR_eq v8] at y1 y2 y3 y4 y5 y6 y7 y8 y9
  obtain ⟨Sd, hSd⟩ : ∃ Sd, Sd = wA g8 f (nI (c + 2)) Sh := ⟨_, rfl⟩
  rw [← hSd] at y1 y2 y3 y4 y5 y6 y7 y8 y9
  obtain ⟨x1, x2, x3, x4, x5, x6, x7, x8, x9⟩ := zE_wD (j := 9) (i := f) (x := nI l2.length) y1 (by decide)
  have v9d : sV Sd (100 * m + 9) = .ref g9 := by rw [hSd]; exact v9
  rw [vR_eq v9d] at x1 x2 x3 x4 x5 x6 x7 x8 x9
  obtain ⟨Sg, hSg⟩ : ∃ Sg, Sg = wA g9 f (nI l2.length) Sd := ⟨_, rfl⟩
  rw [← hSg] at x1 x2 x3 x4 x5 x6 x7 x8 x9
  have iD : ∀ i, sI Sd i = sI Sh i := fun i => by rw [hSd]; rfl
  have iG : ∀ i, sI Sg i = sI Sh i := fun i => by rw [hSg]; exact iD i
  have iH : ∀ i, i < 10800 → i ≠ 6115 → i ≠ 6116 → i ≠ 6131 → i ≠ 6132 → sI Sh i = sI Sq i := kxh.1
  have aH : ∀ x, 67 ≤ x → x < 108 → x ≠ 79 → x ≠ 80 → sA Sh x = sA Sq x := fun x a1 a2 a3 a4 => (kxh.2.1 x a1 a2 a3 a4).1
  have aG : ∀ x, 67 ≤ x → x < 108 → x ≠ 79 → x ≠ 80 → sA Sg x = sA Sp x := fun x a1 a2 a3 a4 => by rw [x9 x a1 a2 a3 a4, y9 x a1 a2 a3 a4, aH x a1 a2 a3 a4, aq]
  have hFh : sI Sh 6122 = nI F := by rw [iH _ (by decide) (by decide) (by decide) (by decide) (by decide), iq _ (by decide), hP.2.2.2.2.2.2.2.2.1 _ (by decide) (by decide)]; exact hF
  have h76d : sA Sd 76 F = nI l2.length := by rw [y9 76 (by decide) (by decide) (by decide) (by decide), aH 76 (by decide) (by decide) (by decide) (by decide), aq, hP.2.2.2.2.2.2.1, if_pos rfl]
  have h615 : sI Sg 6115 = nI (q + 1) := by rw [iG]; exact z1.2.1
  have h616 : sI Sg 6116 = nI 0 := by rw [iG]; exact z1.2.2.1
  have t13 : sA Sg 67 (q + 1) = nI (rkd (qK β n (q + 1))) := z_67 hX x1 hq1
  have hlt13 := rkd_lt (qK β n (q + 1))
  have hFg : sI Sg 6122 = nI F := by rw [iG]; exact hFh
  have h75g : sA Sg 75 F = nI nl := by rw [aG 75 (by decide) (by decide) (by decide) (by decide), hP.2.2.2.2.2.2.2.1 75 (by decide) (by decide)]; exact h75
  have h76g : sA Sg 76 F = nI l2.length := by rw [x9 76 (by decide) (by decide) (by decide) (by decide)]; exact h76d
  refine ⟨Sg, fun lv v Sf q0 q1 q2 q3 q4 q5 hB => ?_, x1, h615, h616, by rw [iG, iH _ (by decide) (by decide) (by decide) (by decide) (by decide), iq _ (by decide)]; exact hP.2.2.2.1, fun i i0 i1 i2 i3 i4 i5 i6 => by rw [iG, iH i i0 i1 i2 i3 i4, iq i i1, hP.2.2.2.2.2.2.2.2.1 i i1 i5], h75g⟩
  have hFd : sI Sd 6122 = nI F := (iD _).trans hFh
  by_cases e5 : rkd (qK β n (q + 1)) = 5
  · have h13' := rkd_5.mp e5
    have hq2 : q + 1 + 1 ≤ k1 := q_end hX hq1 (by omega)
    have t2 : sA Sg 67 (q + 1 + 1) = nI (rkd (qK β n (q + 1 + 1))) := z_67 hX x1 hq2
    have hlt2 := rkd_lt (qK β n (q + 1 + 1))
    have e6 : rkd (qK β n (q + 1 + 1)) ≠ 6 := fun e => (h13.resolve_left (fun z => z h13')) (rkd_6.mp e)
    rw [hSg, hSd] at t13 t2 h615 hB
    rw [hSd] at hFd h76d
    exact zDq_2 (d := d + 4) (a := c + 1) (n1 := c + 2) (g := g8) (g1 := g9) (N := N) (N1 := N) q0 q1 q2 q3 q4 q5 hind (by omega) (by omega) (by omega) c1 (by omega) hAh m1 m3 m2 v8 k8 (by omega) m4 (by omega) (by omega) v9 k9 (by omega) n89 hFd hFM h76d (by omega) (by omega) h615 (by omega) t13 (by omega) e5 t2 (by omega) e6 hB
  · rw [hSg, hSd] at t13 h615 hB
    rw [hSd] at hFd h76d
    exact zDq_1 (d := d + 4) (a := c + 1) (n1 := c + 2) (g := g8) (g1 := g9) (N := N) (N1 := N) q0 q1 q2 q3 q4 q5 hind (by omega) (by omega) (by omega) c1 (by omega) hAh m1 m3 m2 v8 k8 (by omega) m4 (by omega) (by omega) v9 k9 (by omega) n89 hFd hFM h76d (by omega) (by omega) h615 (by omega) t13 (by omega) e5 hB
theorem blk_bad {ind z q k : Nat} (hX : zX β n V own0 m k1 S0) (h : zE own0 m u S0 H B0 c w t f b S) (ha : sI S 6115 = nI q) (hf : sI S 6116 = nI 0) (hq : q ≤ k1) (hw : w ≤ W) (ht : t ≤ W) (hfW : f ≤ W) (hbad : ¬(qK β n q = 13 ∧ qK β n (q + 1) = 2)) (hL : qL β n q = qL β n k) (hz : z < 2) (hind : ind < 2 ^ 20) : ∃ S1, Ans (d + 12) 334 [.ref 61, .int (nI ind), .int (nI z)] S (some (.int (nI 0))) S1 ∧ zB own0 m u S0 H B0 W (flq (qL β n k)) S1 := by
  have ml : ∀ {v' : Int32} {Sf : cS}, Bod (d + 11) 334 0 [(0, .ref 61), (1, .int (nI ind)), (2, .int (nI z))] [] S (some (.int v')) Sf → Ans (d + 12) 334 [.ref 61, .int (nI ind), .int (nI z)] S (some (.int v')) Sf := fun p => Ans.of (by rw [ml_334]; exact Nat.le_of_ble_eq_true rfl) p
  by_cases e : qK β n q = 13
  · have e2 : qK β n (q + 1) ≠ 2 := fun z => hbad ⟨e, z⟩
    have c1 := z_tkT (d := d + 8) (K := 13) hX h ha hq (by decide) e
    have hq1 : q + 1 ≤ k1 := q_end hX hq (by omega)
    obtain ⟨q1, q2, q3, q4⟩ := rm_gt (β := β) (n := n) (k := q) (by omega)
    obtain ⟨b1, b2⟩ := z_nlF (d := d + 2) (W := W) hX (zE_wI (i := 6115) (x := nI (q + 1)) h (by decide)) (rIe _ _ _) ((rIn _ _ (by decide)).trans hf) hq1 e2 hw ht hfW
    have ef : fl β n (q + 1) = flq (qL β n k) := by rw [← hL, ← q3]; rfl
    rw [ef] at b1 b2
    exact ⟨_, ml (zBl_5 (d := d + 3) hind (by omega) c1 b1), b2⟩
  · obtain ⟨b1, b2⟩ := z_tkF (d := d + 8) (W := W) (K := 13) hX h ha hf hq (by decide) e hw ht hfW
    have ef : fl β n q = flq (qL β n k) := by rw [← hL]; rfl
    rw [ef] at b1 b2
    exact ⟨_, ml (zBl_6 (d := d + 3) hind (by omega) b1), b2⟩
/-- from place 360, the block's answer bad -/
theorem df_r0 {ind lb r F' nl nl' tr L lh : Nat} {Se S1 : cS} (h : zE own0 m u S0 H B0 c w t (f + 1) b Se) (hind : ind < 2 ^ 20) (hlb : lb < 2) (hr : r < 90000) (hf : f < 2 ^ 18) (hlh : lh < 2 ^ 20) (hF : sI Se 6122 = nI F') (hFM : F' < 15) (h75 : sA Se 75 F' = nI nl) (hnl : sI Se 6123 = nI nl') (hnn : nl ≤ nl') (hM : nl' < 6000) (htr : sI Se 6127 = nI tr) (mtr : tr < 14) (hL : sI Se 6126 = nI L) (mL : L < 30) (hA : Ans (d + 12) 334 [.ref 61, .int (nI ind), .int (nI 0)] (wI 6126 (nI (L + 1)) (wA 77 L (Int32.ofInt (-1)) (wI 6127 (nI 0) (wA (vR Se (100 * m + 10)) f (nI (nl' - nl)) Se)))) (some (.int (nI 0))) S1) : ∀ lv1 : sm_L, sm_get lv1 0 = some (.ref 61) → sm_get lv1 1 = some (.int (nI ind)) → sm_get lv1 2 = some (.int (nI lb)) → sm_get lv1 3 = some (.int (nI r)) → sm_get lv1 4 = some (.int (nI f)) → sm_get lv1 6 = some (.int (nI lh)) → Bod (d + 12) 336 360 lv1 [] Se (some (.int 0)) S1 := fun lv1 q0 q1 q2 q3 q4 q6 => by
  obtain ⟨g7, g8, g9, g10, N, v7, v8, v9, v10, k8, k9, k10, fN, n78, n79, n710, n89, n810, n910, N4⟩ := zE_dg h
  obtain ⟨m1, m2, m3, m4, m5, m6⟩ := zE_m h
  rw [vR_eq v10] at hA
  exact zDr_3 (d := d + 4) q0 q1 q2 q3 q4 q6 hind (by omega) (by omega) (by omega) hlh m1 m3 m2 v10 k10 (by omega) hnl hM hF hFM h75 (by omega) hnn (by omega) htr mtr hL mL hA
/-- a function's head that no block follows -/
theorem df_bad {q ind lb r nl no k tr L U : Nat} {l2 : List Int32} (hX : zX β n V own0 m k1 S0) (hEb : zE own0 m u S0 H B0 c w t (f + 1) b Sb) (hP : zPs own0 m u S0 H B0 c w t (f + 1) b F nl l2 q Sb Sp) (hF : sI Sb 6122 = nI F) (hFM : F < 15) (h75 : sA Sb 75 F = nI nl) (hno : sI Sb 6137 = nI no) (h7 : qK β n q = 7) (hbad : ¬(qK β n (q + 1) = 13 ∧ qK β n (q + 1 + 1) = 2)) (hq : q ≤ k1) (hcH : c + 2 ≤ H) (hH : H ≤ 40000) (hfM : f < 2 ^ 18) (hind : ind < 2 ^ 20) (hlb : lb < 2) (hr : r < 90000) (hl8 : l2.length ≤ 8) (hk : k < k1) (hK : qK β n k = 46) (hI : qI β n k = ind) (htk : ∀ j, k ≤ j → j < q + 1 → 3 ≤ qK β n j) (hkk : k + 4 + 2 * l2.length ≤ q + 1 + 1) (hU1 : nl ≤ U) (hU2 : no ≤ U) (hU : U + (enR (qK β n) (qI β n) (qI β n k) 6001 (nxK (qK β n) 6001 k) - k) ≤ 6000) (hnl8 : nl + l2.length < 6000) (htr : sI Sb 6127 = nI tr) (mtr : tr < 14) (hL : sI Sb 6126 = nI L) (mL : L < 30) (hw : w ≤ W) (ht : t ≤ W) (hfW : f + 1 ≤ W) : ∃ Sf, (∀ lv : sm_L, sm_get lv 0 = some (.ref 61) → sm_get lv 1 = some (.int (nI ind)) → sm_get lv 2 = some (.int (nI lb)) → sm_get lv 3 = some (.int (nI r)) → sm_get lv 4 = some (.int (nI f)) → sm_get lv 5 = some (.int (nI 0)) → Bod (d + 12) 336 131 lv [] Sp (some (.int 0)) Sf) ∧ zB own0 m u S0 H B0 W (flq (qL β n k)) Sf := by
  have hq1 : q + 1 ≤ k1 := q_end hX hq (by omega)
  obtain ⟨y1, y2, y3, y4⟩ := rm_run (β := β) (n := n) (k := k) (k1 := q + 1) (by omega) htk
  -- what the block says
  have key : ∀ (Se : cS) (nl' : Nat), zE own0 m u S0 H B0 (c + 2) w t (f + 1) b Se → sI Se 6115 = nI (q + 1) → sI Se 6116 = nI 0 → sI Se 6123 = nI nl' → nl ≤ nl' → nl' < 6000 → (∀ i, i < 10800 → i ≠ 6115 → i ≠ 6116 → i ≠ 6131 → i ≠ 6132 → i ≠ 6123 → i ≠ 6137 → sI Se i = sI Sb i) → sA Se 75 F = nI nl → ∃ Sf, (∀ lv1 : sm_L, sm_get lv1 0 = some (.ref 61) → sm_get lv1 1 = some (.int (nI ind)) → sm_get lv1 2 = some (.int (nI lb)) → sm_get lv1 3 = some (.int (nI r)) → sm_get lv1 4 = some (.int (nI f)) → sm_get lv1 6 = some (.int (nI (c + 1))) → Bod (d + 12) 336 360 lv1 [] Se (some (.int 0)) Sf) ∧ zB own0 m u S0 H B0 W (flq (qL β n k)) Sf := by
    intro Se nl' h1 h2 h3 h4 h5 h6 h7' h8
    obtain ⟨x1, x2, x3, x4, x5, x6, x7, x8, x9⟩ := zE_wD (j := 10) (i := f) (x := nI (nl' - nl)) h1 (by decide)
    have hEk : zE own0 m u S0 H B0 (c + 2) w t (f + 1) b (wI 6126 (nI (L + 1)) (wA 77 L (Int32.ofInt (-1)) (wI 6127 (nI 0) (wA (vR Se (100 * m + 10)) f (nI (nl' - nl)) Se)))) := zE_wI (zE_wA (zE_wI x1 (by decide)) (by decide)) (by decide)
    obtain ⟨S1, hA, hB⟩ := blk_bad (d := d) (ind := ind) (z := 0) (q := q + 1) (k := k) (W := W) hX hEk h2 h3 hq1 hw ht hfW hbad y2 (by decide) hind
    exact ⟨S1, df_r0 h1 hind hlb hr hfM (by omega) (by rw [h7' _ (by decide) (by decide) (by decide) (by decide) (by decide) (by decide) (by decide)]; exact hF) hFM h8 h4 h5 h6 (by rw [h7' _ (by decide) (by decide) (by decide) (by decide) (by decide) (by decide) (by decide)]; exact htr) mtr (by rw [h7' _ (by decide) (by decide) (by decide) (by decide) (by decide) (by decide) (by decide)]; exact hL) mL hA, hB⟩
  by_cases e : (6 ≤ qK β n (q + 1) ∧ qK β n (q + 1) < 40) ∧ qK β n (q + 1 + 1) = 2
  · obtain ⟨e1, e2⟩ := e
    have hq2 : q + 1 + 1 ≤ k1 := q_end hX hq1 (by omega)
    have hq3 : q + 1 + 1 < k1 := q_end (k := q + 1 + 1) hX hq2 (by omega)
    obtain ⟨C, C1, C2, C3, C4⟩ := df_cnt (V := V) (l2 := l2) (k2 := q + 1) (ind := ind) (zX_Tk hX) hk hK hI e1.1 e2 htk hkk hq3 hU
    have p3 := (scn2_le (qK β n) (qI β n) V ind l2.length 6001 (q + 3) none (scn1 (qK β n) (qI β n) V ind 6001 (q + 3) none l2, [])).1
    have C1' : (scn1 (qK β n) (qI β n) V ind 6001 (q + 3) none l2).length ≤ C := C1
    have C2' : (scn2 (qK β n) (qI β n) V ind l2.length 6001 (q + 3) none (scn1 (qK β n) (qI β n) V ind 6001 (q + 3) none l2, [])).2.length ≤ C := C2
    have p3' : (scn2 (qK β n) (qI β n) V ind l2.length 6001 (q + 3) none (scn1 (qK β n) (qI β n) V ind 6001 (q + 3) none l2, [])).1.length ≤ (scn1 (qK β n) (qI β n) V ind 6001 (q + 3) none l2).length := p3
    obtain ⟨Se, hB, g1, g2, g3, g4, g5, g6, g7, g8, g9, g10, g11, g12, -⟩ := df_2 (d := d) (P := fun _ _ => (0, 0)) (lb := lb) (r := r) hX hEb hP hF hFM h75 hno h7 e1 e2 hq hcH hH hfM hind hlb hr hl8 (by omega) (by omega)
    obtain ⟨Sf, k1', k2'⟩ := key Se _ g1 g2 g3 g4 (Nat.le_add_right _ _) (by omega) g6 (by rw [g12 75 (by decide) (by decide) (by decide) (by decide) (by decide) (by decide) (by decide)]; exact h75)
    exact ⟨Sf, fun lv q0 q1 q2 q3 q4 q5 => hB lv _ _ q0 q1 q2 q3 q4 q5 k1', k2'⟩
  · have e' : ¬(6 ≤ qK β n (q + 1) ∧ qK β n (q + 1) < 40) ∨ qK β n (q + 1 + 1) ≠ 2 := by
      rcases Decidable.em (6 ≤ qK β n (q + 1) ∧ qK β n (q + 1) < 40) with z | z
      · exact Or.inr (fun z2 => e ⟨z, z2⟩)
      · exact Or.inl z
    obtain ⟨Se, hB, g1, g2, g3, g4, g6, g8⟩ := df_2n (d := d) (no := no) (lb := lb) (r := r) hX hEb hP hF hFM h75 h7 e' hq hcH hH hfM hind hlb hr hl8
    obtain ⟨Sf, k1', k2'⟩ := key Se _ g1 g2 g3 g4 (Nat.le_add_right _ _) hnl8 g6 g8
    exact ⟨Sf, fun lv q0 q1 q2 q3 q4 q5 => hB lv _ _ q0 q1 q2 q3 q4 q5 k1', k2'⟩
end
