/-! STATEMENTS OF THE REFERENCE: def: its head -/
section
variable {β : Nat → Nat} {n : Nat} {E : Nat → Nat → Bool} {V : Nat → Int32} {T : Nat → Nat × Nat} {own0 : Nat → Nat × Nat} {m u k1 : Nat} {S0 Sb S S1 S2 : cS} {H B0 W d c w t f b a F s : Nat} {l : List Int32} {X : Nat → Nat}
theorem zX_Tk (hX : zX β n V own0 m k1 S0) : zTk β n k1 := ⟨hX.2.1, hX.2.2.1, hX.2.2.2.1⟩
/-- room for the names of the function at k -/
theorem sc_room {K : Nat → Nat} {A : Prop} {sc : SCs} {nl no ind k : Nat} (h : zSc (qK β n) (qI β n) E V T A sc s F nl no ind k S) (hK : qK β n k = 46) (hls : qK β n (k - 1) = 2 ∨ k = 0) (hI : qI β n k = ind) : ∃ U, nl ≤ U ∧ no ≤ U ∧ U + (enR (qK β n) (qI β n) (qI β n k) 6001 (nxK (qK β n) 6001 k) - k) ≤ 6000 := by
  obtain ⟨ls, os, a, b, pm, ch, q, U, c0, cF, cn, ⟨u1, u2, u3⟩, hr, hu, hf⟩ := h
  exact ⟨U, u1, u2, hu k hK hls (fun hF => rgn_S (hr hF (by omega) (by omega)) (Or.inr hls))⟩
theorem df_room {U nl k : Nat} (hX : zX β n V own0 m k1 S0) (hk : k ≤ k1) (hK : qK β n k ≠ 1) (hU : nl ≤ U) (h : U + (enR (qK β n) (qI β n) (qI β n k) 6001 (nxK (qK β n) 6001 k) - k) ≤ 6000) : ∀ r, (∀ j, k ≤ j → j < r → 3 ≤ qK β n j) → r ≤ k1 → nl + (r - k) < 6000 := fun r hr hrk => by
  obtain ⟨r0, r1, r2, r3, r4, r5⟩ := nx_1 (zX_Tk hX) hk hK
  have he := (enR_1 (zX_Tk hX) (qI β n k) 6001 (r0 + 1) r2).1
  rw [r5] at h
  have : r ≤ r0 := by
    rcases Nat.lt_or_ge r0 r with e | e
    · have := hr r0 r1 e
      omega
    · exact e
  omega
theorem scF_fr {sc : SCs} {x : Nat × Nat × Nat × Nat} (h : wfS sc) (j : Nat) : scF E (sc.1 ++ [x], sc.2) sc.1.length j = none := by
  unfold scF
  rw [List.find?_eq_none]
  intro e he hb
  have h1 := h e he
  rw [Bool.and_eq_true] at hb
  have h2 := Nat.beq_eq.mp hb.1
  omega
/-- a function's head, up to its ) -/
theorem df_1 {z dp ind tr af k ca lb : Nat} {opn : Nat → Nat} {lp : LpT} {sc : SCs} {at' : List Nat} (hX : zX β n V own0 m k1 S0) (hE : eqV E (qK β n) V) (h : zIs β n E V T own0 m u k1 S0 H B0 W z opn dp ind s lp tr sc at' X af c w t b k S) (hK : qK β n k = 46) (hlb : lb < 2) : (¬(qK β n (k + 1) = 3 ∧ qK β n (k + 2) = 6 ∧ psPs (qK β n) E sc.1.length (sc.1 ++ [(s, ca, c + 2, k + 1)], sc.2) (k + 3) ≠ none) ∧ ∃ Sf, Bod (d + 11) 336 0 [(0, .ref 61), (1, .int (nI ind)), (2, .int (nI lb))] [] S (some (.int 0)) Sf ∧ zB own0 m u S0 H B0 W (flq (qL β n k)) Sf) ∨ (qK β n (k + 1) = 3 ∧ qK β n (k + 2) = 6 ∧ ∃ k2 sc2 l2 Sb Sp r, psPs (qK β n) E sc.1.length (sc.1 ++ [(s, ca, c + 2, k + 1)], sc.2) (k + 3) = some (k2, sc2, l2.length) ∧ V (k + 1) = nI r ∧ r < 90000 ∧ (∀ (v : Option Value) (Sf : cS), (∀ lv1 : sm_L, sm_get lv1 0 = some (.ref 61) → sm_get lv1 1 = some (.int (nI ind)) → sm_get lv1 2 = some (.int (nI lb)) → sm_get lv1 3 = some (.int (nI r)) → sm_get lv1 4 = some (.int (nI (sc.1.length - 1))) → sm_get lv1 5 = some (.int (nI 0)) → Bod (d + 11) 336 131 lv1 [] Sp v Sf) → Bod (d + 11) 336 0 [(0, .ref 61), (1, .int (nI ind)), (2, .int (nI lb))] [] S v Sf) ∧ zPs own0 m u S0 H B0 c w t (sc.1.length - 1 + 1) b (X 1 + 1) (X 3) l2 (k2 - 1) Sb Sp ∧ l2 = prmL (qK β n) V 9 (k + 3) ∧ k2 = hdE (qK β n) V (k + 1) ∧ l2.length ≤ 8 ∧ k + 4 + 2 * l2.length ≤ k2 + 1 ∧ qK β n (k2 - 1) = 7 ∧ scR1 E (qK β n) V sc.1.length l2 sc2 ∧ scO E sc.1.length (sc.1 ++ [(s, ca, c + 2, k + 1)], sc.2) sc2 ∧ (∀ j, k ≤ j → j < k2 → 3 ≤ qK β n j) ∧ k + 4 ≤ k2 ∧ (sI Sb 6122 = nI (X 1 + 1) ∧ (∀ i, i ≠ 6115 → i ≠ 6122 → i ≠ 100 * m + 11 → sI Sb i = sI S i)) ∧ (∀ i, sA Sb 75 i = if i = X 1 + 1 then nI (X 3) else sA S 75 i) ∧ (∀ i, sA Sb 83 i = if i = X 1 + 1 then nI (X 4) else sA S 83 i) ∧ (∀ i, sA Sb 76 i = if i = X 1 + 1 then nI 0 else sA S 76 i) ∧ (∀ x, 67 ≤ x → x < 108 → x ≠ 79 → x ≠ 80 → x ≠ 75 → x ≠ 83 → x ≠ 76 → sA Sb x = sA S x) ∧ kW m c w t (sc.1.length - 1) b S Sb ∧ dNm Sb m (sc.1.length - 1) = V (k + 1) ∧ bkA Sb = bkA S ∧ bkL Sb = bkL S ∧ zE own0 m u S0 H B0 c w t (sc.1.length - 1 + 1) b Sb) := by
  obtain ⟨h0, ⟨r1, r2, r3, r4⟩, hls, hK1, hI, hx1, hx2, hx3⟩ := h
  obtain ⟨h1, h2, h3, h4, h5, h6, h7, h8, h9, h10, h11, h12, h13⟩ := id h0
  obtain ⟨⟨c01, c02, c03, c04, c05⟩, ⟨c11, c12⟩, -, -, c4, c5, -, -, -, c9, c10⟩ := id h4
  have hk1 := hX.2.1
  have hm1 := hX.2.2.2.2.1
  obtain ⟨U, u1, u2, u3⟩ := sc_room (K := qK β n) c9 hK hls hI
  have hwf : wfS sc := by
    obtain ⟨ls, os, a, b, pm, ch, q, U, c0, -⟩ := c9
    exact c0.2
  have hroom := df_room hX h7 hK1 u1 u3
  have hiM := k_i (k := k) hX
  have hk2 := q_end hX h7 hK1
  obtain ⟨q1, q2, q3, q4⟩ := rm_gt (β := β) (n := n) (k := k) (by omega)
  obtain ⟨q5, q6⟩ := rem_ge hK1
  have hEa : zE own0 m u S0 H B0 c w t (sc.1.length - 1) b (wI 6115 (nI (k + 1)) S) := zE_wI h1 (by decide)
  obtain ⟨t1, -, -, -, t5, t6, -, -⟩ := z_tok hX hEa hk2
  have hlt := rkd_lt (qK β n (k + 1))
  have ffa : sI (wI 6115 (nI (k + 1)) S) 6116 = nI 0 := (rIn _ _ (by decide)).trans h3
  by_cases e3 : qK β n (k + 1) = 3
  rotate_left
  · obtain ⟨b1, b2⟩ := z_bad (d := d + 9) (W := W) (j := k + 1) hX hEa (rIe _ _ _) ffa hk2 h9 h10 h11
    have ef : fl β n (k + 1) = flq (qL β n k) := by rw [← q3]; rfl
    rw [ef] at b1 b2
    exact Or.inl ⟨fun q => e3 q.1, _, zDf_4 (d := d + 3) (by omega) (by omega) h2 (by omega) t1 (by omega) (fun q => e3 (rkd_1.mp q)) b1, b2⟩
  obtain ⟨r, hr, hV⟩ := t6 e3
  have htk1 : ∀ j, k ≤ j → j < k + 2 → 3 ≤ qK β n j := fun j a1 a2 => by
    rcases (show j = k ∨ j = k + 1 by omega) with rfl | rfl <;> omega
  have hk3 : k + 2 ≤ k1 := q_end hX hk2 (by omega)
  obtain ⟨S1, hA1, g1, g2, g3, g4, g5, g6, g7, g8⟩ := zE_def (d := d + 2) (x := nI r) hX hEa (by omega)
  have hi1 : sI S1 6115 = nI (k + 1) := (g4 _ (by omega)).trans (rIe _ _ _)
  have hf1 : sI S1 6116 = nI 0 := (g4 _ (by omega)).trans ffa
  have hEb : zE own0 m u S0 H B0 c w t (sc.1.length - 1 + 1) b (wI 6115 (nI (k + 1 + 1)) S1) := zE_wI g1 (by decide)
  have hfW : sc.1.length - 1 + 1 ≤ W := by omega
  obtain ⟨m1, m2, m3, m4, m5, m6⟩ := zE_m h1
  have cA : Ans (d + 11) 337 [.ref m, .int (nI r)] (wI 6115 (nI (k + 1)) S) (some (.int (nI (sc.1.length - 1)))) S1 := hA1
  by_cases e6 : qK β n (k + 2) = 6
  rotate_left
  · obtain ⟨b1, b2⟩ := z_tkF (d := d + 8) (W := W) (K := 6) hX hEb (rIe _ _ _) ((rIn _ _ (by decide)).trans hf1) hk3 (by decide) e6 h9 h10 hfW
    obtain ⟨y1, y2, y3, y4⟩ := rm_run (β := β) (n := n) (k := k) (k1 := k + 2) (by omega) htk1
    have ef : fl β n (k + 2) = flq (qL β n k) := by rw [← y2]; rfl
    rw [ef] at b1 b2
    exact Or.inl ⟨fun q => e6 q.2.1, _, zDf_3 (d := d + 3) (a := sc.1.length - 1) (by omega) (by omega) h2 (by omega) t1 (by omega) (rkd_1.mpr e3) (t5.trans hV) (by omega) m1 m3 (by omega) cA m2 hi1 (by omega) b1, b2⟩
  have c2 := z_tkT (d := d + 8) (K := 6) hX hEb (rIe _ _ _) hk3 (by decide) e6
  have eW : wI 6115 (nI (k + 2 + 1)) (wI 6115 (nI (k + 1 + 1)) S1) = wI 6115 (nI (k + 3)) S1 := wI_wI _ _ _ _
  have hk4 : k + 3 ≤ k1 := q_end hX hk3 (by omega)
  obtain ⟨S2, hS2⟩ : ∃ S2, S2 = wI 6115 (nI (k + 3)) S1 := ⟨_, rfl⟩
  have c2' : Ans (d + 11) 323 [.ref 61, .int (nI 40)] (wI 6115 (nI (k + 1 + 1)) S1) (some (.int (nI 1))) S2 := by
    rw [hS2, ← eW]
    exact c2
  have hE2 : zE own0 m u S0 H B0 c w t (sc.1.length - 1 + 1) b S2 := by rw [hS2]; exact zE_wI g1 (by decide)
  have i2 : ∀ i, i ≠ 6115 → i ≠ 100 * m + 11 → sI S2 i = sI S i := fun i i1 i3 => by
    rw [hS2, rIn _ _ i1, g4 i i3, rIn _ _ i1]
  have a2 : ∀ x, 67 ≤ x → x < 108 → x ≠ 79 → x ≠ 80 → sA S2 x = sA S x := fun x x1 x2 x3 x4 => by
    rw [hS2]
    exact g5 x x1 x2 x3 x4
  obtain ⟨Sb, hSb⟩ : ∃ Sb, Sb = wA 76 (X 1 + 1) (nI 0) (wA 83 (X 1 + 1) (nI (X 4)) (wA 75 (X 1 + 1) (nI (X 3)) (wI 6122 (nI (X 1 + 1)) S2))) := ⟨_, rfl⟩
  have hEs : zE own0 m u S0 H B0 c w t (sc.1.length - 1 + 1) b Sb := by
    rw [hSb]
    exact zE_wA (zE_wA (zE_wA (zE_wI hE2 (by decide)) (by decide)) (by decide)) (by decide)
  have bA : ∀ x, x ≠ 75 → x ≠ 83 → x ≠ 76 → sA Sb x = sA S2 x := fun x x1 x2 x3 => by
    rw [hSb, rAn _ _ _ x3, rAn _ _ _ x2, rAn _ _ _ x1]
    rfl
  have b75 : ∀ i, sA Sb 75 i = if i = X 1 + 1 then nI (X 3) else sA S 75 i := fun i => by
    rw [hSb, rAn _ _ _ (show (75 : Nat) ≠ 76 by decide), rAn _ _ _ (show (75 : Nat) ≠ 83 by decide)]
    show (if 75 = 75 then upd (sA S2 75) (X 1 + 1) (nI (X 3)) else sA S2 75) i = _
    rw [if_pos rfl, upd_at, a2 75 (by decide) (by decide) (by decide) (by decide)]
  have b83 : ∀ i, sA Sb 83 i = if i = X 1 + 1 then nI (X 4) else sA S 83 i := fun i => by
    have e0 : sA (wA 75 (X 1 + 1) (nI (X 3)) (wI 6122 (nI (X 1 + 1)) S2)) 83 = sA S2 83 := rAn _ _ _ (show (83 : Nat) ≠ 75 by decide)
    rw [hSb, rAn _ _ _ (show (83 : Nat) ≠ 76 by decide)]
    show (if 83 = 83 then upd (sA (wA 75 (X 1 + 1) (nI (X 3)) (wI 6122 (nI (X 1 + 1)) S2)) 83) (X 1 + 1) (nI (X 4)) else sA (wA 75 (X 1 + 1) (nI (X 3)) (wI 6122 (nI (X 1 + 1)) S2)) 83) i = _
    rw [if_pos rfl, upd_at, e0, a2 83 (by decide) (by decide) (by decide) (by decide)]
  have b76 : ∀ i, sA Sb 76 i = if i = X 1 + 1 then nI 0 else sA S 76 i := fun i => by
    have e0 : sA (wA 83 (X 1 + 1) (nI (X 4)) (wA 75 (X 1 + 1) (nI (X 3)) (wI 6122 (nI (X 1 + 1)) S2))) 76 = sA S2 76 := by
      rw [rAn _ _ _ (show (76 : Nat) ≠ 83 by decide), rAn _ _ _ (show (76 : Nat) ≠ 75 by decide)]
      rfl
    rw [hSb]
    show (if 76 = 76 then upd (sA (wA 83 (X 1 + 1) (nI (X 4)) (wA 75 (X 1 + 1) (nI (X 3)) (wI 6122 (nI (X 1 + 1)) S2))) 76) (X 1 + 1) (nI 0) else sA (wA 83 (X 1 + 1) (nI (X 4)) (wA 75 (X 1 + 1) (nI (X 3)) (wI 6122 (nI (X 1 + 1)) S2))) 76) i = _
    rw [if_pos rfl, upd_at, e0, a2 76 (by decide) (by decide) (by decide) (by decide)]
  have bI : ∀ i, i ≠ 6122 → sI Sb i = sI S2 i := fun i hi => by
    rw [hSb]
    exact rIn _ _ hi
  have bF : sI Sb 6122 = nI (X 1 + 1) := by
    rw [hSb]
    show sI (wI 6122 (nI (X 1 + 1)) S2) 6122 = _
    exact rIe _ _ _
  have kb : kF S2 Sb := by
    rw [hSb]
    exact kF_trans (kF_trans (kF_trans kF_wI (kF_wA (by decide))) (kF_wA (by decide))) (kF_wA (by decide))
  obtain ⟨kb1, ⟨kb2, kb3, kb4, kb5⟩, kb6, kb7⟩ := kF_all hE2 kb
  have k12 : kF S1 S2 := by rw [hS2]; exact kF_wI
  obtain ⟨ka1, ⟨ka2, ka3, ka4, ka5⟩, ka6, ka7⟩ := kF_all g1 k12
  have k0 : kF S (wI 6115 (nI (k + 1)) S) := kF_wI
  obtain ⟨kc1, ⟨kc2, kc3, kc4, kc5⟩, kc6, kc7⟩ := kF_all h1 k0
  have hkW : kW m c w t (sc.1.length - 1) b S Sb := kW_trans (kW_trans (kF_kW h1 k0) g2 (Nat.le_refl _) (Nat.le_refl _) (Nat.le_refl _) (Nat.le_refl _) (Nat.le_refl _)) (kW_trans (kF_kW (c' := c) (w' := w) (t' := t) (f' := sc.1.length - 1) (b' := b) g1 k12) (kF_kW hE2 kb) (Nat.le_refl _) (Nat.le_refl _) (Nat.le_refl _) (Nat.le_refl _) (Nat.le_refl _)) (Nat.le_refl _) (Nat.le_refl _) (Nat.le_refl _) (Nat.le_refl _) (Nat.le_refl _)
  have hnm : dNm Sb m (sc.1.length - 1) = V (k + 1) := by rw [kb2, ka2, g3, hV]
  have hP0 : zPs own0 m u S0 H B0 c w t (sc.1.length - 1 + 1) b (X 1 + 1) (X 3) [] (k + 3) Sb Sb := ⟨hEs, by rw [bI _ (by decide), hS2]; exact rIe _ _ _, by rw [bI _ (by decide), hS2, rIn _ _ (by decide)]; exact hf1, by rw [bI _ (by decide), i2 _ (by decide) (by omega)]; exact c4, (fun i y hy => by cases hy), fun _ _ => rfl, fun i => by
    by_cases e : i = X 1 + 1
    · rw [if_pos e, b76, if_pos e]
      rfl
    · rw [if_neg e], fun _ _ _ => rfl, fun _ _ _ => rfl, rfl, rfl⟩
  have mF : X 1 < 15 := by omega
  have hnl6 : X 3 < 6000 := by have := hroom k (fun j a1 a2 => by omega) h7; omega
  have hno6 : X 4 < 6000 := by have := (df_room hX h7 hK1 u2 u3) k (fun j a1 a2 => by omega) h7; omega
  have hFS2 : sI S2 6122 = nI (X 1) := (i2 _ (by decide) (by omega)).trans c11
  have hnS : sI (wI 6122 (nI (X 1 + 1)) S2) 6123 = nI (X 3) := (rIn _ _ (by decide)).trans ((i2 _ (by decide) (by omega)).trans c4)
  have hoS : sI (wA 75 (X 1 + 1) (nI (X 3)) (wI 6122 (nI (X 1 + 1)) S2)) 6137 = nI (X 4) := by
    show sI (wI 6122 (nI (X 1 + 1)) S2) 6137 = _
    exact (rIn _ _ (by decide)).trans ((i2 _ (by decide) (by omega)).trans c5)
  have htk2 : ∀ j, k ≤ j → j < k + 3 → 3 ≤ qK β n j := fun j a1 a2 => by
    rcases (show j = k ∨ j = k + 1 ∨ j = k + 2 by omega) with rfl | rfl | rfl <;> omega
  have hrest : (sI Sb 6122 = nI (X 1 + 1) ∧ (∀ i, i ≠ 6115 → i ≠ 6122 → i ≠ 100 * m + 11 → sI Sb i = sI S i)) ∧ (∀ i, sA Sb 75 i = if i = X 1 + 1 then nI (X 3) else sA S 75 i) ∧ (∀ i, sA Sb 83 i = if i = X 1 + 1 then nI (X 4) else sA S 83 i) ∧ (∀ i, sA Sb 76 i = if i = X 1 + 1 then nI 0 else sA S 76 i) ∧ (∀ x, 67 ≤ x → x < 108 → x ≠ 79 → x ≠ 80 → x ≠ 75 → x ≠ 83 → x ≠ 76 → sA Sb x = sA S x) ∧ kW m c w t (sc.1.length - 1) b S Sb ∧ dNm Sb m (sc.1.length - 1) = V (k + 1) ∧ bkA Sb = bkA S ∧ bkL Sb = bkL S ∧ zE own0 m u S0 H B0 c w t (sc.1.length - 1 + 1) b Sb := ⟨⟨bF, fun i i1 i3 i4 => (bI i i3).trans (i2 i i1 i4)⟩, b75, b83, b76, fun x x1 x2 x3 x4 x5 x6 x7 => (bA x x5 x6 x7).trans (a2 x x1 x2 x3 x4), hkW, hnm, by rw [kb6, ka6, g7, kc6], by rw [kb7, ka7, g8, kc7], hEs⟩
  have hR0 : scR1 E (qK β n) V sc.1.length [] (sc.1 ++ [(s, ca, c + 2, k + 1)], sc.2) := fun j _ => by
    rw [scF_fr hwf j]
    exact ⟨⟨(fun _ q => by cases q), fun _ => rfl⟩, (fun e he => by cases he)⟩
  by_cases e7 : qK β n (k + 3) = 7
  · have c3 : Ans (d + 11) 314 [.ref 61, .int (nI 41)] Sb (some (.int (nI 1))) Sb := z_sgT (d := d + 10) (K := 7) hX hEs hP0.2.1 hk4 (by decide) e7
    have eP : psPs (qK β n) E sc.1.length (sc.1 ++ [(s, ca, c + 2, k + 1)], sc.2) (k + 3) = some (k + 4, (sc.1 ++ [(s, ca, c + 2, k + 1)], sc.2), ([] : List Int32).length) := if_pos e7
    have eL : prmL (qK β n) V 9 (k + 3) = [] := if_neg (by omega)
    have eH : hdE (qK β n) V (k + 1) = k + 4 := if_pos e7
    refine Or.inr ⟨e3, e6, k + 4, (sc.1 ++ [(s, ca, c + 2, k + 1)], sc.2), [], Sb, Sb, r, eP, hV, hr, fun v Sf hB => ?_, hP0, eL.symm, eH.symm, Nat.zero_le _, Nat.le_succ _, e7, hR0, scO_refl _ _ _, fun j a1 a2 => ?_, Nat.le_refl _, hrest⟩
    · rw [hSb] at c3 hB
      exact zDf_1 (d := d + 3) (a := sc.1.length - 1) (by omega) (by omega) h2 (by omega) t1 (by omega) (rkd_1.mpr e3) (t5.trans hV) (by omega) m1 m3 (by omega) cA m2 hi1 (by omega) c2' hFS2 mF hnS hnl6 hoS hno6 c3 hB
    · rcases Nat.lt_or_ge j (k + 3) with e | e
      · exact htk2 j a1 e
      · obtain rfl : j = k + 3 := by omega
        omega
  · have c3 : Ans (d + 11) 314 [.ref 61, .int (nI 41)] Sb (some (.int (nI 0))) Sb := z_sgF (d := d + 10) (K := 7) hX hEs hP0.2.1 hk4 (by decide) e7
    have eP : psPs (qK β n) E sc.1.length (sc.1 ++ [(s, ca, c + 2, k + 1)], sc.2) (k + 3) = psPr (qK β n) E sc.1.length 20 0 (sc.1 ++ [(s, ca, c + 2, k + 1)], sc.2) (k + 3) := if_neg e7
    have eH : hdE (qK β n) V (k + 1) = k + 1 + 2 + 2 * (prmL (qK β n) V 9 (k + 1 + 2)).length := if_neg e7
    have hL := prm_L (d := d) (la := ind) (lb := lb) (lnm := r) (lf := sc.1.length - 1) (k0 := k) (sc0 := (sc.1 ++ [(s, ca, c + 2, k + 1)], sc.2)) (s := sc.1.length) hX h7 hE h9 h10 hfW bF (by omega) (show sA Sb 75 (X 1 + 1) = nI (X 3) by rw [b75, if_pos rfl]) hroom (by omega) (by omega) (by omega) (by omega) 20 [] (sc.1 ++ [(s, ca, c + 2, k + 1)], sc.2) (k + 3) Sb hP0 (Nat.zero_le _) (by show 9 < 0 + 20; decide) hR0 (scO_refl _ _ _) (by show k + 1 + 0 ≤ _; omega) htk2
    rcases hL with ⟨p1, Sf, p2, p3⟩ | ⟨k2, sc2, l2, Sp, p1, p2, p3, p4, p5, p6, p7, p8, p9, p10, p11⟩
    · refine Or.inl ⟨fun q => q.2.2 (by rw [eP]; exact p1), Sf, ?_, p3⟩
      rw [hSb] at c3 p2
      exact zDf_2 (d := d + 3) (a := sc.1.length - 1) (by omega) (by omega) h2 (by omega) t1 (by omega) (rkd_1.mpr e3) (t5.trans hV) (by omega) m1 m3 (by omega) cA m2 hi1 (by omega) c2' hFS2 mF hnS hnl6 hoS hno6 c3 p2
    · have p4' : l2 = prmL (qK β n) V 9 (k + 3) := p4
      have p7' : k2 + 2 * 0 = k + 3 + 2 * l2.length := p7
      have p6' : 0 < l2.length := p6
      refine Or.inr ⟨e3, e6, k2, sc2, l2, Sb, Sp, r, by rw [eP]; exact p1, hV, hr, fun v Sf hB => ?_, p3, p4', ?_, p5, by omega, p8, p9, p10, p11, by omega, hrest⟩
      · rw [hSb] at c3
        refine zDf_2 (d := d + 3) (a := sc.1.length - 1) (by omega) (by omega) h2 (by omega) t1 (by omega) (rkd_1.mpr e3) (t5.trans hV) (by omega) m1 m3 (by omega) cA m2 hi1 (by omega) c2' hFS2 mF hnS hnl6 hoS hno6 c3 (fun lv1 q0 q1 q2 q3 q4 q5 => ?_)
        rw [← hSb]
        exact p2 lv1 v Sf q0 q1 q2 q3 q4 q5 hB
      · rw [eH, ← p4']
        omega
end
