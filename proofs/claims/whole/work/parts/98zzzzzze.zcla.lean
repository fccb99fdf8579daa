/-! STATEMENTS OF THE REFERENCE: class's head; a statement as a whole (301) -/
section
variable {β : Nat → Nat} {n : Nat} {E : Nat → Nat → Bool} {V : Nat → Int32} {T : Nat → Nat × Nat} {P : Nat → Int32 → Int32 × Int32} {A : Prop} {own0 : Nat → Nat × Nat} {m u k1 : Nat} {S0 S S1 S2 : cS} {H B0 W d c w t f b f1 j l s : Nat} {X : Nat → Nat} {o1 os2 : List Op}
theorem z_cls {dp ind tr ca af k F D : Nat} {opn : Nat → Nat} {lp : LpT} {sc : SCs} {at' : List Nat} (hX : zX β n V own0 m k1 S0) (hB : ZB β n E V T own0 m u k1 S0 H B0 W F 1) (h : zIs β n E V T own0 m u k1 S0 H B0 W 0 opn dp ind s lp tr sc at' X af c w t b k S) (hK : qK β n k = 47) (hF : 4 * rem β n k ≤ F + 4) (hD : lvZ dp ≤ D + 1) : ∃ S1 v, Ans D 346 [.ref 61, .int (nI ind)] S (some (.int v)) S1 ∧ zOs β n E V T own0 m u k1 S0 H B0 W 0 opn (dp + 1) ind lp sc at' X af S c w t b k (psCl (qK β n) (qL β n) E (ps (qK β n) (qL β n) (qI β n) E F) dp ind s ca c sc at' k) v S1 := by
  have hlv : lvZ dp = 260 + 4 * (12 - dp) := rfl
  obtain ⟨d, rfl⟩ : ∃ d, D = d + 13 := ⟨D - 13, by omega⟩
  have ml : ∀ {v' : Int32} {Sf : cS}, Bod (d + 12) 346 0 [(0, .ref 61), (1, .int (nI ind))] [] S (some (.int v')) Sf → Ans (d + 13) 346 [.ref 61, .int (nI ind)] S (some (.int v')) Sf := fun p => Ans.of (by rw [ml_346]; exact Nat.le_of_ble_eq_true rfl) p
  obtain ⟨h0, ⟨r1, r2, r3, r4⟩, hls, hK1, hI, hx1, hx2, hx3⟩ := id h
  obtain ⟨h1, h2, h3, h4, h5, h6, h7, h8, h9, h10, h11, h12, h13⟩ := id h0
  obtain ⟨-, -, -, -, -, -, -, ⟨c71, c72, c73, c74⟩, -, -, -⟩ := id h4
  have hk1 := hX.2.1
  have hn3 := hX.1
  have hqn := (q_lt β n k).1
  have hLk := (q_lt β n k).2.2.1
  have hiM := k_i (k := k) hX
  have hk2 := q_end hX h7 hK1
  obtain ⟨-, t2, -, -, -, -, -, -⟩ := z_tok hX h1 h7
  have hE1 : zE own0 m u S0 H B0 c w t (sc.1.length - 1) b (wI 6115 (nI (k + 1)) S) := zE_wI h1 (by decide)
  obtain ⟨s1, -, -, -, s5, s6, -, -⟩ := z_tok hX hE1 hk2
  have hlt := rkd_lt (qK β n (k + 1))
  have ff : ∀ q, sI (wI 6115 (nI q) S) 6116 = nI 0 := fun q => (rIn _ _ (by decide)).trans h3
  have hEq : ∀ q, zE own0 m u S0 H B0 c w t (sc.1.length - 1) b (wI 6115 (nI q) S) := fun q => zE_wI h1 (by decide)
  have hfl : ∀ q, k ≤ q → (∀ j, k ≤ j → j < q → 3 ≤ qK β n j) → fl β n q = flq (qL β n k) := fun q hq htk => by
    obtain ⟨y1, y2, y3, y4⟩ := rm_run (β := β) (n := n) (k := k) (k1 := q) hq htk
    rw [← y2]
    rfl
  have htk1 : ∀ j, k ≤ j → j < k + 1 → 3 ≤ qK β n j := fun j j1 j2 => by
    obtain rfl : j = k := by omega
    omega
  have haf : sI (wI 6115 (nI (k + 1)) S) 6140 = nI af := (rIn _ _ (by decide)).trans c73
  by_cases e3 : qK β n (k + 1) = 3
  rotate_left
  · obtain ⟨b1, b2⟩ := z_bad (d := d + 10) (W := W) (j := k + 1) hX hE1 (rIe _ _ _) (ff _) hk2 h9 h10 h11
    rw [hfl (k + 1) (by omega) htk1] at b1 b2
    refine ⟨_, nI 0, ml (zCl_5 (d := d + 4) (by omega) h2 (by omega) t2 (by omega) s1 (by omega) (fun q => e3 (rkd_1.mp q)) b1), Or.inl ⟨_, ?_, rfl, b2⟩⟩
    unfold psCl
    rw [if_neg e3]
    exact zB_in (q := qL β n k) rfl
  obtain ⟨r, hr, hV⟩ := s6 e3
  have hk3 : k + 2 ≤ k1 := q_end (k := k + 1) hX hk2 (by omega)
  have htk2 : ∀ j, k ≤ j → j < k + 2 → 3 ≤ qK β n j := fun j j1 j2 => by
    rcases (show j = k ∨ j = k + 1 by omega) with rfl | rfl <;> omega
  have eW2 : wI 6115 (nI (k + 2)) (wI 6115 (nI (k + 1)) S) = wI 6115 (nI (k + 2)) S := wI_wI _ _ _ _
  by_cases e6 : qK β n (k + 2) = 6
  · have c1 : Ans (d + 12) 314 [.ref 61, .int (nI 40)] (wI 6115 (nI (k + 2)) (wI 6115 (nI (k + 1)) S)) (some (.int (nI 1))) (wI 6115 (nI (k + 2)) S) := by
      rw [eW2]
      exact z_sgT (d := d + 11) (K := 6) hX (hEq _) (rIe _ _ _) hk3 (by decide) e6
    have hk4 : k + 3 ≤ k1 := q_end (k := k + 2) hX hk3 (by omega)
    have htk3 : ∀ j, k ≤ j → j < k + 3 → 3 ≤ qK β n j := fun j j1 j2 => by
      rcases (show j = k ∨ j = k + 1 ∨ j = k + 2 by omega) with rfl | rfl | rfl <;> omega
    have eW3 : wI 6115 (nI (k + 2 + 1)) (wI 6115 (nI (k + 2)) S) = wI 6115 (nI (k + 3)) S := wI_wI _ _ _ _
    obtain ⟨u1, -, -, -, u5, u6, -, -⟩ := z_tok hX (hEq (k + 3)) hk4
    have hlt3 := rkd_lt (qK β n (k + 3))
    by_cases e3b : qK β n (k + 3) = 3
    · obtain ⟨rb, hrb, hVb⟩ := u6 e3b
      have hk5 : k + 4 ≤ k1 := q_end (k := k + 3) hX hk4 (by omega)
      have htk4 : ∀ j, k ≤ j → j < k + 4 → 3 ≤ qK β n j := fun j j1 j2 => by
        rcases (show j = k ∨ j = k + 1 ∨ j = k + 2 ∨ j = k + 3 by omega) with rfl | rfl | rfl | rfl <;> omega
      have eW4 : wI 6115 (nI (k + 2 + 2)) (wI 6115 (nI (k + 2 + 1)) (wI 6115 (nI (k + 2)) S)) = wI 6115 (nI (k + 4)) S := by rw [wI_wI, wI_wI]
      by_cases e7 : qK β n (k + 4) = 7
      · have c2 : Ans (d + 12) 323 [.ref 61, .int (nI 41)] (wI 6115 (nI (k + 2 + 2)) (wI 6115 (nI (k + 2 + 1)) (wI 6115 (nI (k + 2)) S))) (some (.int (nI 1))) (wI 6115 (nI (k + 5)) S) := by
          rw [eW4]
          have q := z_tkT (d := d + 9) (K := 7) hX (hEq (k + 4)) (rIe _ _ _) hk5 (by decide) e7
          rw [wI_wI] at q
          exact q
        have htk5 : ∀ j, k ≤ j → j < k + 5 → 3 ≤ qK β n j := fun j j1 j2 => by
          rcases Nat.lt_or_ge j (k + 4) with z | z
          · exact htk4 j j1 z
          · obtain rfl : j = k + 4 := by omega
            omega
        obtain ⟨Sf, v, g1, g2⟩ := cl_136 (d := d) (ca := ca) (bb := 1) (q := k + 5) hX hB h hK hF (by omega) e3 hV hr (by omega) htk5 rfl (Or.inr ⟨rfl, by omega, e3b⟩)
        refine ⟨Sf, v, ml (zCl_1 (d := d + 4) (by omega) h2 (by omega) t2 (by omega) s1 (by omega) (rkd_1.mpr e3) (s5.trans hV) (by omega) haf (by omega) c1 (rIe _ _ _) (by omega) (by rw [eW3]; exact u1) (by omega) (rkd_1.mpr e3b) (by rw [eW3]; exact u5.trans hVb) (by omega) c2 (fun lv a0 a1 a2 a3 a4 a5 => g1 lv a0 a1 a2 a3 (by rw [if_pos rfl, hVb]; exact a4) a5)), ?_⟩
        unfold psCl
        rw [if_pos e3, if_pos e6, if_pos ⟨e3b, e7⟩]
        exact g2
      · have hq := z_tkF (d := d + 9) (W := W) (K := 7) hX (hEq (k + 4)) (rIe _ _ _) (ff _) hk5 (by decide) e7 h9 h10 h11
        rw [hfl (k + 4) (by omega) htk4] at hq
        obtain ⟨b1, b2⟩ := hq
        refine ⟨_, nI 0, ml (zCl_2 (d := d + 4) (by omega) h2 (by omega) t2 (by omega) s1 (by omega) (rkd_1.mpr e3) (s5.trans hV) (by omega) haf (by omega) c1 (rIe _ _ _) (by omega) (by rw [eW3]; exact u1) (by omega) (rkd_1.mpr e3b) (by rw [eW3]; exact u5.trans hVb) (by omega) (by rw [eW4]; exact b1)), Or.inl ⟨_, ?_, rfl, b2⟩⟩
        unfold psCl
        rw [if_pos e3, if_pos e6, if_neg (fun z => e7 z.2)]
        exact zB_in (q := qL β n k) rfl
    · obtain ⟨b1, b2⟩ := z_bad (d := d + 10) (W := W) (j := k + 3) hX (hEq (k + 3)) (rIe _ _ _) (ff _) hk4 h9 h10 h11
      rw [hfl (k + 3) (by omega) htk3] at b1 b2
      refine ⟨_, nI 0, ml (zCl_3 (d := d + 4) (by omega) h2 (by omega) t2 (by omega) s1 (by omega) (rkd_1.mpr e3) (s5.trans hV) (by omega) haf (by omega) c1 (rIe _ _ _) (by omega) (by rw [eW3]; exact u1) (by omega) (fun q => e3b (rkd_1.mp q)) (by rw [eW3]; exact b1)), Or.inl ⟨_, ?_, rfl, b2⟩⟩
      unfold psCl
      rw [if_pos e3, if_pos e6, if_neg (fun z => e3b z.1)]
      exact zB_in (q := qL β n k) rfl
  · have c1 : Ans (d + 12) 314 [.ref 61, .int (nI 40)] (wI 6115 (nI (k + 2)) (wI 6115 (nI (k + 1)) S)) (some (.int (nI 0))) (wI 6115 (nI (k + 2)) S) := by
      rw [eW2]
      exact z_sgF (d := d + 11) (K := 6) hX (hEq _) (rIe _ _ _) hk3 (by decide) e6
    obtain ⟨Sf, v, g1, g2⟩ := cl_136 (d := d) (ca := ca) (bb := 0) (q := k + 2) hX hB h hK hF (by omega) e3 hV hr (by omega) htk2 rfl (Or.inl rfl)
    refine ⟨Sf, v, ml (zCl_4 (d := d + 4) (by omega) h2 (by omega) t2 (by omega) s1 (by omega) (rkd_1.mpr e3) (s5.trans hV) (by omega) haf (by omega) c1 (fun lv a0 a1 a2 a3 a4 a5 => g1 lv a0 a1 a2 a3 (by rw [if_neg (by decide)]; exact a4) a5)), ?_⟩
    unfold psCl
    rw [if_pos e3, if_neg e6]
    exact g2
/-- a statement behind its first step -/
theorem ZS0_s {F : Nat} (hX : zX β n V own0 m k1 S0) (hE : eqV E (qK β n) V) (hEr : eqR E) (hB : ZB β n E V T own0 m u k1 S0 H B0 W F 0) (hB1 : ZB β n E V T own0 m u k1 S0 H B0 W F 1) (hIf : ∀ F', F' + 1 = F → ZI β n E V T own0 m u k1 S0 H B0 W F') : ZS β n E V T own0 m u k1 S0 H B0 W (F + 1) 0 := by
  intro opn dp ind s lp tr ca sc at' X af c w t b k S D h hK1 hI hF hD
  have hlv : lvZ dp = 260 + 4 * (12 - dp) := rfl
  obtain ⟨e, rfl⟩ : ∃ e, D = e + 14 := ⟨D - 14, by omega⟩
  obtain ⟨R, hR⟩ : ∃ R, R = ps (qK β n) (qL β n) (qI β n) E F := ⟨_, rfl⟩
  have eP : ps (qK β n) (qL β n) (qI β n) E (F + 1) (umZ 0) dp ind s lp tr ca c sc at' k = stO (qL β n k) k (psS0 (qK β n) (qL β n) (qI β n) E R dp ind s lp tr (ca + 2) (c + 2) sc at' k) := by rw [hR]; rfl
  rw [eP]
  show ∃ S1 v, Ans (e + 14) 301 [.ref 61] S (some (.int v)) S1 ∧ _
  have ml : ∀ {v' : Int32} {Sf : cS}, Bod (e + 13) 301 0 [(0, .ref 61)] [] S (some (.int v')) Sf → Ans (e + 14) 301 [.ref 61] S (some (.int v')) Sf := fun p => Ans.of (by rw [ml_301]; exact Nat.le_of_ble_eq_true rfl) p
  obtain ⟨S1, hA1, z1, kx1, h1⟩ := zIs_st (D := e + 13) hX (Or.inl rfl) h hK1 hI (by omega)
  obtain ⟨h00, hrm0, hls0, -⟩ := h
  have hk1 := hX.2.1
  obtain ⟨g0, ⟨r1, r2, r3, r4⟩, hls, -, -, hx1, hx2, -⟩ := id h1
  obtain ⟨q1, q2, q3, q4, q5, q6, q7, q8, q9, q10, q11, q12, q13⟩ := id g0
  have hs6 : sI S 6115 = nI k := h00.2.1
  have hK2 : qK β n k ≠ 2 := by
    rcases hls with q | q
    · have := q_22 q
      rcases Nat.eq_zero_or_pos k with z | z
      · rw [z]
        exact zq_00
      · rw [show k - 1 + 1 = k by omega] at this
        exact this
    · rw [q]
      exact zq_00
  obtain ⟨-, t2, t3, -, -, -, -, -⟩ := z_tok hX h00.1 q7
  have t70 := t3 hK1 hK2
  rw [hI] at t70
  have hL : (qL β n k) < 2 ^ 20 := by have := (q_lt β n k).2.2.1; have := hX.1; omega
  have hiM := k_i (k := k) hX
  have hq64 := (q_lt β n k).2.2.2.2
  obtain ⟨u1, -, -, -, u5, u6, u7, -⟩ := z_tok hX q1 q7
  have hlt := rkd_lt (qK β n k)
  obtain ⟨w5, w6⟩ := rem_ge hK1
  have fin : ∀ {r : PSr} {v : Int32} {Sf : cS}, zOs β n E V T own0 m u k1 S0 H B0 W 0 opn (dp + 1) ind lp sc at' X af S1 (c + 2) w t b k r v Sf → zOu β n E V T own0 m u k1 S0 H B0 W 0 opn (dp + 1) ind lp sc at' X af S c w t b k (stO (qL β n k) k r) v Sf := fun g => zOu_st z1 kx1 g
  have v01 : ∀ {r : PSr} {v : Int32} {Sf : cS}, zOs β n E V T own0 m u k1 S0 H B0 W 0 opn (dp + 1) ind lp sc at' X af S1 (c + 2) w t b k r v Sf → v = nI 0 ∨ v = nI 1 := fun g => by
    rcases g with ⟨_, _, h, _⟩ | ⟨_, _, h, _⟩
    · exact Or.inl h
    · exact Or.inr h
  by_cases e40 : qK β n k = 40
  · have hw2 : rkd (qK β n k) = 2 := rkd_2.mpr (by omega)
    have h68 := u5.trans (u7 (by omega))
    obtain ⟨F', hF'⟩ : ∃ F', F' + 1 = F := ⟨F - 1, by omega⟩
    obtain ⟨S2, v, hA, hO⟩ := z_if (D := e + 13) (ca := ca + 2) hX (hIf F' hF') h1 e40 (by omega) (by omega)
    have hPs : psS0 (qK β n) (qL β n) (qI β n) E R dp ind s lp tr (ca + 2) (c + 2) sc at' k = psI (qK β n) (qL β n) (qI β n) (ps (qK β n) (qL β n) (qI β n) E F') dp ind s lp tr (ca + 2) (c + 2) sc at' k := by
      unfold psS0
      rw [if_pos e40, hR, ← hF']
      rfl
    rw [hPs]
    rcases v01 hO with hv | hv
    · rw [hv] at hA
      exact ⟨S2, v, by rw [hv]; exact ml (zSt_2 (d := e + 5) hs6 (by omega) t2 hL t70 (by omega) hA1 q2 (by omega) u1 (by omega) hw2 h68 (by omega) (by omega) hA), fin hO⟩
    · rw [hv] at hA
      exact ⟨S2, v, by rw [hv]; exact ml (zSt_1 (d := e + 5) hs6 (by omega) t2 hL t70 (by omega) hA1 q2 (by omega) u1 (by omega) hw2 h68 (by omega) (by omega) hA), fin hO⟩
  by_cases e43 : qK β n k = 43
  · have hw2 : rkd (qK β n k) = 2 := rkd_2.mpr (by omega)
    have h68 := u5.trans (u7 (by omega))
    obtain ⟨S2, v, hA, hO⟩ := z_whl (D := e + 13) (ca := ca + 2) hX hB h1 e43 (by omega) (by omega)
    have hPs : psS0 (qK β n) (qL β n) (qI β n) E R dp ind s lp tr (ca + 2) (c + 2) sc at' k = psWh (qK β n) (qL β n) R dp ind s tr (ca + 2) (c + 2) sc at' k := by
      unfold psS0
      rw [if_neg e40, if_pos e43]
    rw [hPs, hR]
    rcases v01 hO with hv | hv
    · rw [hv] at hA
      exact ⟨S2, v, by rw [hv]; exact ml (zSt_4 (d := e + 5) hs6 (by omega) t2 hL t70 (by omega) hA1 q2 (by omega) u1 (by omega) hw2 h68 (by omega) (by omega) hA), fin hO⟩
    · rw [hv] at hA
      exact ⟨S2, v, by rw [hv]; exact ml (zSt_3 (d := e + 5) hs6 (by omega) t2 hL t70 (by omega) hA1 q2 (by omega) u1 (by omega) hw2 h68 (by omega) (by omega) hA), fin hO⟩
  by_cases e44 : qK β n k = 44
  · have hw2 : rkd (qK β n k) = 2 := rkd_2.mpr (by omega)
    have h68 := u5.trans (u7 (by omega))
    obtain ⟨S2, v, hA, hO⟩ := z_for (D := e + 13) (ca := ca + 2) hX hB h1 e44 (by omega) (by omega)
    have hPs : psS0 (qK β n) (qL β n) (qI β n) E R dp ind s lp tr (ca + 2) (c + 2) sc at' k = psFor (qK β n) (qL β n) E R dp ind s tr (ca + 2) (c + 2) sc at' k := by
      unfold psS0
      rw [if_neg e40, if_neg e43, if_pos e44]
    rw [hPs, hR]
    rcases v01 hO with hv | hv
    · rw [hv] at hA
      exact ⟨S2, v, by rw [hv]; exact ml (zSt_6 (d := e + 5) hs6 (by omega) t2 hL t70 (by omega) hA1 q2 (by omega) u1 (by omega) hw2 h68 (by omega) (by omega) hA), fin hO⟩
    · rw [hv] at hA
      exact ⟨S2, v, by rw [hv]; exact ml (zSt_5 (d := e + 5) hs6 (by omega) t2 hL t70 (by omega) hA1 q2 (by omega) u1 (by omega) hw2 h68 (by omega) (by omega) hA), fin hO⟩
  by_cases e46 : qK β n k = 46
  · have hw2 : rkd (qK β n k) = 2 := rkd_2.mpr (by omega)
    have h68 := u5.trans (u7 (by omega))
    obtain ⟨S2, v, hA, hO'⟩ := z_dfn (D := e + 13) (ca := ca + 2) (lb := 1) hX (Or.inl rfl) hE hB h1 e46 (by omega) (by omega) (by decide)
    have hPs : psS0 (qK β n) (qL β n) (qI β n) E R dp ind s lp tr (ca + 2) (c + 2) sc at' k = dfR (qK β n) (qL β n) E R 1 dp ind s (ca + 2) (c + 2) sc at' k := by
      unfold psS0
      rw [if_neg e40, if_neg e43, if_neg e44, if_pos e46]
      rfl
    have hO : zOs β n E V T own0 m u k1 S0 H B0 W 0 opn (dp + 1) ind lp sc at' X af S1 (c + 2) w t b k (dfR (qK β n) (qL β n) E (ps (qK β n) (qL β n) (qI β n) E F) 1 dp ind s (ca + 2) (c + 2) sc at' k) v S2 := by
      rcases hO' with q | ⟨x, x1, x2, x3, x4⟩
      · exact Or.inl q
      · exact Or.inr ⟨x, x1, x2, x3, by omega⟩
    rw [hPs, hR]
    rcases v01 hO with hv | hv
    · rw [hv] at hA
      exact ⟨S2, v, by rw [hv]; exact ml (zSt_8 (d := e + 5) hs6 (by omega) t2 hL t70 (by omega) hA1 q2 (by omega) u1 (by omega) hw2 h68 (by omega) (by omega) hA), fin hO⟩
    · rw [hv] at hA
      exact ⟨S2, v, by rw [hv]; exact ml (zSt_7 (d := e + 5) hs6 (by omega) t2 hL t70 (by omega) hA1 q2 (by omega) u1 (by omega) hw2 h68 (by omega) (by omega) hA), fin hO⟩
  by_cases e47 : qK β n k = 47
  · have hw2 : rkd (qK β n k) = 2 := rkd_2.mpr (by omega)
    have h68 := u5.trans (u7 (by omega))
    obtain ⟨S2, v, hA, hO⟩ := z_cls (D := e + 13) (ca := ca + 2) hX hB1 h1 e47 (by omega) (by omega)
    have hPs : psS0 (qK β n) (qL β n) (qI β n) E R dp ind s lp tr (ca + 2) (c + 2) sc at' k = psCl (qK β n) (qL β n) E R dp ind s (ca + 2) (c + 2) sc at' k := by
      unfold psS0
      rw [if_neg e40, if_neg e43, if_neg e44, if_neg e46, if_pos e47]
    rw [hPs, hR]
    rcases v01 hO with hv | hv
    · rw [hv] at hA
      exact ⟨S2, v, by rw [hv]; exact ml (zSt_10 (d := e + 5) hs6 (by omega) t2 hL t70 (by omega) hA1 q2 (by omega) u1 (by omega) hw2 h68 (by omega) (by omega) hA), fin hO⟩
    · rw [hv] at hA
      exact ⟨S2, v, by rw [hv]; exact ml (zSt_9 (d := e + 5) hs6 (by omega) t2 hL t70 (by omega) hA1 q2 (by omega) u1 (by omega) hw2 h68 (by omega) (by omega) hA), fin hO⟩
  by_cases e54 : qK β n k = 54
  · have hw2 : rkd (qK β n k) = 2 := rkd_2.mpr (by omega)
    have h68 := u5.trans (u7 (by omega))
    obtain ⟨S2, v, hA, hO⟩ := z_try (D := e + 13) (ca := ca + 2) hX hB h1 e54 (by omega) (by omega)
    have hPs : psS0 (qK β n) (qL β n) (qI β n) E R dp ind s lp tr (ca + 2) (c + 2) sc at' k = psTry (qK β n) (qL β n) (qI β n) E R dp ind s lp tr (ca + 2) (c + 2) sc at' k := by
      unfold psS0
      rw [if_neg e40, if_neg e43, if_neg e44, if_neg e46, if_neg e47, if_pos e54]
    rw [hPs, hR]
    rcases v01 hO with hv | hv
    · rw [hv] at hA
      exact ⟨S2, v, by rw [hv]; exact ml (zSt_12 (d := e + 5) hs6 (by omega) t2 hL t70 (by omega) hA1 q2 (by omega) u1 (by omega) hw2 h68 (by omega) (by omega) hA), fin hO⟩
    · rw [hv] at hA
      exact ⟨S2, v, by rw [hv]; exact ml (zSt_11 (d := e + 5) hs6 (by omega) t2 hL t70 (by omega) hA1 q2 (by omega) u1 (by omega) hw2 h68 (by omega) (by omega) hA), fin hO⟩
  -- those of a line
  have hline : ∃ S2 v, Ans (e + 13) 304 [.ref 61] S1 (some (.int v)) S2 ∧ zLn β n E V T own0 m u S0 H B0 W lp sc at' X S1 (c + 2) w t b k (psS0 (qK β n) (qL β n) (qI β n) E R dp ind s lp tr (ca + 2) (c + 2) sc at' k) v S2 := by
    unfold psS0
    rw [if_neg e40, if_neg e43, if_neg e44, if_neg e46, if_neg e47, if_neg e54]
    by_cases e52 : qK β n k = 52
    · rw [if_pos e52]
      exact z_del (e := e + 2) hX h1 e52 (by omega)
    rw [if_neg e52]
    by_cases e48 : qK β n k = 48
    · rw [if_pos e48]
      exact z_ret (e := e + 3) hX h1 e48 (by omega)
    rw [if_neg e48]
    by_cases e56 : qK β n k = 56
    · rw [if_pos e56]
      exact z_rse (e := e + 3) hX h1 e56 (by omega)
    rw [if_neg e56]
    by_cases e51 : qK β n k = 51
    · rw [if_pos e51]
      exact z_pass (e := e + 3) hX h1 e51
    rw [if_neg e51]
    by_cases e49 : qK β n k = 49
    · rw [if_pos e49]
      exact z_lvw (e := e + 3) (ca := ca + 2) (brk := true) hX h1 e49
    rw [if_neg e49]
    by_cases e50 : qK β n k = 50
    · rw [if_pos e50]
      exact z_lvw (e := e + 3) (ca := ca + 2) (brk := false) hX h1 e50
    rw [if_neg e50]
    by_cases e53 : qK β n k = 53
    · rw [if_pos e53]
      exact z_glb (e := e) hX hEr h1 e53
    rw [if_neg e53]
    exact z_bd (e := e + 2) hX h1 (by omega) ⟨by omega, e40, e43, e44, e46, e47, e48, e49, e50, e51, e52, e53, e54, e56⟩
  obtain ⟨S2, v, hA, hO⟩ := hline
  obtain ⟨S3, v3, hc, hF3⟩ := zLn_nl hX h1 hA hO (by omega)
  by_cases ew : 40 ≤ qK β n k
  · have hw2 : rkd (qK β n k) = 2 := rkd_2.mpr ew
    have h68 := u5.trans (u7 ew)
    rcases hc with ⟨c1, c2⟩ | ⟨S4, c1, c2, c3⟩
    · exact ⟨S3, v3, by rw [c2]; exact ml (zSt_15 (d := e + 5) hs6 (by omega) t2 hL t70 (by omega) hA1 q2 (by omega) u1 (by omega) hw2 h68 (by omega) (by omega) (by omega) (by omega) (by omega) (by omega) (by omega) (by omega) c1), fin hF3⟩
    · rcases c3 with hv | hv
      · rw [hv] at c2
        exact ⟨S3, v3, by rw [hv]; exact ml (zSt_14 (d := e + 5) hs6 (by omega) t2 hL t70 (by omega) hA1 q2 (by omega) u1 (by omega) hw2 h68 (by omega) (by omega) (by omega) (by omega) (by omega) (by omega) (by omega) (by omega) c1 c2), fin hF3⟩
      · rw [hv] at c2
        exact ⟨S3, v3, by rw [hv]; exact ml (zSt_13 (d := e + 5) hs6 (by omega) t2 hL t70 (by omega) hA1 q2 (by omega) u1 (by omega) hw2 h68 (by omega) (by omega) (by omega) (by omega) (by omega) (by omega) (by omega) (by omega) c1 c2), fin hF3⟩
  · have hw2 : rkd (qK β n k) ≠ 2 := fun q => ew (rkd_2.mp q)
    rcases hc with ⟨c1, c2⟩ | ⟨S4, c1, c2, c3⟩
    · exact ⟨S3, v3, by rw [c2]; exact ml (zSt_18 (d := e + 5) hs6 (by omega) t2 hL t70 (by omega) hA1 q2 (by omega) u1 (by omega) hw2 c1), fin hF3⟩
    · rcases c3 with hv | hv
      · rw [hv] at c2
        exact ⟨S3, v3, by rw [hv]; exact ml (zSt_17 (d := e + 5) hs6 (by omega) t2 hL t70 (by omega) hA1 q2 (by omega) u1 (by omega) hw2 c1 c2), fin hF3⟩
      · rw [hv] at c2
        exact ⟨S3, v3, by rw [hv]; exact ml (zSt_16 (d := e + 5) hs6 (by omega) t2 hL t70 (by omega) hA1 q2 (by omega) u1 (by omega) hw2 c1 c2), fin hF3⟩
end
