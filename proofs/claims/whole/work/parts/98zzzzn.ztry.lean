/-! STATEMENTS OF THE REFERENCE: try -/
section
variable {β : Nat → Nat} {n : Nat} {E : Nat → Nat → Bool} {V : Nat → Int32} {T : Nat → Nat × Nat} {P : Nat → Int32 → Int32 × Int32} {own0 : Nat → Nat × Nat} {m u k1 : Nat} {S0 S S1 S2 : cS} {H B0 W d l c w t f f1 b j s : Nat} {X Y : Nat → Nat} {o1 o2 : List Op} {A A1 : Prop}
theorem zI0_tr {dp ind tr af k : Nat} {opn : Nat → Nat} {lp : LpT} {sc : SCs} {at' : List Nat} (h : zI0 β n E V T own0 m u k1 S0 H B0 W 0 opn dp ind s lp tr sc at' X af c w t b k S) (htr : tr ≤ dp) : zI0 β n E V T own0 m u k1 S0 H B0 W 0 opn dp ind s lp (tr + 1) sc at' X af c w t b k (wI 6127 (nI (tr + 1)) S) := by
  obtain ⟨h1, h2, h3, h4, h5, h6, h7, h8, h9, h10, h11, h12, h13⟩ := h
  obtain ⟨c0, c1, ⟨c21, c22, c23⟩, ⟨tr', c31, c32, c33⟩, c4, c5, c6, c7, c8, c9, c10⟩ := id h4
  have i3 : ∀ i, i ≠ 6127 → sI (wI 6127 (nI (tr + 1)) S) i = sI S i := fun i hi => rIn _ _ hi
  refine ⟨zE_wI h1 (by decide), (i3 _ (by decide)).trans h2, (i3 _ (by decide)).trans h3, ⟨⟨c0.1, (i3 _ (by decide)).trans c0.2.1, c0.2.2⟩, ⟨(i3 _ (by decide)).trans c1.1, c1.2⟩, ⟨(i3 _ (by decide)).trans c21, c22, fun hz => ?_⟩, ⟨tr + 1, rIe _ _ _, by omega, fun _ => rfl⟩, (i3 _ (by decide)).trans c4, (i3 _ (by decide)).trans c5, ⟨(i3 _ (by decide)).trans c6.1, c6.2⟩, ⟨(i3 _ (by decide)).trans c7.1, c7.2.1, (i3 _ (by decide)).trans c7.2.2.1, c7.2.2.2⟩, c8, zSc_go c9 id (scL_refl E sc) (fun _ _ => rfl) (fun _ _ => rfl) (fun _ _ => ⟨rfl, rfl, rfl⟩) (fun own st hr => hr), c10⟩, h5, h6, h7, (fun hz => by cases hz), h9, h10, h11, h12, h13⟩
  have := c23 hz
  cases lp with
  | none => exact this
  | some x => exact ⟨this.1, this.2.1, this.2.2.1, this.2.2.2.1, by have := this.2.2.2.2; omega⟩
theorem kX_nx (hx : kX m S S1) {i : Nat} (hi : i ∈ [6117, 6122, 6123, 6126, 6127, 6134, 6137, 6139, 6140]) : sI S1 i = sI S i := by
  simp only [List.mem_cons, List.not_mem_nil, or_false] at hi
  exact hx.1 i (by omega) (by omega) (by omega) (by omega) (by omega)
theorem zDf_X {K I : Nat → Nat} {sc1 : List (Nat × Nat × Nat × Nat)} (h : zDf K I V m sc1 S) (hx : kX m S S1) : zDf K I V m sc1 S1 := fun i e he => by
  obtain ⟨e1, e2, e3, e4⟩ := h i e he
  exact ⟨(congrFun hx.2.2.1 i).trans e1, (congrFun hx.2.2.2.1 i).trans e2, (congrFun hx.2.2.2.2.1 i).trans e3, (congrFun hx.2.2.2.2.2.1 i).trans e4⟩
/-- what begins an except's block: CAUGHT and its name, or nothing -/
theorem exO_tail {q ind dp tr af c' w' t' b' : Nat} {opn : Nat → Nat} {lp : LpT} {sc : SCs} {at' : List Nat} {L0 : Nat} {os : List Op} {f' : Nat} (hX : zX β n V own0 m k1 S0) (h : zI0 β n E V T own0 m u k1 S0 H B0 W 0 opn dp ind s lp tr sc at' X af c' w' t' b' q S1) (hz : zO β n V (zPT (qK β n) (qI β n) V T) (agT T sc.1) own0 m u S0 H B0 X L0 S c w t f' b q os (sc.1.length - 1) S1) (hc : c' = c + wR (qK β n) os) (hw : w' = w + nwN (qK β n) os) (ht : t' = t + ntN (qK β n) os) (hb : b' = b + (zbk (qK β n) c os).length) (hK : qK β n q = 55) (hI : qI β n q = ind) (hcH : c' + 5 ≤ H) : q + 1 ≤ k1 ∧ ∃ S2 S3 S4, Ans (d + 9) 309 [.ref 61, .int (nI 15)] S1 (some (.int (nI 1))) S1 ∧ Ans (d + 9) 322 [.ref 61, .int (nI 36)] (wI 6115 (nI (q + 1)) S1) none S2 ∧ sI S2 6115 = nI (q + 1) ∧ (qK β n (q + 1) = 3 ∧ (∃ r, r < 2 ^ 20 ∧ sA S2 67 (q + 1) = nI 1 ∧ sA S2 68 (q + 1) = nI r ∧ Ans (d + 9) 317 [.ref 61, .int (nI 6), .int (nI r)] S2 none S3 ∧ sI S3 6115 = nI (q + 1) ∧ S4 = wI 6115 (nI (q + 2)) S3) ∨ qK β n (q + 1) ≠ 3 ∧ (∃ x, x ≠ 1 ∧ x < 2 ^ 20 ∧ sA S2 67 (q + 1) = nI x ∧ Ans (d + 9) 322 [.ref 61, .int (nI 20)] S2 none S3 ∧ S4 = S3)) ∧ zO β n V (zPT (qK β n) (qI β n) V T) (agT T sc.1) own0 m u S0 H B0 X L0 S c w t f' b (exK (qK β n) (q + 1)) (os ++ exO (qK β n) s (q + 1)) (sc.1.length - 1) S4 ∧ kX m S1 S4 ∧ zI0 β n E V T own0 m u k1 S0 H B0 W 0 opn dp ind s lp tr (exC (qK β n) E s (q + 1) sc) at' X af (c' + wR (qK β n) (exO (qK β n) s (q + 1))) w' t' b' (exK (qK β n) (q + 1)) S4 ∧ n60 (exO (qK β n) s (q + 1)) ∧ wR (qK β n) (exO (qK β n) s (q + 1)) ≤ 5 ∧ nwN (qK β n) (exO (qK β n) s (q + 1)) = 0 ∧ ntN (qK β n) (exO (qK β n) s (q + 1)) = 0 := by
  obtain ⟨h1, h2, h3, h4, h5, h6, h7, h8, h9, h10, h11, h12, h13⟩ := id h
  obtain ⟨c0, ⟨c11, c12⟩, c2, c3, c4, c5, c6, c7, c8, c9, c10⟩ := id h4
  have hdp := c0.2.2.1
  have hk1 := hX.2.1
  have hK1 : qK β n q ≠ 1 := by omega
  have hk2 := q_end hX h7 hK1
  obtain ⟨q1, q2, q3, q4⟩ := rm_gt (β := β) (n := n) (k := q) (by omega)
  have hw1 := z_wdT (d := d + 8) (K := 15) hX h1 h2 h7 (by decide) hK
  have za := zO_at hz (q + 1)
  obtain ⟨S2, hA2, z2, kx2⟩ := zO_1 (d := d + 5) (o := (61, [], 0, 0)) (x := nI 36) hX za (by omega) h12 rfl (by decide) (by decide) (by decide) rfl
  have kx12 := kX_trans (kX_wI (m := m) (i := 6115) (x := nI (q + 1)) (S := S1) (Or.inl rfl)) kx2
  have w2 : wR (qK β n) (os ++ [(61, [], 0, 0)]) = wR (qK β n) os + 1 := by rw [wR_app]; rfl
  obtain ⟨t1, -⟩ := z_tok hX z2.1 hk2
  have hlt := rkd_lt (qK β n (q + 1))
  refine ⟨hk2, ?_⟩
  by_cases hn : qK β n (q + 1) = 3
  · obtain ⟨r, r1, r2, r3, r4⟩ := z_nm hX z2.1 hk2 hn
    have hN2 := zN_X (zSc_N c9 c11 (by omega) c4 c5) kx12
    obtain ⟨S3, hA3, z3, kx3⟩ := zO_nm (d := d + 4) (o := (19, [q + 1, s], 0, 0)) (x := nI 6) (r := r) hX z2 hN2 (by rw [w2]; omega) h12 r1 rfl (by show (19 : Nat) ≠ 16; decide) (by show (19 : Nat) ≠ 60; decide) (by show (19 : Nat) ≠ 23; decide) (by rw [wdS_19, r2])
    obtain ⟨q5, q6, q7, q8⟩ := rm_gt' (β := β) (n := n) (k := q + 1) (k' := q + 2) rfl (by omega)
    have hk3 : q + 2 ≤ k1 := q_end hX hk2 q4
    have eO : exO (qK β n) s (q + 1) = [(61, [], 0, 0), (19, [q + 1, s], 0, 0)] := if_pos hn
    have eK : exK (qK β n) (q + 1) = q + 2 := if_pos hn
    have eCx : exC (qK β n) E s (q + 1) sc = scB E s (q + 1) sc := if_pos hn
    have z4 := zO_at z3 (q + 2)
    have kx4 : kX m S1 (wI 6115 (nI (q + 2)) S3) := kX_trans (kX_trans kx12 kx3) (kX_wI (Or.inl rfl))
    have el : (os ++ [(61, [], 0, 0)]) ++ [(19, [q + 1, s], 0, 0)] = os ++ [(61, [], 0, 0), (19, [q + 1, s], 0, 0)] := by simp only [List.append_assoc, List.cons_append, List.nil_append]
    rw [el] at z4
    have n19 : n60 [((61, [], 0, 0) : Op), (19, [q + 1, s], 0, 0)] := fun o ho => by
      rcases List.mem_cons.mp ho with e1 | e1
      · rw [e1]; show (61 : Nat) ≠ 60; decide
      · rw [List.mem_singleton.mp e1]; show (19 : Nat) ≠ 60; decide
    have hw19 : wR (qK β n) [((61, [], 0, 0) : Op), (19, [q + 1, s], 0, 0)] = 5 := rfl
    have hE4 := z4.1
    rw [wR_app, hw19, nwN_app, ntN_app, zbk_app, zbk_n _ _ _ n19, List.append_nil] at hE4
    refine ⟨S2, S3, _, hw1, hA2, z2.2.1, Or.inl ⟨hn, r, r1, r3, r4, hA3, z3.2.1, rfl⟩, by rw [eO, eK]; exact z4, kx4, ?_, by rw [eO]; exact n19, by rw [eO]; exact Nat.le_refl _, by rw [eO]; rfl, by rw [eO]; rfl⟩
    rw [eO, eK, eCx, hw19]
    refine zI0_X (k' := q + 2) (sc' := scB E s (q + 1) sc) h kx4 (by rw [hc, hw, ht, hb]; exact hE4) z4.2.1 z4.2.2.1 (Nat.le_add_right _ _) h9 h10 (by omega) hk3 hK1 hI (fun j j1 j2 => ?_) (scB_l E s (q + 1) sc).1 (scL_B E s (q + 1) sc h6) (Or.inl rfl) (Or.inr (by omega))
    rcases (show j = q ∨ j = q + 1 ∨ j = q + 2 by omega) with rfl | rfl | rfl
    · exact ⟨hK1, by omega⟩
    · exact ⟨q4, by omega⟩
    · exact ⟨q8, by omega⟩
  · obtain ⟨S3, hA3, z3, kx3⟩ := zO_1 (d := d + 5) (o := (17, [], 0, 0)) (x := nI 20) hX z2 (by rw [w2]; omega) h12 rfl (by decide) (by decide) (by decide) rfl
    have eO : exO (qK β n) s (q + 1) = [(61, [], 0, 0), (17, [], 0, 0)] := if_neg hn
    have eK : exK (qK β n) (q + 1) = q + 1 := if_neg hn
    have eCx : exC (qK β n) E s (q + 1) sc = sc := if_neg hn
    have kx4 : kX m S1 S3 := kX_trans kx12 kx3
    have el : (os ++ [(61, [], 0, 0)]) ++ [(17, [], 0, 0)] = os ++ [(61, [], 0, 0), (17, [], 0, 0)] := by simp only [List.append_assoc, List.cons_append, List.nil_append]
    rw [el] at z3
    have n17 : n60 [((61, [], 0, 0) : Op), (17, [], 0, 0)] := fun o ho => by
      rcases List.mem_cons.mp ho with e1 | e1
      · rw [e1]; show (61 : Nat) ≠ 60; decide
      · rw [List.mem_singleton.mp e1]; show (17 : Nat) ≠ 60; decide
    have hw17 : wR (qK β n) [((61, [], 0, 0) : Op), (17, [], 0, 0)] = 2 := rfl
    have hE4 := z3.1
    rw [wR_app, hw17, nwN_app, ntN_app, zbk_app, zbk_n _ _ _ n17, List.append_nil] at hE4
    refine ⟨S2, S3, S3, hw1, hA2, z2.2.1, Or.inr ⟨hn, _, fun e => hn (rkd_1.mp e), by omega, t1, hA3, rfl⟩, by rw [eO, eK]; exact z3, kx4, ?_, by rw [eO]; exact n17, by rw [eO]; show (2 : Nat) ≤ 5; decide, by rw [eO]; rfl, by rw [eO]; rfl⟩
    rw [eO, eK, eCx, hw17]
    refine zI0_X (k' := q + 1) (sc' := sc) h kx4 (by rw [hc, hw, ht, hb]; exact hE4) z3.2.1 z3.2.2.1 (Nat.le_add_right _ _) h9 h10 (by omega) hk2 hK1 hI (fun j j1 j2 => ?_) rfl (scL_refl E sc) (Or.inl rfl) (Or.inr (by omega))
    rcases (show j = q ∨ j = q + 1 by omega) with rfl | rfl
    · exact ⟨hK1, by omega⟩
    · exact ⟨q4, by omega⟩
end
