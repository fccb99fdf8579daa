/-! STATEMENTS OF THE REFERENCE: a class is made: its words -/
section
variable {β : Nat → Nat} {n : Nat} {E : Nat → Nat → Bool} {V : Nat → Int32} {T : Nat → Nat × Nat} {P : Nat → Int32 → Int32 × Int32} {A : Prop} {own0 : Nat → Nat × Nat} {m u k1 : Nat} {S0 S S1 S2 : cS} {H B0 W d c w t f b f1 j l s : Nat} {X : Nat → Nat} {o1 os2 : List Op}
/-- one word more, put right into the code -/
theorem zE_put (hX : zX β n V own0 m k1 S0) (h : zE own0 m u S0 H B0 c w t f b S) (hc : c + 1 ≤ H) (hH : H ≤ 40000) (x : Int32) : ∃ S1, Ans (d + 3) 303 [.ref m, .int x] S none S1 ∧ zE own0 m u S0 H B0 (c + 1) w t f b S1 ∧ kR m c w t S S1 ∧ cw S1 m c = x ∧ (∀ i, i ≠ 100 * m + 1 → sI S1 i = sI S i) ∧ kX m S S1 := by
  obtain ⟨own, hE, hback⟩ := zE_rE h
  obtain ⟨S1, hA, r1, r2, r3, r4⟩ := rE_put (d := d) hE (by omega) (zE_86 hX h) x
  obtain ⟨z1, z2⟩ := hback S1 _ _ _ r1 hc
  exact ⟨S1, hA, z1, r2, r3, r4, z2⟩
/-- the names of a class, one by one -/
theorem cl_L {lnm ly na af : Nat} {as : List Nat} (hX : zX β n V own0 m k1 S0) (hH : H ≤ 40000) (mlnm : lnm < 2 ^ 20) (mly : ly < 2 ^ 20) (mna : na < 6000) : ∀ (rest : List Nat) (i cc : Nat) (S : cS), zE own0 m u S0 H B0 cc w t f b S → sI S 6139 = nI na → sI S 6140 = nI af → i + rest.length ≤ 40 → af + i + rest.length ≤ na → (∀ q k, rest[q]? = some k → ∃ e, e < 2 ^ 20 ∧ sA S 84 (af + i + q) = nI e ∧ V k = nI e) → cc + rest.length ≤ H → ∃ S2, (∀ (lv : sm_L) (v : Option Value) (Sf : cS), sm_get lv 0 = some (.ref 61) → sm_get lv 3 = some (.int (nI lnm)) → sm_get lv 5 = some (.int (nI ly)) → sm_get lv 6 = some (.int (nI (af + i))) → (∀ lv1 : sm_L, sm_get lv1 0 = some (.ref 61) → sm_get lv1 3 = some (.int (nI lnm)) → sm_get lv1 5 = some (.int (nI ly)) → sm_get lv1 6 = some (.int (nI (af + i + rest.length))) → Bod (d + 8) 346 225 lv1 [] S2 v Sf) → Bod (d + 8) 346 225 lv [] S v Sf) ∧ zE own0 m u S0 H B0 (cc + rest.length) w t f b S2 ∧ kR m cc w t S S2 ∧ kX m S S2 ∧ (∀ q k, rest[q]? = some k → cw S2 m (cc + q) = V k) ∧ sI S2 6115 = sI S 6115 ∧ sI S2 6116 = sI S 6116 := by
  intro rest
  induction rest with
  | nil => intro i cc S h h1 h2 h3 h4 h5 h6; exact ⟨S, fun lv v Sf q0 q3 q5 q6 hB => hB lv q0 q3 q5 q6, h, kR_refl m cc w t S, kX_refl m S, (fun q k hq => by cases hq), rfl, rfl⟩
  | cons k0 rest ih =>
    intro i cc S h h1 h2 h3 h4 h5 h6
    have hm1 := hX.2.2.2.2.1
    have hlen : (k0 :: rest).length = rest.length + 1 := rfl
    obtain ⟨e, e1, e2, e3⟩ := h5 0 k0 rfl
    obtain ⟨m1, m2, m3, m4, m5, m6⟩ := zE_m h
    obtain ⟨S1, hA, z1, r2, r3, r4, kx⟩ := zE_put (d := d + 5) hX h (by omega) hH (nI e)
    obtain ⟨S2, hB2, g1, g2, g3, g4, g5, g6⟩ := ih (i + 1) (cc + 1) S1 z1 ((r4 _ (by omega)).trans h1) ((r4 _ (by omega)).trans h2) (by omega) (by omega) (fun q k hq => by
      obtain ⟨e', y1, y2, y3⟩ := h5 (q + 1) k hq
      refine ⟨e', y1, ?_, y3⟩
      rw [(kx.2.1 84 (by decide) (by decide) (by decide) (by decide)).1, show af + (i + 1) + q = af + i + (q + 1) by omega]
      exact y2) (by omega)
    refine ⟨S2, fun lv v Sf q0 q3 q5 q6 hB => zCL_3 (d := d) q0 q3 q5 q6 mlnm mly (by omega) h1 mna (by omega) h2 (by omega) (by omega) m1 m3 (by omega) (show sA S 84 (af + i) = nI e from e2) e1 hA m2 (fun lv1 p0 p3 p5 p6 => hB2 lv1 v Sf p0 p3 p5 p6 (fun lv2 s0 s3 s5 s6 => hB lv2 s0 s3 s5 (by rw [s6, hlen]; exact congrArg (fun x => some (Value.int (nI x))) (by omega)))), by rw [hlen, show cc + (rest.length + 1) = cc + 1 + rest.length by omega]; exact g1, kR_trans r2 g2 (by omega) (Nat.le_refl _) (Nat.le_refl _), kX_trans kx g3, fun q k hq => ?_, g5.trans (r4 _ (by omega)), g6.trans (r4 _ (by omega))⟩
    match q, hq with
    | 0, hq =>
      injection hq with hq
      rw [← hq, e3]
      exact (g2.1 cc (by omega)).trans r3
    | q + 1, hq =>
      have := g4 q k hq
      rwa [show cc + 1 + q = cc + (q + 1) by omega] at this
/-- the class's step -/
theorem cl_put {r kk bb af na ly : Nat} {as : List Nat} (hX : zX β n V own0 m k1 S0) (z : zO β n V P A own0 m u S0 H B0 X l S c w t f b j o1 f1 S1) (hna : sI S1 6139 = nI (af + as.length)) (haf : sI S1 6140 = nI af) (hAs : ∀ i k, as[i]? = some k → sA S1 84 (af + i) = V k ∧ qK β n k = 3) (hV : V kk = nI r) (hr : r < 90000) (hM : af + as.length < 6000) (mly : ly < 2 ^ 20) (hc : c + wR (qK β n) o1 + 4 + min as.length 40 ≤ H) (hH : H ≤ 40000) : ∃ S2 S3 S4 S5, Ans (d + 8) 302 [.ref 61, .int (nI 40), .int (nI r)] S1 none S2 ∧ Ans (d + 8) 303 [.ref m, .int (nI bb)] S2 none S3 ∧ Ans (d + 8) 303 [.ref m, .int (nI (min as.length 40))] S3 none S4 ∧ (sV S2 6114 = .ref m ∧ (sS S2)[m - 108]? = some (12, u) ∧ sV S3 6114 = .ref m ∧ (sS S3)[m - 108]? = some (12, u)) ∧ (sI S3 6139 = nI (af + as.length) ∧ sI S3 6140 = nI af ∧ sI S4 6140 = nI af ∧ sI S5 6139 = nI (af + as.length) ∧ sI S5 6140 = nI af) ∧ (∀ (lv : sm_L) (v : Option Value) (Sf : cS), sm_get lv 0 = some (.ref 61) → sm_get lv 3 = some (.int (nI r)) → sm_get lv 5 = some (.int (nI ly)) → sm_get lv 6 = some (.int (nI af)) → (∀ lv1 : sm_L, sm_get lv1 0 = some (.ref 61) → sm_get lv1 3 = some (.int (nI r)) → sm_get lv1 5 = some (.int (nI ly)) → sm_get lv1 6 = some (.int (nI (af + min as.length 40))) → Bod (d + 8) 346 225 lv1 [] S5 v Sf) → Bod (d + 8) 346 225 lv [] S4 v Sf) ∧ zO β n V P A own0 m u S0 H B0 X l S c w t f b j (o1 ++ [(23, kk :: bb :: as.take 40, 0, 0)]) f1 S5 ∧ kX m S1 S5 := by
  have hm1 := hX.2.2.2.2.1
  obtain ⟨own, hE1, hback⟩ := zE_rE z.1
  obtain ⟨S2, hA2, r1, r2, r3, r4, r5⟩ := rE_2 (d := d + 4) hE1 (by omega) (zE_86 hX z.1) (nI 40) (nI r)
  obtain ⟨z2, kx2⟩ := hback S2 _ _ _ r1 (by omega)
  obtain ⟨m1, m2, m3, -⟩ := zE_m z2
  obtain ⟨S3, hA3, z3, a2, a3, a4, kx3⟩ := zE_put (d := d + 5) hX z2 (by omega) hH (nI bb)
  obtain ⟨m1', m2', m3', -⟩ := zE_m z3
  obtain ⟨S4, hA4, z4, b2, b3, b4, kx4⟩ := zE_put (d := d + 5) hX z3 (by omega) hH (nI (min as.length 40))
  have hlt : (as.take 40).length = min as.length 40 := by rw [List.length_take, Nat.min_comm]
  have kx24 := kX_trans kx2 (kX_trans kx3 kx4)
  have e84 := (kx24.2.1 84 (by decide) (by decide) (by decide) (by decide)).1
  have hn4 : sI S4 6139 = nI (af + as.length) := (kx24.1 _ (by decide) (by decide) (by decide) (by decide) (by decide)).trans hna
  have hf4 : sI S4 6140 = nI af := (kx24.1 _ (by decide) (by decide) (by decide) (by decide) (by decide)).trans haf
  have hmn : min as.length 40 ≤ as.length ∧ min as.length 40 ≤ 40 := ⟨Nat.min_le_left _ _, Nat.min_le_right _ _⟩
  obtain ⟨S5, hB, g1, g2, g3, g4, g5, g6⟩ := cl_L (d := d) (lnm := r) (ly := ly) (na := af + as.length) (af := af) (as := as) hX hH (by omega) mly hM (as.take 40) 0 (c + wR (qK β n) o1 + 2 + 1 + 1) S4 z4 hn4 hf4 (by rw [hlt]; omega) (by rw [hlt]; omega) (fun q k hq => by
    have hq' : as[q]? = some k := by
      rw [List.getElem?_take] at hq
      split at hq
      · exact hq
      · cases hq
    obtain ⟨y1, y2⟩ := hAs q k hq'
    obtain ⟨e, e1, e2⟩ := zX_V hX y2
    exact ⟨e, by omega, by rw [e84]; exact y1.trans e2, e2⟩) (by rw [hlt]; omega)
  rw [hlt] at g1
  have kx5 := kX_trans kx24 g3
  have l23 : lR (qK β n) (23, kk :: bb :: as.take 40, 0, 0) = 4 + min as.length 40 := by
    show 2 + (kk :: bb :: as.take 40).length = _
    rw [List.length_cons, List.length_cons, hlt]
    omega
  have kr24 : kR m (c + wR (qK β n) o1) (w + nwN (qK β n) o1) (t + ntN (qK β n) o1) S1 S4 := kR_trans (kR_trans r2 a2 (by omega) (Nat.le_refl _) (Nat.le_refl _)) b2 (by omega) (Nat.le_refl _) (Nat.le_refl _)
  have kr5 := kR_trans kr24 g2 (by omega) (Nat.le_refl _) (Nat.le_refl _)
  refine ⟨S2, S3, S4, S5, hA2, hA3, hA4, ⟨m3, m2, m3', m2'⟩, ⟨?_, ?_, hf4, (kx5.1 _ (by decide) (by decide) (by decide) (by decide) (by decide)).trans hna, (kx5.1 _ (by decide) (by decide) (by decide) (by decide) (by decide)).trans haf⟩, fun lv v Sf q0 q3 q5 q6 hB1 => hB lv v Sf q0 q3 q5 q6 (fun lv1 p0 p3 p5 p6 => hB1 lv1 p0 p3 p5 (by rw [p6, hlt]; rfl)), ?_, kx5⟩
  · exact (a4 _ (by omega)).trans ((kx2.1 _ (by decide) (by decide) (by decide) (by decide) (by decide)).trans hna)
  · exact (a4 _ (by omega)).trans ((kx2.1 _ (by decide) (by decide) (by decide) (by decide) (by decide)).trans haf)
  · refine zO_put z (by rw [l23, show c + wR (qK β n) o1 + (4 + min as.length 40) = c + wR (qK β n) o1 + 2 + 1 + 1 + min as.length 40 by omega]; exact g1) kx5 kr5 ⟨g5.trans ((b4 _ (by omega)).trans ((a4 _ (by omega)).trans (r5 _ (by omega)))), g6.trans ((b4 _ (by omega)).trans ((a4 _ (by omega)).trans (r5 _ (by omega))))⟩ (by show (23 : Nat) ≠ 16; decide) (by show (23 : Nat) ≠ 60; decide) (fun _ => by show 2 ≤ (kk :: bb :: as.take 40).length; rw [List.length_cons, List.length_cons]; omega) (fun _ => ?_)
    have ew : wdS V P (23, kk :: bb :: as.take 40, 0, 0) = [nI 40, V kk, nI bb, nI (min as.length 40)] ++ (as.take 40).map V := by
      show [nI 40, V kk, nI bb, nI ((kk :: bb :: as.take 40).length - 2)] ++ (as.take 40).map V = _
      rw [List.length_cons, List.length_cons, hlt]
      rfl
    rw [ew]
    intro i x hx
    have c0 := g2.1
    match i, hx with
    | 0, hx =>
      injection hx with hx
      rw [← hx]
      exact (c0 _ (by omega)).trans ((b2.1 _ (by omega)).trans ((a2.1 _ (by omega)).trans r3))
    | 1, hx =>
      injection hx with hx
      rw [← hx, hV]
      exact (c0 _ (by omega)).trans ((b2.1 _ (by omega)).trans ((a2.1 _ (by omega)).trans r4))
    | 2, hx =>
      injection hx with hx
      rw [← hx]
      exact (c0 _ (by omega)).trans ((b2.1 _ (by omega)).trans a3)
    | 3, hx =>
      injection hx with hx
      rw [← hx]
      exact (c0 _ (by omega)).trans b3
    | i + 4, hx =>
      have hx' : ((as.take 40).map V)[i]? = some x := hx
      rw [List.getElem?_map] at hx'
      cases hq : (as.take 40)[i]? with
      | none => rw [hq] at hx'; cases hx'
      | some k =>
        rw [hq] at hx'
        injection hx' with hx'
        have := g4 i k hq
        rw [show c + wR (qK β n) o1 + (i + 4) = c + wR (qK β n) o1 + 2 + 1 + 1 + i by omega, this]
        exact hx'
end
