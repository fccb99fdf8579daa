/-! STATEMENTS OF THE REFERENCE: if, its head, its block -/
section
variable {β : Nat → Nat} {n : Nat} {E : Nat → Nat → Bool} {V : Nat → Int32} {T : Nat → Nat × Nat} {P : Nat → Int32 → Int32 × Int32} {own0 : Nat → Nat × Nat} {m u k1 : Nat} {S0 S S1 S2 : cS} {H B0 W d l c w t f f1 b j s : Nat} {X Y : Nat → Nat} {o1 o2 : List Op} {A A1 : Prop}
theorem if_head {dp ind tr ca af k F e : Nat} {opn : Nat → Nat} {lp : LpT} {sc : SCs} {at' : List Nat} (hX : zX β n V own0 m k1 S0) (hB : ZB β n E V T own0 m u k1 S0 H B0 W F 0) (h0 : zI0 β n E V T own0 m u k1 S0 H B0 W 0 opn dp ind s lp tr sc at' X af c w t b k S) (hr : c + 13 * rem β n k ≤ H + 2 ∧ w + rem β n k ≤ W ∧ t + rem β n k ≤ W ∧ sc.1.length - 1 + rem β n k ≤ W) (hK : 40 ≤ qK β n k) (hI : qI β n k = ind) (hF : 4 * rm β n k ≤ F + 4) (hD : lvZ dp ≤ e + 11) : ∃ S1 v1, Ans (e + 9) 306 [.ref 61, .int (nI 0)] (wI 6115 (nI (k + 1)) S) (some (.int v1)) S1 ∧ ((exs (qK β n) s (k + 1) = none ∧ v1 = nI 0 ∧ zB own0 m u S0 H B0 W (flq (qL β n k)) S1) ∨ ∃ r S2 S3 v3, exs (qK β n) s (k + 1) = some r ∧ v1 = nI 1 ∧ Ans (e + 9) 325 [.ref 61, .int (nI 12)] S1 (some (.int (nI (c + wR (qK β n) r.2.2 + 1)))) S2 ∧ c + wR (qK β n) r.2.2 + 1 < 2 ^ 20 ∧ Ans (e + 9) 334 [.ref 61, .int (nI ind), .int (nI 0)] S2 (some (.int v3)) S3 ∧ ((∃ l, zBd β n opn (dp + 1) (ps (qK β n) (qL β n) (qI β n) E F 2 (dp + 1) ind s lp tr (ca + wC r.2.2 + 2) (c + wR (qK β n) r.2.2 + 2) sc at' r.1) l ∧ v3 = nI 0 ∧ zB own0 m u S0 H B0 W l S3) ∨ ∃ x, ps (qK β n) (qL β n) (qI β n) E F 2 (dp + 1) ind s lp tr (ca + wC r.2.2 + 2) (c + wR (qK β n) r.2.2 + 2) sc at' r.1 = .inr x ∧ v3 = nI 1 ∧ zG β n E V T own0 m u k1 S0 H B0 0 ind lp sc at' X af S c w t b k (x.1, r.2.2 ++ (5, [], 0, 0) :: x.2.1, x.2.2.1, at') S3 ∧ wR (qK β n) (r.2.2 ++ (5, [], 0, 0) :: x.2.1) + 6 + 13 * rem β n x.1 ≤ 13 * rem β n k ∧ (qK β n x.1 ≠ 1 → rm β n x.1 + 2 ≤ rm β n k) ∧ k + 1 < x.1 ∧ qK β n (x.1 - 1) = 2)) := by
  have hK40 := hK
  replace hK : 3 ≤ qK β n k := by omega
  obtain ⟨r1, r2, r3, r4⟩ := hr
  obtain ⟨h1, h2, h3, h4, h5, h6, h7, h8, h9, h10, h11, h12, h13⟩ := id h0
  obtain ⟨⟨c01, c02, c03, c04, c05⟩, ⟨c11, c12⟩, ⟨c21, c22, c23⟩, ⟨tr', c31, c32, c33⟩, c4, c5, ⟨c61, c62⟩, ⟨c71, c72, c73, c74⟩, ⟨c81, c82⟩, c9, c10⟩ := id h4
  have hk1 := hX.2.1
  have hlv : lvZ dp = 260 + 4 * (12 - dp) := rfl
  have hK1 : qK β n k ≠ 1 := by omega
  have hk2 := q_end hX h7 hK1
  obtain ⟨q1, q2, q3, q4⟩ := rm_gt (β := β) (n := n) (k := k) hK
  obtain ⟨q5, q6⟩ := rem_ge hK1
  obtain ⟨q7, q8⟩ := rem_ge q4
  have hEa := zE_wI (i := 6115) (x := nI (k + 1)) h1 (by decide)
  have kxa : kX m S (wI 6115 (nI (k + 1)) S) := kX_wI (Or.inl rfl)
  have fa : sI (wI 6115 (nI (k + 1)) S) 6116 = nI 0 := (rIn _ _ (by decide)).trans h3
  obtain ⟨S1, v1, hA1, x1, x2⟩ := zIs_x (q := k + 1) (D := e + 9) hX h0 kxa hEa (rIe _ _ _) fa hk2 (by omega) (by omega) (by omega) (by omega)
  refine ⟨S1, v1, hA1, ?_⟩
  cases hex : exs (qK β n) s (k + 1) with
  | none =>
    obtain ⟨v0, b0⟩ := x1 hex
    have efl : fl β n (k + 1) = flq (qL β n k) := by rw [← q3]; rfl
    rw [efl] at b0
    exact Or.inl ⟨rfl, v0, b0⟩
  | some r =>
    obtain ⟨v1e, g4, kx1, n60r, -, -⟩ := x2 r hex
    obtain ⟨y1, y2, y3, y4, y5⟩ := exs_3 hex
    have hrr := rm_run (β := β) (n := n) (k := k + 1) (k1 := r.1) (by omega) y1
    have hlt := ln_tk (k := k) (r := r.1) hK1 (fun q a1 a2 => by
      rcases Nat.lt_or_ge k q with e1 | e1
      · exact y1 q (by omega) a2
      · obtain rfl : q = k := by omega
        exact hK)
    have hrk : r.1 ≤ k1 := by
      rcases Nat.lt_or_ge k1 r.1 with e1 | e1
      · have := y1 k1 (by omega) e1
        have := hX.2.2.1
        omega
      · exact e1
    obtain ⟨t1, t2, t3⟩ := hlt r.1 (by omega) (Nat.le_refl _)
    obtain ⟨q9, q10⟩ := rem_ge t1
    obtain ⟨S2, hA2, z2, kx2⟩ := zO_hole (d := e + 4) (o := (5, [], 0, 0)) (x := nI 12) hX (g4 X (X 2 - 1)) (by omega) h12 rfl (by decide) (by decide) (by decide) rfl
    have eW2 : wR (qK β n) (r.2.2 ++ [(5, [], 0, 0)]) = wR (qK β n) r.2.2 + 2 := by rw [wR_app]; rfl
    have eN2 : nwN (qK β n) (r.2.2 ++ [(5, [], 0, 0)]) = nwN (qK β n) r.2.2 := by rw [nwN_app]; rfl
    have eT2 : ntN (qK β n) (r.2.2 ++ [(5, [], 0, 0)]) = ntN (qK β n) r.2.2 := by rw [ntN_app]; rfl
    have n2 : n60 (r.2.2 ++ [((5, [], 0, 0) : Op)]) := n60_app.mpr ⟨n60r, n60_1 (by show (5 : Nat) ≠ 60; decide)⟩
    have kx02 := kX_trans kxa (kX_trans kx1 kx2)
    have hE2 := z2.1
    rw [zbk_n _ _ _ n2] at hE2
    have hI2 := zI0_X (k' := r.1) (sc' := sc) h0 kx02 hE2 z2.2.1 z2.2.2.1 (Nat.le_add_right _ _) (by rw [eN2]; omega) (by rw [eT2]; omega) (by omega) hrk hK1 hI (fun j j1 j2 => by
      obtain ⟨a1, a2, a3⟩ := hlt j j1 j2
      exact ⟨a1, by omega⟩) rfl (scL_refl E sc) (Or.inl rfl) (Or.inr (by omega))
    have hz13 : qK β n r.1 = 13 → qK β n (r.1 + 1) = 2 → zRm β n H W (r.1 + 2) (c + wR (qK β n) (r.2.2 ++ [(5, [], 0, 0)])) (w + nwN (qK β n) (r.2.2 ++ [(5, [], 0, 0)])) (t + ntN (qK β n) (r.2.2 ++ [(5, [], 0, 0)])) (sc.1.length - 1) := fun e1 e2 => by
      obtain ⟨p1, p2, p3, p4⟩ := rm_gt (β := β) (n := n) (k := r.1) (by omega)
      have p5 : rem β n (r.1 + 2) + 1 ≤ rm β n (r.1 + 1) := rm_nl (β := β) (n := n) (j := r.1 + 1) e2
      rw [eW2, eN2, eT2]
      exact ⟨by omega, by omega, by omega, by omega, h12, h13⟩
    obtain ⟨S3, v3, hA3, hO3⟩ := hB opn dp ind s lp tr (ca + wC r.2.2 + 2) sc at' X af (c + wR (qK β n) (r.2.2 ++ [(5, [], 0, 0)])) _ _ b r.1 S2 (e + 9) hI2 t1 (t2.trans hI) (by omega) hz13 (by omega)
    have eC : c + wR (qK β n) (r.2.2 ++ [(5, [], 0, 0)]) = c + wR (qK β n) r.2.2 + 2 := by rw [eW2]; omega
    refine Or.inr ⟨r, S2, S3, v3, rfl, v1e, hA2, by omega, hA3, ?_⟩
    rw [← eC]
    rcases hO3 with hbad | ⟨x, hx, hv, x13, x2', xI, xlt, hG⟩
    · exact Or.inl hbad
    refine Or.inr ⟨x, hx, hv, ?_⟩
    obtain ⟨g1, g2, g3, -, g5, g6, g7, g8, g9, g10, g11, g12, g13, g14, g15, g16⟩ := hG
    obtain ⟨p1, p2, p3, p4⟩ := rm_gt (β := β) (n := n) (k := r.1) (by omega)
    have p5 : rem β n (r.1 + 2) + 1 ≤ rm β n (r.1 + 1) := rm_nl (β := β) (n := n) (j := r.1 + 1) x2'
    have hlen : sc.1.length ≤ x.2.2.1.1.length := by
      obtain ⟨⟨l0, hl0⟩, _⟩ := g16
      rw [hl0, List.length_append]
      omega
    have z3 := zO_app (Y := X) z2 (by rw [zbk_n _ _ _ n2]; exact g1) (fun _ => Nat.le_refl _) (agT_L g16)
    have hl : (r.2.2 ++ [((5, [], 0, 0) : Op)]) ++ x.2.1 = r.2.2 ++ (5, [], 0, 0) :: x.2.1 := by simp only [List.append_assoc, List.cons_append, List.nil_append]
    have wF : wR (qK β n) ((r.2.2 ++ [((5, [], 0, 0) : Op)]) ++ x.2.1) = wR (qK β n) r.2.2 + 2 + wR (qK β n) x.2.1 := by rw [wR_app, eW2]
    have nF : nwN (qK β n) ((r.2.2 ++ [((5, [], 0, 0) : Op)]) ++ x.2.1) = nwN (qK β n) r.2.2 + nwN (qK β n) x.2.1 := by rw [nwN_app, eN2]
    have tF : ntN (qK β n) ((r.2.2 ++ [((5, [], 0, 0) : Op)]) ++ x.2.1) = ntN (qK β n) r.2.2 + ntN (qK β n) x.2.1 := by rw [ntN_app, eT2]
    have bF : zbk (qK β n) c ((r.2.2 ++ [((5, [], 0, 0) : Op)]) ++ x.2.1) = zbk (qK β n) (c + wR (qK β n) (r.2.2 ++ [(5, [], 0, 0)])) x.2.1 := by rw [zbk_app, zbk_n _ _ _ n2]; rfl
    rw [← hl]
    have zS := zO_pre z3 (S := S) (kW_wI _ _ _ _ _) kA_wI
    have hq2 := qP_le (β := β) (n := n) (show k ≤ r.1 + 2 by omega)
    have hkK : ∀ i, i ∈ [6117, 6122, 6123, 6126, 6127, 6134, 6137, 6139, 6140] → sI S2 i = sI S i := fun i hi => kX_nx kx02 hi
    have hm1 : qK β n x.1 ≠ 1 → rm β n x.1 + 2 ≤ rm β n k := fun hx1 => by
      obtain ⟨b1, b2⟩ := rem_ge hx1
      omega
    refine ⟨⟨zS, fun i hi => (g2 i hi).trans (hkK i ?_), fun _ => (g3 rfl).trans (hkK 6139 (by decide)), (fun hz => by cases hz), g5, fun hl => n60_app.mpr ⟨n2, g6 hl⟩, ?_, ?_, ?_, ?_, ?_, fun j j1 j2 => ?_, g13, fun _ => g14 xlt, ?_, g16⟩, ?_, hm1, by omega, g14 xlt⟩
    · simp only [List.mem_cons, List.not_mem_nil, or_false] at hi ⊢
      omega
    · show wR (qK β n) ((r.2.2 ++ [((5, [], 0, 0) : Op)]) ++ x.2.1) + 13 * rem β n x.1 ≤ 13 * rem β n k
      rw [wF]
      omega
    · show nwN (qK β n) ((r.2.2 ++ [((5, [], 0, 0) : Op)]) ++ x.2.1) + rem β n x.1 ≤ rem β n k
      rw [nF]
      omega
    · show ntN (qK β n) ((r.2.2 ++ [((5, [], 0, 0) : Op)]) ++ x.2.1) + rem β n x.1 ≤ rem β n k
      rw [tF]
      omega
    · show x.2.2.1.1.length + rem β n x.1 ≤ sc.1.length + rem β n k
      omega
    · show (zbk (qK β n) c ((r.2.2 ++ [((5, [], 0, 0) : Op)]) ++ x.2.1)).length + qP β n k ≤ qP β n x.1
      rw [bF]
      omega
    · rcases Nat.lt_or_ge r.1 j with e1 | e1
      · rcases Nat.lt_or_ge j (r.1 + 2) with e2 | e2
        · obtain rfl : j = r.1 + 1 := by omega
          exact ⟨by omega, by omega⟩
        · obtain ⟨a1, a2⟩ := g12 j e2 j2
          exact ⟨by omega, a2⟩
      · obtain ⟨a1, a2, _⟩ := hlt j j1 e1
        exact ⟨by omega, a1⟩
    · show k ≤ x.1
      omega
    · rw [wF]
      omega
end
