/-! STATEMENTS OF THE REFERENCE: try, whole -/
section
variable {β : Nat → Nat} {n : Nat} {E : Nat → Nat → Bool} {V : Nat → Int32} {T : Nat → Nat × Nat} {P : Nat → Int32 → Int32 × Int32} {own0 : Nat → Nat × Nat} {m u k1 : Nat} {S0 S S1 S2 : cS} {H B0 W d l c w t f f1 b j s : Nat} {X Y : Nat → Nat} {o1 o2 : List Op} {A A1 : Prop}
theorem upX_0 {v : Nat} {X : Nat → Nat} : upX 0 v X = X := funext fun i => if_neg (fun e => by cases e.2)
theorem exC_1 (K : Nat → Nat) (E : Nat → Nat → Bool) (s j : Nat) (sc : SCs) (hs : s < sc.1.length) : (exC K E s j sc).1 = sc.1 ∧ scL E sc (exC K E s j sc) := by
  unfold exC
  split
  · exact ⟨(scB_l E s j sc).1, scL_B E s j sc hs⟩
  · exact ⟨rfl, scL_refl E sc⟩
/-- except, its block and the end -/
theorem z_tr2 {dp ind tr af k F e q cx : Nat} {opn : Nat → Nat} {lp : LpT} {sc sc2 : SCs} {at' : List Nat} {os1 : List Op} {S5 : cS} (hX : zX β n V own0 m k1 S0) (hk54 : qK β n k = 54) (hB : ZB β n E V T own0 m u k1 S0 H B0 W F 0) (h0 : zI0 β n E V T own0 m u k1 S0 H B0 W 0 opn dp ind s lp tr sc at' X af c w t b k S) (hK1 : qK β n k ≠ 1) (hI : qI β n k = ind) (hr : c + 13 * rem β n k ≤ H + 2 ∧ w + rem β n k ≤ W ∧ t + rem β n k ≤ W ∧ sc.1.length - 1 + rem β n k ≤ W) (gP : zG β n E V T own0 m u k1 S0 H B0 0 ind lp sc at' X af S c w t b k (q, os1 ++ [(4, [], 0, 0)], sc2, at') S5) (hw : wR (qK β n) os1 + 4 + 13 * rem β n q ≤ 13 * rem β n k) (h55 : qK β n q = 55) (hqI : qI β n q = ind) (hkq : k < q) (hn1 : lp = none → n60 os1) (hF : 4 * rem β n q ≤ F) (hD : lvZ dp ≤ e + 11) : ∃ S6 S7 S8 S9 v, Ans (e + 9) 309 [.ref 61, .int (nI 15)] S5 (some (.int (nI 1))) S5 ∧ Ans (e + 9) 322 [.ref 61, .int (nI 36)] (wI 6115 (nI (q + 1)) S5) none S6 ∧ sI S6 6115 = nI (q + 1) ∧ ((∃ r, r < 2 ^ 20 ∧ sA S6 67 (q + 1) = nI 1 ∧ sA S6 68 (q + 1) = nI r ∧ Ans (e + 9) 317 [.ref 61, .int (nI 6), .int (nI r)] S6 none S7 ∧ sI S7 6115 = nI (q + 1) ∧ S8 = wI 6115 (nI (q + 2)) S7) ∨ (∃ x, x ≠ 1 ∧ x < 2 ^ 20 ∧ sA S6 67 (q + 1) = nI x ∧ Ans (e + 9) 322 [.ref 61, .int (nI 20)] S6 none S7 ∧ S8 = S7)) ∧ Ans (e + 9) 334 [.ref 61, .int (nI ind), .int (nI 0)] S8 (some (.int v)) S9 ∧ ((∃ l, zBd β n opn (dp + 1) (ps (qK β n) (qL β n) (qI β n) E F 2 (dp + 1) ind s lp tr cx (c + wR (qK β n) os1 + 2 + wR (qK β n) (exO (qK β n) s (q + 1))) (exC (qK β n) E s (q + 1) sc2) at' (exK (qK β n) (q + 1))) l ∧ v = nI 0 ∧ zB own0 m u S0 H B0 W l S9) ∨ ∃ y S10, ps (qK β n) (qL β n) (qI β n) E F 2 (dp + 1) ind s lp tr cx (c + wR (qK β n) os1 + 2 + wR (qK β n) (exO (qK β n) s (q + 1))) (exC (qK β n) E s (q + 1) sc2) at' (exK (qK β n) (q + 1)) = .inr y ∧ v = nI 1 ∧ Ans (e + 9) 326 [.ref 61, .int (nI (c + wR (qK β n) os1 + 1))] S9 none S10 ∧ zG β n E V T own0 m u k1 S0 H B0 0 ind lp sc at' X af S c w t b k (y.1, os1 ++ (4, [], ((2 + (wC (exO (qK β n) s (q + 1)) + wC y.2.1) : Nat) : Int), ((1 + (wR (qK β n) (exO (qK β n) s (q + 1)) + wR (qK β n) y.2.1) : Nat) : Int)) :: (exO (qK β n) s (q + 1) ++ y.2.1), y.2.2.1, at') S10 ∧ wR (qK β n) (os1 ++ (4, [], ((2 + (wC (exO (qK β n) s (q + 1)) + wC y.2.1) : Nat) : Int), ((1 + (wR (qK β n) (exO (qK β n) s (q + 1)) + wR (qK β n) y.2.1) : Nat) : Int)) :: (exO (qK β n) s (q + 1) ++ y.2.1)) + 2 + 13 * rem β n y.1 ≤ 13 * rem β n k) := by
  obtain ⟨r1, r2, r3, r4⟩ := hr
  obtain ⟨h1, h2, h3, h4, h5, h6, h7, h8, h9, h10, h11, h12, h13⟩ := id h0
  obtain ⟨g1, g2, g3, -, g5, g6, g7, g8, g9, g10, g11, g12, g13, g14, g15, g16⟩ := id gP
  obtain ⟨os, hos⟩ : ∃ os, os = os1 ++ [((4, [], 0, 0) : Op)] := ⟨_, rfl⟩
  have wU : wR (qK β n) os = wR (qK β n) os1 + 2 := by rw [hos, wR_app]; rfl
  have nU : nwN (qK β n) os = nwN (qK β n) os1 := by rw [hos, nwN_app]; rfl
  have tU : ntN (qK β n) os = ntN (qK β n) os1 := by rw [hos, ntN_app]; rfl
  have bU : zbk (qK β n) c os = zbk (qK β n) c os1 := by
    rw [hos, zbk_app, zbk_n _ _ _ (n60_1 (by show (4 : Nat) ≠ 60; decide)), List.append_nil]
  rw [← hos] at gP g1 g7 g8 g9 g11
  have g7' : wR (qK β n) os + 13 * rem β n q ≤ 13 * rem β n k := g7
  have g8' : nwN (qK β n) os + rem β n q ≤ rem β n k := g8
  have g9' : ntN (qK β n) os + rem β n q ≤ rem β n k := g9
  have g10' : sc2.1.length + rem β n q ≤ sc.1.length + rem β n k := g10
  have g11' : (zbk (qK β n) c os).length + qP β n k ≤ qP β n q := g11
  have hI5 := zI0_next hX h0 (x := (q, os, sc2, at')) (by show w + nwN (qK β n) _ ≤ W; omega) (by show t + ntN (qK β n) _ ≤ W; omega) (by show sc2.1.length - 1 ≤ W; omega) (Or.inl rfl) hK1 hI (Or.inl (by omega)) gP
  rw [upX_0] at hI5
  have hq1' : qK β n q ≠ 1 := by omega
  obtain ⟨v1, v2, v3, v4⟩ := rm_gt (β := β) (n := n) (k := q) (by omega)
  obtain ⟨v5, v6⟩ := rem_ge hq1'
  have hlen : sc.1.length ≤ sc2.1.length := by
    obtain ⟨⟨l0, hl0⟩, _⟩ := g16
    have hl0' : sc2.1 = sc.1 ++ l0 := hl0
    rw [hl0', List.length_append]
    omega
  obtain ⟨hq2, S6, S7, S8, hA6, hA7, hk7, hcase, z8, kx8, hI8, n8, w8, nw8, nt8⟩ := exO_tail (d := e) hX hI5 g1 rfl rfl rfl rfl h55 hqI (by show c + wR (qK β n) os + 5 ≤ H; omega)
  obtain ⟨XO, hXO⟩ : ∃ XO, XO = exO (qK β n) s (q + 1) := ⟨_, rfl⟩
  obtain ⟨jx, hjx⟩ : ∃ jx, jx = exK (qK β n) (q + 1) := ⟨_, rfl⟩
  obtain ⟨ec1, ec2⟩ := exC_1 (qK β n) E s (q + 1) sc2 (by omega)
  obtain ⟨sx, hsx⟩ : ∃ sx, sx = exC (qK β n) E s (q + 1) sc2 := ⟨_, rfl⟩
  rw [← hXO, ← hjx, ← hsx]
  have z8' : zO β n V (zPT (qK β n) (qI β n) V T) (agT T sc2.1) own0 m u S0 H B0 X (X 2 - 1) S c w t (sc.1.length - 1) b jx (os ++ XO) (sc2.1.length - 1) S8 := by rw [hXO, hjx]; exact z8
  have hI8' : zI0 β n E V T own0 m u k1 S0 H B0 W 0 opn dp ind s lp tr sx at' X af (c + wR (qK β n) os + wR (qK β n) XO) (w + nwN (qK β n) os) (t + ntN (qK β n) os) (b + (zbk (qK β n) c os).length) jx S8 := by rw [hXO, hjx, hsx]; exact hI8
  rw [← hXO] at n8 w8 nw8 nt8
  rw [← hsx] at ec1 ec2
  clear z8 hI8
  have hjK : qK β n jx ≠ 1 ∧ qI β n jx = ind ∧ rm β n jx + 1 ≤ rm β n q ∧ (∀ j, q ≤ j → j ≤ jx → ind ≤ qI β n j ∧ qK β n j ≠ 1) ∧ q < jx ∧ jx ≤ k1 := by
    rcases hcase with ⟨hn, -⟩ | ⟨hn, -⟩
    · obtain ⟨u1, u2, u3, u4⟩ := rm_gt' (β := β) (n := n) (k := q + 1) (k' := q + 2) rfl (Nat.le_of_eq hn.symm)
      have ej : jx = q + 2 := by rw [hjx]; exact if_pos hn
      rw [ej]
      refine ⟨u4, by omega, by omega, fun j j1 j2 => ?_, by omega, q_end hX hq2 v4⟩
      rcases (show j = q ∨ j = q + 1 ∨ j = q + 2 by omega) with rfl | rfl | rfl
      · exact ⟨by omega, hq1'⟩
      · exact ⟨by omega, v4⟩
      · exact ⟨by omega, u4⟩
    · have ej : jx = q + 1 := by rw [hjx]; exact if_neg hn
      rw [ej]
      refine ⟨v4, by omega, by omega, fun j j1 j2 => ?_, by omega, hq2⟩
      rcases (show j = q ∨ j = q + 1 by omega) with rfl | rfl
      · exact ⟨by omega, hq1'⟩
      · exact ⟨by omega, v4⟩
  obtain ⟨y1, y2, y3, y4, y5, y6⟩ := hjK
  have hz13' : qK β n jx = 13 → qK β n (jx + 1) = 2 → zRm β n H W (jx + 2) (c + wR (qK β n) os + wR (qK β n) XO) (w + nwN (qK β n) os) (t + ntN (qK β n) os) (sx.1.length - 1) := fun e1 e2 => by
    obtain ⟨p1, p2, p3, p4⟩ := rm_gt (β := β) (n := n) (k := jx) (by omega)
    have p5 : rem β n (jx + 2) + 1 ≤ rm β n (jx + 1) := rm_nl (β := β) (n := n) (j := jx + 1) e2
    rw [ec1]
    exact ⟨by omega, by omega, by omega, by omega, h12, h13⟩
  obtain ⟨S9, v9, hA9, hO9⟩ := hB opn dp ind s lp tr cx sx at' X af (c + wR (qK β n) os + wR (qK β n) XO) _ _ _ jx S8 (e + 9) hI8' y1 y2 (by omega) hz13' (by omega)
  have eC : c + wR (qK β n) os + wR (qK β n) XO = c + wR (qK β n) os1 + 2 + wR (qK β n) XO := by omega
  rw [eC, show bmZ 0 = 2 from rfl] at hO9
  refine ⟨S6, S7, S8, S9, v9, hA6, hA7, hk7, ?_, hA9, ?_⟩
  · rcases hcase with ⟨-, hc⟩ | ⟨-, hc⟩
    · exact Or.inl hc
    · exact Or.inr hc
  rcases hO9 with hbad | ⟨y, hy, hv, yk, y2', yI, ylt, hG⟩
  · exact Or.inl hbad
  rw [← eC] at hG
  obtain ⟨e1, e2, e3, -, e5, e6, e7, e8, e9, e10, e11, e12, e13, e14, e15, e16⟩ := hG
  obtain ⟨p1, p2, p3, p4⟩ := rm_gt (β := β) (n := n) (k := jx) (by omega)
  have p5 : rem β n (jx + 2) + 1 ≤ rm β n (jx + 1) := rm_nl (β := β) (n := n) (j := jx + 1) y2'
  have hs16 := scL_trans (scL_trans g16 ec2) e16
  rw [ec1] at e1 e10
  have e1' : zO β n V (zPT (qK β n) (qI β n) V T) (agT T y.2.2.1.1) own0 m u S0 H B0 X (X 2 - 1) S8 (c + wR (qK β n) (os ++ XO)) (w + nwN (qK β n) (os ++ XO)) (t + ntN (qK β n) (os ++ XO)) (sc2.1.length - 1) (b + (zbk (qK β n) c (os ++ XO)).length) y.1 y.2.1 (y.2.2.1.1.length - 1) S9 := by
    rw [wR_app, nwN_app, ntN_app, nw8, nt8, zbk_app, zbk_n _ _ _ n8, List.append_nil, ← Nat.add_assoc]
    exact e1
  have z9 := zO_app (Y := X) z8' e1' (fun _ => Nat.le_refl _) (agT_L (scL_trans ec2 e16))
  have l9 : (os ++ XO) ++ y.2.1 = os1 ++ (4, [], 0, 0) :: (XO ++ y.2.1) := by rw [hos]; simp only [List.append_assoc, List.cons_append, List.nil_append]
  rw [l9] at z9
  obtain ⟨S10, hA10, z10, kx10, hi10⟩ := zO_fill (d := e + 8) (x := ((2 + (wC XO + wC y.2.1) : Nat) : Int)) hX z9 h12 (by show (4 : Nat) ∈ _; decide)
  rw [wR_app (qK β n) XO y.2.1] at z10
  obtain ⟨U, hU⟩ : ∃ U : Op, U = (4, [], ((2 + (wC XO + wC y.2.1) : Nat) : Int), ((1 + (wR (qK β n) XO + wR (qK β n) y.2.1) : Nat) : Int)) := ⟨_, rfl⟩
  have z10' : zO β n V (zPT (qK β n) (qI β n) V T) (agT T y.2.2.1.1) own0 m u S0 H B0 X (X 2 - 1) S c w t (sc.1.length - 1) b y.1 (os1 ++ U :: (XO ++ y.2.1)) (y.2.2.1.1.length - 1) S10 := by rw [hU]; exact z10
  refine Or.inr ⟨y, S10, hy, hv, hA10, ?_⟩
  rw [← hU]
  have lU : lR (qK β n) U = 2 := by rw [hU]; rfl
  have hU60 : U.1 ≠ 60 := by rw [hU]; show (4 : Nat) ≠ 60; decide
  have wF : wR (qK β n) (os1 ++ U :: (XO ++ y.2.1)) = wR (qK β n) os1 + 2 + wR (qK β n) XO + wR (qK β n) y.2.1 := by
    rw [wR_app]
    show wR (qK β n) os1 + (lR (qK β n) U + wR (qK β n) (XO ++ y.2.1)) = _
    rw [wR_app, lU]
    omega
  have nF : nwN (qK β n) (os1 ++ U :: (XO ++ y.2.1)) = nwN (qK β n) os1 + nwN (qK β n) y.2.1 := by
    rw [nwN_app]
    show _ + (nwO (qK β n) U + nwN (qK β n) (XO ++ y.2.1)) = _
    rw [nwN_app, nw8, hU]
    show nwN (qK β n) os1 + (0 + (0 + nwN (qK β n) y.2.1)) = _
    omega
  have tF : ntN (qK β n) (os1 ++ U :: (XO ++ y.2.1)) = ntN (qK β n) os1 + ntN (qK β n) y.2.1 := by
    rw [ntN_app]
    show _ + (ntO (qK β n) U + ntN (qK β n) (XO ++ y.2.1)) = _
    rw [ntN_app, nt8, hU]
    show ntN (qK β n) os1 + (0 + (0 + ntN (qK β n) y.2.1)) = _
    omega
  have bF : zbk (qK β n) c (os1 ++ U :: (XO ++ y.2.1)) = zbk (qK β n) c os ++ zbk (qK β n) (c + wR (qK β n) os + wR (qK β n) XO) y.2.1 := by
    rw [zbk_app, bU]
    show _ ++ ((if U.1 = 60 then _ else []) ++ zbk (qK β n) (c + wR (qK β n) os1 + lR (qK β n) U) (XO ++ y.2.1)) = _
    rw [if_neg hU60, lU, zbk_app, zbk_n _ _ _ n8, eC]
    rfl
  have hkI : ∀ i, i ∈ [6117, 6122, 6123, 6126, 6127, 6134, 6137, 6140] → sI S10 i = sI S i := fun i hi => by
    have hi' : i ∈ [6117, 6122, 6123, 6126, 6127, 6134, 6137, 6139, 6140] := by
      simp only [List.mem_cons, List.not_mem_nil, or_false] at hi ⊢
      omega
    exact (hi10 i).trans ((e2 i hi).trans ((kX_nx kx8 hi').trans (g2 i hi)))
  refine ⟨⟨z10', hkI, fun _ => (hi10 6139).trans ((e3 rfl).trans ((kX_nx kx8 (by decide)).trans (g3 rfl))), (fun hz => by cases hz), zDf_X e5 kx10, fun hl => ?_, ?_, ?_, ?_, ?_, ?_, fun j j1 j2 => ?_, e13, fun _ => e14 ylt, ?_, hs16⟩, ?_⟩
  · refine n60_app.mpr ⟨hn1 hl, fun o ho => ?_⟩
    rcases List.mem_cons.mp ho with q1 | q1
    · rw [q1]; exact hU60
    · rcases List.mem_append.mp q1 with q1 | q1
      · exact n8 o q1
      · exact e6 hl o q1
  · show wR (qK β n) (os1 ++ U :: (XO ++ y.2.1)) + 13 * rem β n y.1 ≤ _
    rw [wF]
    omega
  · show nwN (qK β n) (os1 ++ U :: (XO ++ y.2.1)) + rem β n y.1 ≤ _
    rw [nF]
    omega
  · show ntN (qK β n) (os1 ++ U :: (XO ++ y.2.1)) + rem β n y.1 ≤ _
    rw [tF]
    omega
  · show y.2.2.1.1.length + rem β n y.1 ≤ _
    omega
  · show (zbk (qK β n) c (os1 ++ U :: (XO ++ y.2.1))).length + qP β n k ≤ qP β n y.1
    rw [bF, List.length_append]
    have := qP_le (β := β) (n := n) (show q ≤ jx + 2 by omega)
    omega
  · rcases Nat.lt_or_ge j q with a1 | a1
    · exact g12 j j1 a1
    rcases Nat.lt_or_ge jx j with a2 | a2
    · rcases Nat.lt_or_ge j (jx + 2) with a3 | a3
      · obtain rfl : j = jx + 1 := by omega
        exact ⟨by omega, p4⟩
      · obtain ⟨b1, b2⟩ := e12 j a3 j2
        exact ⟨by omega, b2⟩
    · exact y4 j a1 a2
  · show k ≤ y.1
    omega
  · show wR (qK β n) (os1 ++ U :: (XO ++ y.2.1)) + 2 + 13 * rem β n y.1 ≤ _
    rw [wF]
    omega
theorem z_try {dp ind tr ca af k F D : Nat} {opn : Nat → Nat} {lp : LpT} {sc : SCs} {at' : List Nat} (hX : zX β n V own0 m k1 S0) (hB : ZB β n E V T own0 m u k1 S0 H B0 W F 0) (h : zIs β n E V T own0 m u k1 S0 H B0 W 0 opn dp ind s lp tr sc at' X af c w t b k S) (hK : qK β n k = 54) (hF : 4 * rem β n k ≤ F + 4) (hD : lvZ dp ≤ D + 1) : ∃ S1 v, Ans D 347 [.ref 61, .int (nI ind)] S (some (.int v)) S1 ∧ zOs β n E V T own0 m u k1 S0 H B0 W 0 opn (dp + 1) ind lp sc at' X af S c w t b k (psTry (qK β n) (qL β n) (qI β n) E (ps (qK β n) (qL β n) (qI β n) E F) dp ind s lp tr ca c sc at' k) v S1 := by
  obtain ⟨h0, ⟨r1, r2, r3, r4⟩, hls, hK1, hI, hx1, hx2, hx3⟩ := h
  obtain ⟨h1, h2, h3, h4, h5, h6, h7, h8, h9, h10, h11, h12, h13⟩ := id h0
  obtain ⟨⟨c01, c02, c03, c04, c05⟩, ⟨c11, c12⟩, ⟨c21, c22, c23⟩, ⟨tr', c31, c32, c33⟩, c4, c5, ⟨c61, c62⟩, ⟨c71, c72, c73, c74⟩, ⟨c81, c82⟩, c9, c10⟩ := id h4
  obtain rfl := c33 rfl
  have htd := hx3 rfl
  have hk1 := hX.2.1
  have hn3 := hX.1
  have hm1 := hX.2.2.2.2.1
  have hiM := k_i (k := k) hX
  have hlv : lvZ dp = 260 + 4 * (12 - dp) := rfl
  obtain ⟨e, rfl⟩ : ∃ e, D = e + 10 := ⟨D - 10, by omega⟩
  have hk2 := q_end hX h7 hK1
  obtain ⟨q1, q2, q3, q4⟩ := rm_gt (β := β) (n := n) (k := k) (by omega)
  obtain ⟨q5, q6⟩ := rem_ge hK1
  obtain ⟨q7, q8⟩ := rem_ge q4
  have hEa := zE_wI (i := 6115) (x := nI (k + 1)) h1 (by decide)
  have kxa : kX m S (wI 6115 (nI (k + 1)) S) := kX_wI (Or.inl rfl)
  have fa : sI (wI 6115 (nI (k + 1)) S) 6116 = nI 0 := (rIn _ _ (by decide)).trans h3
  have ml : ∀ {v' : Int32} {Sf : cS}, Bod (e + 9) 347 0 [(0, .ref 61), (1, .int (nI ind))] [] S (some (.int v')) Sf → Ans (e + 10) 347 [.ref 61, .int (nI ind)] S (some (.int v')) Sf := fun p => Ans.of (by rw [ml_347]; exact Nat.le_of_ble_eq_true rfl) p
  have z0 : zO β n V (zPT (qK β n) (qI β n) V T) (agT T sc.1) own0 m u S0 H B0 X (X 2 - 1) (wI 6115 (nI (k + 1)) S) c w t (sc.1.length - 1) b (k + 1) [] (sc.1.length - 1) (wI 6115 (nI (k + 1)) S) := zO_nil hEa (rIe _ _ _) fa
  obtain ⟨S1, hA1, z1, kx1⟩ := zO_hole (d := e + 4) (o := (12, [], 0, 0)) (x := nI 34) hX z0 (by show c + 0 + 2 ≤ H; omega) h12 rfl (by decide) (by decide) (by decide) rfl
  have kx01 := kX_trans kxa kx1
  have hE1 : zE own0 m u S0 H B0 (c + 2) w t (sc.1.length - 1) b S1 := z1.1
  have hI1 := zI0_X (k' := k + 1) (sc' := sc) (c' := c + 2) h0 kx01 hE1 z1.2.1 z1.2.2.1 (by omega) h9 h10 (by omega) hk2 hK1 hI (fun j j1 j2 => by
    rcases (show j = k ∨ j = k + 1 by omega) with rfl | rfl
    · exact ⟨hK1, by omega⟩
    · exact ⟨q4, by omega⟩) rfl (scL_refl E sc) (Or.inl rfl) (Or.inr (by omega))
  have htr1 : sI S1 6127 = nI tr' := (kX_nx kx01 (by decide)).trans c31
  have hIt := zI0_tr hI1 htd
  have hz13 : qK β n (k + 1) = 13 → qK β n (k + 1 + 1) = 2 → zRm β n H W (k + 1 + 2) (c + 2) w t (sc.1.length - 1) := fun e1 e2 => by
    obtain ⟨p1, p2, p3, p4⟩ := rm_gt (β := β) (n := n) (k := k + 1) (by omega)
    have p5 : rem β n (k + 1 + 2) + 1 ≤ rm β n (k + 1 + 1) := rm_nl (β := β) (n := n) (j := k + 1 + 1) e2
    exact ⟨by omega, by omega, by omega, by omega, h12, h13⟩
  obtain ⟨S2, v2, hA2, hO2⟩ := hB opn dp ind s lp (tr' + 1) (ca + 2) sc at' X af (c + 2) w t b (k + 1) _ (e + 9) hIt q4 (by omega) (by omega) hz13 (by omega)
  rw [show bmZ 0 = 2 from rfl] at hO2
  have hPs : psTry (qK β n) (qL β n) (qI β n) E (ps (qK β n) (qL β n) (qI β n) E F) dp ind s lp tr' ca c sc at' k = sb (ps (qK β n) (qL β n) (qI β n) E F 2 (dp + 1) ind s lp (tr' + 1) (ca + 2) (c + 2) sc at' (k + 1)) _ := rfl
  rcases hO2 with ⟨l, hb, hv, hzB⟩ | ⟨x, hx, hv, x13, x2', xI, xlt, hG⟩
  · rw [hv] at hA2
    refine ⟨S2, nI 0, ml (zTr_8 (d := e + 1) (by omega) h2 (by omega) (show c + 0 + 1 < 2 ^ 20 by omega) hA1 htr1 (by omega) hA2), Or.inl ⟨l, ?_, rfl, hzB⟩⟩
    rw [hPs]
    rcases hb with ⟨q, hq, hl⟩ | ⟨x, hx, e1, e3, hl⟩
    · rw [hq]
      exact Or.inl ⟨q, rfl, hl⟩
    · rw [hx, sb_r]
      have := e3 dp (by omega)
      rw [c04] at this
      rw [if_neg (fun q => this q.2.symm)]
      exact Or.inl ⟨_, rfl, hl⟩
  rw [hv] at hA2
  obtain ⟨g1, g2, g3, -, g5, g6, g7, g8, g9, g10, g11, g12, g13, g14, g15, g16⟩ := hG
  rw [hPs, hx, sb_r]
  obtain ⟨p1, p2, p3, p4⟩ := rm_gt (β := β) (n := n) (k := k + 1) (by omega)
  have p5 : rem β n (k + 1 + 2) + 1 ≤ rm β n (k + 1 + 1) := rm_nl (β := β) (n := n) (j := k + 1 + 1) x2'
  have hlen : sc.1.length ≤ x.2.2.1.1.length := by
    obtain ⟨⟨l0, hl0⟩, _⟩ := g16
    rw [hl0, List.length_append]
    omega
  have htr2 : sI S2 6127 = nI (tr' + 1) := (g2 6127 (by decide)).trans (rIe _ _ _)
  have z1' : zO β n V (zPT (qK β n) (qI β n) V T) (agT T sc.1) own0 m u S0 H B0 X (X 2 - 1) (wI 6115 (nI (k + 1)) S) c w t (sc.1.length - 1) b (k + 1) [(12, [], 0, 0)] (sc.1.length - 1) (wI 6127 (nI (tr' + 1)) S1) := zO_wI z1 (by decide)
  have z2 := zO_app (Y := X) z1' g1 (fun _ => Nat.le_refl _) (agT_L g16)
  have z2' := zO_wI (i := 6127) (x := nI (tr' + 1 - 1)) z2 (by decide)
  have w2 : wR (qK β n) ([(12, [], 0, 0)] ++ x.2.1) = 2 + wR (qK β n) x.2.1 := wR_app _ _ _
  obtain ⟨S3, hA3, z3, kx3⟩ := zO_1 (d := e + 5) (o := (13, [1], 0, 0)) (x := nI 35) hX z2' (by rw [w2]; omega) h12 rfl (by decide) (by decide) (by decide) rfl
  have w3 : wR (qK β n) (([(12, [], 0, 0)] ++ x.2.1) ++ [(13, [1], 0, 0)]) = 3 + wR (qK β n) x.2.1 := by
    rw [wR_app, w2]
    show 2 + wR (qK β n) x.2.1 + 1 = _
    omega
  obtain ⟨S4, hA4, z4, kx4⟩ := zO_hole (d := e + 4) (o := (4, [], 0, 0)) (x := nI 11) hX z3 (by rw [w3]; omega) h12 rfl (by decide) (by decide) (by decide) rfl
  have l4 : (([((12, [], 0, 0) : Op)] ++ x.2.1) ++ [(13, [1], 0, 0)]) ++ [(4, [], 0, 0)] = [] ++ (12, [], 0, 0) :: (x.2.1 ++ [(13, [1], 0, 0), (4, [], 0, 0)]) := by simp only [List.append_assoc, List.cons_append, List.nil_append]
  rw [l4] at z4
  obtain ⟨S5, hA5, z5, kx5, hi5⟩ := zO_fill (d := e + 8) (x := ((6 + wC x.2.1 : Nat) : Int)) hX z4 h12 (by show (12 : Nat) ∈ _; decide)
  have w5 : ((1 + wR (qK β n) (x.2.1 ++ [(13, [1], 0, 0), (4, [], 0, 0)]) : Nat) : Int) = ((4 + wR (qK β n) x.2.1 : Nat) : Int) := by
    rw [wR_app]
    show ((1 + (wR (qK β n) x.2.1 + 3) : Nat) : Int) = _
    omega
  rw [w5] at z5
  obtain ⟨U, hU⟩ : ∃ U : Op, U = (12, [], ((6 + wC x.2.1 : Nat) : Int), ((4 + wR (qK β n) x.2.1 : Nat) : Int)) := ⟨_, rfl⟩
  have z5' : zO β n V (zPT (qK β n) (qI β n) V T) (agT T x.2.2.1.1) own0 m u S0 H B0 X (X 2 - 1) (wI 6115 (nI (k + 1)) S) c w t (sc.1.length - 1) b x.1 (U :: (x.2.1 ++ [(13, [1], 0, 0), (4, [], 0, 0)])) (x.2.2.1.1.length - 1) S5 := by rw [hU]; exact z5
  have kx25 : kX m (wI 6127 (nI (tr' + 1 - 1)) S2) S5 := kX_trans kx3 (kX_trans kx4 kx5)
  have wU : wR (qK β n) (U :: (x.2.1 ++ [(13, [1], 0, 0), (4, [], 0, 0)])) = 5 + wR (qK β n) x.2.1 := by
    show lR (qK β n) U + wR (qK β n) (x.2.1 ++ [(13, [1], 0, 0), (4, [], 0, 0)]) = _
    rw [wR_app, hU]
    show 2 + (wR (qK β n) x.2.1 + 3) = _
    omega
  have nU : nwN (qK β n) (U :: (x.2.1 ++ [(13, [1], 0, 0), (4, [], 0, 0)])) = nwN (qK β n) x.2.1 := by
    show nwO (qK β n) U + nwN (qK β n) (x.2.1 ++ [(13, [1], 0, 0), (4, [], 0, 0)]) = _
    rw [nwN_app, hU]
    show 0 + (nwN (qK β n) x.2.1 + 0) = _
    omega
  have tU : ntN (qK β n) (U :: (x.2.1 ++ [(13, [1], 0, 0), (4, [], 0, 0)])) = ntN (qK β n) x.2.1 := by
    show ntO (qK β n) U + ntN (qK β n) (x.2.1 ++ [(13, [1], 0, 0), (4, [], 0, 0)]) = _
    rw [ntN_app, hU]
    show 0 + (ntN (qK β n) x.2.1 + 0) = _
    omega
  have hU60 : U.1 ≠ 60 := by rw [hU]; show (12 : Nat) ≠ 60; decide
  have n134 : n60 [((13, [1], 0, 0) : Op), (4, [], 0, 0)] := fun o ho => by
    rcases List.mem_cons.mp ho with e1 | e1
    · rw [e1]; show (13 : Nat) ≠ 60; decide
    · rw [List.mem_singleton.mp e1]; show (4 : Nat) ≠ 60; decide
  have lU : lR (qK β n) U = 2 := by rw [hU]; rfl
  have bU : zbk (qK β n) c (U :: (x.2.1 ++ [(13, [1], 0, 0), (4, [], 0, 0)])) = zbk (qK β n) (c + 2) x.2.1 := by
    show (if U.1 = 60 then [c + 1] else []) ++ zbk (qK β n) (c + lR (qK β n) U) (x.2.1 ++ [(13, [1], 0, 0), (4, [], 0, 0)]) = _
    rw [if_neg hU60, lU, zbk_app, zbk_n _ _ _ n134, List.append_nil, List.nil_append]
  have hm3 : c + wR (qK β n) (([(12, [], 0, 0)] ++ x.2.1) ++ [(13, [1], 0, 0)]) + 1 < 2 ^ 20 := by rw [w3]; omega
  have hq1 := qP_le (β := β) (n := n) (show k ≤ k + 1 + 2 by omega)
  have hk13 : sI S5 6115 = nI x.1 := z5.2.1
  have hf5 : sI S5 6116 = nI 0 := z5.2.2.1
  have hmid : ∀ i, i ∈ [6117, 6122, 6123, 6126, 6127, 6134, 6137, 6139, 6140] → sI S5 i = sI S i := fun i hi => by
    refine (kX_nx kx25 hi).trans ?_
    by_cases e1 : i = 6127
    · rw [e1, rIe, c31]
      exact congrArg nI (by omega)
    · rw [rIn _ _ e1]
      have e3 : sI (wI 6127 (nI (tr' + 1)) S1) i = sI S i := (rIn _ _ e1).trans (kX_nx kx01 hi)
      by_cases e2 : i = 6139
      · rw [e2]
        rw [e2] at e3
        exact (g3 rfl).trans e3
      · refine (g2 i ?_).trans e3
        simp only [List.mem_cons, List.not_mem_nil, or_false] at hi ⊢
        omega
  have zp5 := zO_pre z5' (S := S) (kW_wI _ _ _ _ _) kA_wI
  have hline : ∀ j, k ≤ j → j < x.1 → ind ≤ qI β n j ∧ qK β n j ≠ 1 := fun j j1 j2 => by
    rcases Nat.lt_or_ge j (k + 1 + 2) with e1 | e1
    · rcases (show j = k ∨ j = k + 1 ∨ j = k + 2 by omega) with rfl | rfl | rfl
      · exact ⟨by omega, hK1⟩
      · exact ⟨by omega, q4⟩
      · exact ⟨by have : qI β n (k + 2) = qI β n (k + 1) := p2; omega, p4⟩
    · obtain ⟨a1, a2⟩ := g12 j e1 j2
      exact ⟨by omega, a2⟩
  have gP : zG β n E V T own0 m u k1 S0 H B0 0 ind lp sc at' X af S c w t b k (x.1, U :: (x.2.1 ++ [(13, [1], 0, 0), (4, [], 0, 0)]), x.2.2.1, at') S5 := by
    refine ⟨zp5, fun i hi => hmid i (by
      simp only [List.mem_cons, List.not_mem_nil, or_false] at hi ⊢
      omega), fun _ => hmid 6139 (by decide), (fun hz => by cases hz), zDf_X (S := wI 6127 (nI (tr' + 1 - 1)) S2) g5 kx25, fun hl => ?_, ?_, ?_, ?_, ?_, ?_, hline, g13, fun _ => g14 (by omega), by show k ≤ x.1; omega, g16⟩
    · intro o ho
      rcases List.mem_cons.mp ho with e1 | e1
      · rw [e1]; exact hU60
      · rcases List.mem_append.mp e1 with e1 | e1
        · exact g6 hl o e1
        · exact n134 o e1
    · show wR (qK β n) _ + 13 * rem β n x.1 ≤ _
      rw [wU]
      omega
    · show nwN (qK β n) _ + rem β n x.1 ≤ _
      rw [nU]
      omega
    · show ntN (qK β n) _ + rem β n x.1 ≤ _
      rw [tU]
      omega
    · show x.2.2.1.1.length + rem β n x.1 ≤ _
      omega
    · show (zbk (qK β n) c _).length + qP β n k ≤ qP β n x.1
      rw [bU]
      omega
  have hI5 := zI0_next hX h0 (x := (x.1, U :: (x.2.1 ++ [(13, [1], 0, 0), (4, [], 0, 0)]), x.2.2.1, at')) (by show w + nwN (qK β n) _ ≤ W; rw [nU]; omega) (by show t + ntN (qK β n) _ ≤ W; rw [tU]; omega) (by show x.2.2.1.1.length - 1 ≤ W; omega) (Or.inl rfl) hK1 hI (Or.inl (by omega)) gP
  rw [upX_0] at hI5
  obtain ⟨os, hos⟩ : ∃ os, os = U :: (x.2.1 ++ [(13, [1], 0, 0), (4, [], 0, 0)]) := ⟨_, rfl⟩
  rw [← hos] at zp5 hI5 wU nU tU bU
  have hE5 := hI5.1
  have hm3' : c + wR (qK β n) (([(12, [], 0, 0)] ++ x.2.1) ++ [(13, [1], 0, 0)]) + 1 < 2 ^ 20 := hm3
  obtain ⟨t1, -, t70, -⟩ := z_tok hX hE5 g13
  have hlt1 := rkd_lt (qK β n x.1)
  have tP : (tr' + 1 - 1) = tr' := rfl
  have bq := z_bad (d := e + 7) (j := x.1) hX hE5 hk13 hf5 g13 (by show w + nwN (qK β n) os ≤ W; rw [nU]; omega) (by show t + ntN (qK β n) os ≤ W; rw [tU]; omega) (by show x.2.2.1.1.length - 1 ≤ W; omega)
  have hm0 : c + wR (qK β n) ([] : List Op) + 1 < 2 ^ 20 := by show c + 0 + 1 < _; omega
  by_cases hq1' : qK β n x.1 = 1
  · rw [if_neg (fun q => by rw [hq1'] at q; exact absurd q.1 (by decide))]
    obtain ⟨b1, b2⟩ := bq
    refine ⟨_, nI 0, ml (zTr_1 (d := e + 1) (by omega) h2 (by omega) hm0 hA1 htr1 (by omega) hA2 htr2 (by omega) (by omega) hA3 hm3 hA4 hA5 hk13 (by omega) t1 (by omega) (by rw [hq1']; rfl) b1), Or.inl ⟨_, zB_in (show fl β n x.1 = flq (qL β n x.1) from rfl), rfl, b2⟩⟩
  have e7 : rkd (qK β n x.1) ≠ 7 := fun q => hq1' (rkd_7.mp q)
  have tI := t70 hq1' (q_ls2 (Or.inl (g14 xlt)))
  have hiM2 := k_i (k := x.1) hX
  by_cases hqI : qI β n x.1 = ind
  case neg =>
    rw [if_neg (fun q => hqI q.2)]
    obtain ⟨b1, b2⟩ := bq
    exact ⟨_, nI 0, ml (zTr_2 (d := e + 1) (by omega) h2 (by omega) hm0 hA1 htr1 (by omega) hA2 htr2 (by omega) (by omega) hA3 hm3 hA4 hA5 hk13 (by omega) t1 (by omega) e7 tI (by omega) (by omega) b1), Or.inl ⟨_, zB_in (show fl β n x.1 = flq (qL β n x.1) from rfl), rfl, b2⟩⟩
  by_cases h55 : qK β n x.1 = 55
  case neg =>
    rw [if_neg (fun q => h55 q.1)]
    obtain ⟨b1, b2⟩ := bq
    have hw := z_wdF (d := e + 8) (K := 15) hX hE5 hk13 g13 (by decide) h55
    exact ⟨_, nI 0, ml (zTr_7 (d := e + 1) (by omega) h2 (by omega) hm0 hA1 htr1 (by omega) hA2 htr2 (by omega) (by omega) hA3 hm3 hA4 hA5 hk13 (by omega) t1 (by omega) e7 tI (by omega) hqI hw b1), Or.inl ⟨_, zB_in (show fl β n x.1 = flq (qL β n x.1) from rfl), rfl, b2⟩⟩
  rw [if_pos ⟨h55, hqI⟩]
  obtain ⟨v1, v2, v3, v4⟩ := rm_gt (β := β) (n := n) (k := x.1) (by omega)
  obtain ⟨v5, v6⟩ := rem_ge hq1'
  have hU1 : U :: (x.2.1 ++ [((13, [1], 0, 0) : Op)]) ++ [(4, [], 0, 0)] = os := by rw [hos]; simp only [List.append_assoc, List.cons_append, List.nil_append]
  have wU1 : wR (qK β n) (U :: (x.2.1 ++ [((13, [1], 0, 0) : Op)])) = 3 + wR (qK β n) x.2.1 := by
    have := wU
    rw [← hU1, wR_app] at this
    have h2 : wR (qK β n) [((4, [], 0, 0) : Op)] = 2 := rfl
    omega
  obtain ⟨S6, S7, S8, S9, v9, hA6, hA7, hk7, hcase, hA9, hO9⟩ := z_tr2 (os1 := U :: (x.2.1 ++ [(13, [1], 0, 0)])) (cx := ca + 2 + wC x.2.1 + 4 + wC (exO (qK β n) s (x.1 + 1))) (e := e) hX hK hB h0 hK1 hI ⟨r1, r2, r3, r4⟩ (by rw [hU1, hos]; exact gP) (by rw [wU1]; omega) h55 hqI (by omega) (fun hl o ho => by
    rcases List.mem_cons.mp ho with e1 | e1
    · rw [e1]; exact hU60
    · rcases List.mem_append.mp e1 with e1 | e1
      · exact g6 hl o e1
      · rw [List.mem_singleton.mp e1]; show (13 : Nat) ≠ 60; decide) (by omega) (by omega)
  rw [wU1, show c + (3 + wR (qK β n) x.2.1) + 2 + wR (qK β n) (exO (qK β n) s (x.1 + 1)) = c + 2 + wR (qK β n) x.2.1 + 3 + wR (qK β n) (exO (qK β n) s (x.1 + 1)) by omega] at hO9
  have hq2 := q_end hX g13 hq1'
  have go : ∀ {v : Int32} {Sf : cS}, Ans (e + 9) 334 [.ref 61, .int (nI ind), .int (nI 0)] S8 (some (.int v)) Sf → (v = nI 0 → Ans (e + 10) 347 [.ref 61, .int (nI ind)] S (some (.int 0)) Sf) ∧ (v = nI 1 → ∀ {Sg : cS}, Ans (e + 9) 326 [.ref 61, .int (nI (c + wR (qK β n) (([(12, [], 0, 0)] ++ x.2.1) ++ [(13, [1], 0, 0)]) + 1))] Sf none Sg → Ans (e + 10) 347 [.ref 61, .int (nI ind)] S (some (.int 1)) Sg) := fun {v Sf} hA => by
    rcases hcase with ⟨r, i1, i2, i3, i4, i5, i6⟩ | ⟨r, i1, i2, i3, i4, i5⟩
    · rw [i6] at hA
      refine ⟨fun hv => ?_, fun hv Sg hg => ?_⟩
      · rw [hv] at hA
        exact ml (zTr_6 (d := e + 1) (by omega) h2 (by omega) hm0 hA1 htr1 (by omega) hA2 htr2 (by omega) (by omega) hA3 hm3 hA4 hA5 hk13 (by omega) t1 (by omega) e7 tI (by omega) hqI hA6 hk13 (by omega) hA7 hk7 (by omega) i2 (by decide) rfl i3 i1 i4 i5 (by omega) hA)
      · rw [hv] at hA
        exact ml (zTr_5 (d := e + 1) (by omega) h2 (by omega) hm0 hA1 htr1 (by omega) hA2 htr2 (by omega) (by omega) hA3 hm3 hA4 hA5 hk13 (by omega) t1 (by omega) e7 tI (by omega) hqI hA6 hk13 (by omega) hA7 hk7 (by omega) i2 (by decide) rfl i3 i1 i4 i5 (by omega) hA hg)
    · rw [i5] at hA
      refine ⟨fun hv => ?_, fun hv Sg hg => ?_⟩
      · rw [hv] at hA
        exact ml (zTr_4 (d := e + 1) (by omega) h2 (by omega) hm0 hA1 htr1 (by omega) hA2 htr2 (by omega) (by omega) hA3 hm3 hA4 hA5 hk13 (by omega) t1 (by omega) e7 tI (by omega) hqI hA6 hk13 (by omega) hA7 hk7 (by omega) i3 i2 i1 i4 hA)
      · rw [hv] at hA
        exact ml (zTr_3 (d := e + 1) (by omega) h2 (by omega) hm0 hA1 htr1 (by omega) hA2 htr2 (by omega) (by omega) hA3 hm3 hA4 hA5 hk13 (by omega) t1 (by omega) e7 tI (by omega) hqI hA6 hk13 (by omega) hA7 hk7 (by omega) i3 i2 i1 i4 hA hg)
  rcases hO9 with ⟨l, hb, hv, hzB⟩ | ⟨y, S10, hy, hv, hA10, hG, hW⟩
  · refine ⟨S9, nI 0, (go hA9).1 hv, Or.inl ⟨l, ?_, rfl, hzB⟩⟩
    rcases hb with ⟨q, hq, hl⟩ | ⟨x', hx', e1, e3, hl⟩
    · rw [hq]
      exact Or.inl ⟨q, rfl, hl⟩
    · rw [hx', sb_r]
      exact Or.inr ⟨_, rfl, e1, e3, hl⟩
  · refine ⟨S10, nI 1, (go hA9).2 hv (by rw [w3]; exact hA10), Or.inr ⟨_, ?_, rfl, hG, hW⟩⟩
    rw [hy, sb_r, hU]
    simp only [List.append_assoc, List.cons_append, List.nil_append]
end
