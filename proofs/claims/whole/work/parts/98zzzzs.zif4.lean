/-! STATEMENTS OF THE REFERENCE: if, with more behind -/
section
variable {β : Nat → Nat} {n : Nat} {E : Nat → Nat → Bool} {V : Nat → Int32} {T : Nat → Nat × Nat} {P : Nat → Int32 → Int32 × Int32} {own0 : Nat → Nat × Nat} {m u k1 : Nat} {S0 S S1 S2 : cS} {H B0 W d l c w t f f1 b j s : Nat} {X Y : Nat → Nat} {o1 o2 : List Op} {A A1 : Prop}
theorem if_more {dp ind tr af k q e : Nat} {opn : Nat → Nat} {lp : LpT} {sc sc2 : SCs} {at' : List Nat} {r bl : List Op} {S3 : cS} {z : Int} (hX : zX β n V own0 m k1 S0) (h0 : zI0 β n E V T own0 m u k1 S0 H B0 W 0 opn dp ind s lp tr sc at' X af c w t b k S) (hr : c + 13 * rem β n k ≤ H + 2 ∧ w + rem β n k ≤ W ∧ t + rem β n k ≤ W ∧ sc.1.length - 1 + rem β n k ≤ W) (hK : 40 ≤ qK β n k) (hI : qI β n k = ind) (g : zG β n E V T own0 m u k1 S0 H B0 0 ind lp sc at' X af S c w t b k (q, r ++ (5, [], 0, 0) :: bl, sc2, at') S3) (hw : wR (qK β n) (r ++ (5, [], 0, 0) :: bl) + 6 + 13 * rem β n q ≤ 13 * rem β n k) (hkq : k < q) : ∃ S4 S5, Ans (e + 9) 325 [.ref 61, .int (nI 11)] S3 (some (.int (nI (c + wR (qK β n) (r ++ (5, [], 0, 0) :: bl) + 1)))) S4 ∧ c + wR (qK β n) (r ++ (5, [], 0, 0) :: bl) + 1 < 2 ^ 20 ∧ sI S4 6134 = nI (X 5) ∧ Ans (e + 9) 326 [.ref 61, .int (nI (c + wR (qK β n) r + 1))] (wI 6134 (nI (X 5 + 1)) (wA 81 (X 5) (nI (c + wR (qK β n) (r ++ (5, [], 0, 0) :: bl) + 1)) S4)) none S5 ∧ zG β n E V T own0 m u k1 S0 H B0 0 ind lp sc at' X af S c w t b k (q, (r ++ (5, [], z, ((3 + wR (qK β n) bl : Nat) : Int)) :: bl) ++ [(4, [], 0, 0)], sc2, at') (wI 6134 (nI (X 5)) S5) ∧ zI0 β n E V T own0 m u k1 S0 H B0 W 0 opn dp ind s lp tr sc2 at' (upE (X 5 + 1) X) af (c + wR (qK β n) ((r ++ (5, [], z, ((3 + wR (qK β n) bl : Nat) : Int)) :: bl) ++ [(4, [], 0, 0)])) (w + nwN (qK β n) ((r ++ (5, [], z, ((3 + wR (qK β n) bl : Nat) : Int)) :: bl) ++ [(4, [], 0, 0)])) (t + ntN (qK β n) ((r ++ (5, [], z, ((3 + wR (qK β n) bl : Nat) : Int)) :: bl) ++ [(4, [], 0, 0)])) (b + (zbk (qK β n) c ((r ++ (5, [], z, ((3 + wR (qK β n) bl : Nat) : Int)) :: bl) ++ [(4, [], 0, 0)])).length) q S5 ∧ (∀ i, i < X 5 → sA S5 81 i = sA S 81 i) ∧ sA S5 81 (X 5) = nI (c + wR (qK β n) (r ++ (5, [], 0, 0) :: bl) + 1) ∧ sI S5 6134 = nI (X 5 + 1) ∧ sI S5 6115 = nI q ∧ wR (qK β n) (r ++ (5, [], z, ((3 + wR (qK β n) bl : Nat) : Int)) :: bl) = wR (qK β n) (r ++ (5, [], 0, 0) :: bl) := by
  have hK40 := hK
  replace hK : 3 ≤ qK β n k := by omega
  obtain ⟨r1, r2, r3, r4⟩ := hr
  obtain ⟨h1, h2, h3, h4, h5, h6, h7, h8, h9, h10, h11, h12, h13⟩ := id h0
  obtain ⟨c0, c1, c2, c3, c4, c5, ⟨c61, c62⟩, c7, c8, c9, c10⟩ := id h4
  have hK1 : qK β n k ≠ 1 := by omega
  obtain ⟨q1, q2, q3, q4⟩ := rm_gt (β := β) (n := n) (k := k) hK
  have z3 : zO β n V (zPT (qK β n) (qI β n) V T) (agT T sc2.1) own0 m u S0 H B0 X (X 2 - 1) S c w t (sc.1.length - 1) b q (r ++ (5, [], 0, 0) :: bl) (sc2.1.length - 1) S3 := g.1
  obtain ⟨f5, f6, f7, f8⟩ := l5 (os := r) (bl := bl) (bl' := bl) (z := 0) (r := 0) c (qK β n)
  obtain ⟨f1, f2, f3, f4⟩ := l5 (os := r) (bl := bl) (bl' := bl) (z := z) (r := 3 + wR (qK β n) bl) c (qK β n)
  have f5' : wR (qK β n) (r ++ (5, [], 0, 0) :: bl) = wR (qK β n) r + 2 + wR (qK β n) bl := f5
  have f6' : nwN (qK β n) (r ++ (5, [], 0, 0) :: bl) = nwN (qK β n) r + nwN (qK β n) bl := f6
  have f7' : ntN (qK β n) (r ++ (5, [], 0, 0) :: bl) = ntN (qK β n) r + ntN (qK β n) bl := f7
  have f8' : zbk (qK β n) c (r ++ (5, [], 0, 0) :: bl) = zbk (qK β n) c r ++ zbk (qK β n) (c + wR (qK β n) r + 2) bl := f8
  obtain ⟨g1, g2, g3, -, g5, g6, g7, g8, g9, g10, g11, g12, g13, g14, g15, g16⟩ := id g
  have g8' : nwN (qK β n) (r ++ (5, [], 0, 0) :: bl) + rem β n q ≤ rem β n k := g8
  have g9' : ntN (qK β n) (r ++ (5, [], 0, 0) :: bl) + rem β n q ≤ rem β n k := g9
  have g10' : sc2.1.length + rem β n q ≤ sc.1.length + rem β n k := g10
  obtain ⟨a, ha⟩ : ∃ a, a = c + wR (qK β n) (r ++ (5, [], 0, 0) :: bl) + 1 := ⟨_, rfl⟩
  obtain ⟨S4, hA4, z4, kx4⟩ := zO_hole (d := e + 4) (o := (4, [], 0, 0)) (x := nI 11) hX z3 (by omega) h12 rfl (by decide) (by decide) (by decide) rfl
  rw [← ha] at hA4 ⊢
  have h34 : sI S3 6134 = nI (X 5) := (g2 6134 (by decide)).trans c61
  have h44 : sI S4 6134 = nI (X 5) := (kX_nx kx4 (by decide)).trans h34
  obtain ⟨S4', hS4⟩ : ∃ S4', S4' = wI 6134 (nI (X 5 + 1)) (wA 81 (X 5) (nI a) S4) := ⟨_, rfl⟩
  have hEA := zE_wA (a := 81) (i := X 5) (x := nI a) z4.1 (by decide)
  have hkW : ∀ c' w' t' f' b', kW m c' w' t' f' b' S4 S4' := fun c' w' t' f' b' => by
    rw [hS4]
    exact kW_trans (kW_wA z4.1 (by decide) c' w' t' f' b') (kW_wI c' w' t' f' b') (Nat.le_refl _) (Nat.le_refl _) (Nat.le_refl _) (Nat.le_refl _) (Nat.le_refl _)
  have i4 : ∀ i, i ≠ 6134 → sI S4' i = sI S4 i := fun i hi => by rw [hS4]; exact rIn _ _ hi
  have hsA : ∀ a', a' ≠ 81 → sA S4' a' = sA S4 a' := fun a' a1 => by
    rw [hS4]
    show sA (wA 81 (X 5) (nI a) S4) a' = _
    rw [rAn _ _ _ a1]
  have hs8 : sA S4' 81 = upd (sA S4 81) (X 5) (nI a) := by
    rw [hS4]
    rfl
  have hkA : kA X S4 S4' := by
    refine ⟨fun i _ => ?_, fun i _ => ⟨?_, ?_, ?_⟩, fun i hi => ⟨?_, ?_⟩, fun i _ => ?_, fun i _ => ?_, fun i hi => ?_, fun i _ => ?_⟩
    case refine_9 => rw [hs8, upd_at, if_neg (by omega)]
    all_goals exact congrFun (hsA _ (by decide)) i
  have z4' := zO_ext z4 (S2 := S4') (by rw [hS4]; exact zE_wI hEA (by decide)) (i4 _ (by decide)) (i4 _ (by decide)) (hkW _ _ _ _ _) hkA
  have hl4 : (r ++ (5, [], 0, 0) :: bl) ++ [((4, [], 0, 0) : Op)] = r ++ (5, [], 0, 0) :: (bl ++ [(4, [], 0, 0)]) := by simp only [List.append_assoc, List.cons_append]
  rw [hl4] at z4'
  obtain ⟨S5, hA5, z5, kx5, hi5⟩ := zO_fill (d := e + 8) (x := z) hX z4' h12 (by show (5 : Nat) ∈ _; decide)
  have w4 : ((1 + wR (qK β n) (bl ++ [(4, [], 0, 0)]) : Nat) : Int) = ((3 + wR (qK β n) bl : Nat) : Int) := by
    rw [wR_app]
    show ((1 + (wR (qK β n) bl + 2) : Nat) : Int) = _
    omega
  have hl5 : (r ++ (5, [], z, ((3 + wR (qK β n) bl : Nat) : Int)) :: bl) ++ [((4, [], 0, 0) : Op)] = r ++ (5, [], z, ((3 + wR (qK β n) bl : Nat) : Int)) :: (bl ++ [(4, [], 0, 0)]) := by simp only [List.append_assoc, List.cons_append]
  have z5a : zO β n V (zPT (qK β n) (qI β n) V T) (agT T sc2.1) own0 m u S0 H B0 X (X 2 - 1) S c w t (sc.1.length - 1) b q ((r ++ (5, [], z, ((3 + wR (qK β n) bl : Nat) : Int)) :: bl) ++ [(4, [], 0, 0)]) (sc2.1.length - 1) S5 := by rw [hl5, ← w4]; exact z5
  clear z5
  obtain ⟨U, hU⟩ : ∃ U, U = r ++ (5, [], z, ((3 + wR (qK β n) bl : Nat) : Int)) :: bl := ⟨_, rfl⟩
  rw [← hU] at z5a f1 f2 f3 f4 ⊢
  have u1 : wR (qK β n) (U ++ [(4, [], 0, 0)]) = wR (qK β n) U + 2 := by rw [wR_app]; rfl
  have u2 : nwN (qK β n) (U ++ [(4, [], 0, 0)]) = nwN (qK β n) U := by rw [nwN_app]; rfl
  have u3 : ntN (qK β n) (U ++ [(4, [], 0, 0)]) = ntN (qK β n) U := by rw [ntN_app]; rfl
  have u4 : zbk (qK β n) c (U ++ [(4, [], 0, 0)]) = zbk (qK β n) c U := by rw [zbk_app, zbk_n _ _ _ (n60_1 (by show (4 : Nat) ≠ 60; decide)), List.append_nil]
  have zg := zO_wI (i := 6134) (x := nI (X 5)) z5a (by decide)
  have hd : ∀ i, i < sc2.1.length - 1 → dNm S5 m i = dNm S3 m i ∧ dAt S5 m i = dAt S3 m i ∧ dPa S5 m i = dPa S3 m i ∧ dLo S5 m i = dLo S3 m i := fun i hi => by
    obtain ⟨a1, a2, a3, a4⟩ := (hkW 0 0 0 (sc2.1.length - 1) 0).2.1 i hi
    exact ⟨(congrFun kx5.2.2.1 i).trans (a1.trans (congrFun kx4.2.2.1 i)), (congrFun kx5.2.2.2.1 i).trans (a2.trans (congrFun kx4.2.2.2.1 i)), (congrFun kx5.2.2.2.2.1 i).trans (a3.trans (congrFun kx4.2.2.2.2.1 i)), (congrFun kx5.2.2.2.2.2.1 i).trans (a4.trans (congrFun kx4.2.2.2.2.2.1 i))⟩
  have gP := zG_re g zg (fun i hi => by
    by_cases e1 : i = 6134
    · rw [e1, h34]
      exact rIe _ _ _
    · exact (rIn _ _ e1).trans ((hi5 i).trans ((i4 i e1).trans (kX_nx kx4 hi)))) hd (by rw [u1, f1]; omega) (by rw [u2, f2, f6']) (by rw [u3, f3, f7']) (by rw [u4, f4, f8']) (fun hn => n60_app.mpr ⟨by rw [hU]; exact n60_5.mpr (n60_5.mp hn), n60_1 (by show (4 : Nat) ≠ 60; decide)⟩)
  have hI5 := zI0_next hX h0 (x := (q, U ++ [(4, [], 0, 0)], sc2, at')) (by show w + nwN (qK β n) (U ++ [(4, [], 0, 0)]) ≤ W; rw [u2, f2]; omega) (by show t + ntN (qK β n) (U ++ [(4, [], 0, 0)]) ≤ W; rw [u3, f3]; omega) (by show sc2.1.length - 1 ≤ W; omega) (Or.inl rfl) hK1 hI (Or.inl (by omega)) gP
  rw [upX_0] at hI5
  have h54 : sI S5 6134 = nI (X 5 + 1) := (hi5 _).trans (by rw [hS4]; exact rIe _ _ _)
  have hqk : qP β n k + 1 ≤ qP β n q := by
    have a1 := (q_lt β n k).1
    have a2 := (q_lt β n (k + 1)).1
    have a3 := qP_le (β := β) (n := n) (show k + 1 ≤ q by omega)
    unfold rm at q1
    omega
  have hI6 := zI0_E (v := X 5 + 1) hI5 z5a.1 h54 (by show X 5 + 1 ≤ qP β n q; omega)
  have e81 : sA S5 81 = sA S4' 81 := (kx5.2.1 81 (by omega) (by omega) (by omega) (by omega)).1
  refine ⟨S4, S5, hA4, by omega, h44, by rw [← hS4]; exact hA5, gP, hI6, fun i hi => ?_, ?_, h54, z5a.2.1, by rw [f1, f5']⟩
  · rw [e81]
    exact (hkA.2.2.2.2.2.1 i hi).trans ((congrFun (kx4.2.1 81 (by omega) (by omega) (by omega) (by omega)).1 i).trans (g1.2.2.2.2.2.2.1.2.2.2.2.2.1 i hi))
  · rw [e81, hs8, upd_at, if_pos rfl]
/-- else -/
theorem if_else {dp ind tr ca af q e F le : Nat} {opn : Nat → Nat} {lp : LpT} {sc : SCs} {at' hs : List Nat} (hX : zX β n V own0 m k1 S0) (hB : ZB β n E V T own0 m u k1 S0 H B0 W F 0) (h0 : zI0 β n E V T own0 m u k1 S0 H B0 W 0 opn dp ind s lp tr sc at' X af c w t b q S) (hr : c + 13 * rem β n q ≤ H ∧ w + rem β n q ≤ W ∧ t + rem β n q ≤ W ∧ sc.1.length - 1 + rem β n q ≤ W) (hK40 : 40 ≤ qK β n q) (hI : qI β n q = ind) (hF : 4 * rm β n q ≤ F + 4) (hD : lvZ dp ≤ e + 11) (h6 : sI S 6134 = nI (X 5)) (hX5 : X 5 = le + hs.length) (hle : le + hs.length < 3000) (hh : ∀ i p, hs[i]? = some p → sA S 81 (le + i) = nI p ∧ p < c) : ∃ S6 v, Ans (e + 9) 334 [.ref 61, .int (nI ind), .int (nI 0)] (wI 6115 (nI (q + 1)) S) (some (.int v)) S6 ∧ ((∃ l, zBd β n opn (dp + 1) (ps (qK β n) (qL β n) (qI β n) E F 2 (dp + 1) ind s lp tr ca c sc at' (q + 1)) l ∧ v = nI 0 ∧ zB own0 m u S0 H B0 W l S6) ∨ ∃ y Sf, ps (qK β n) (qL β n) (qI β n) E F 2 (dp + 1) ind s lp tr ca c sc at' (q + 1) = .inr y ∧ v = nI 1 ∧ (∀ lv : sm_L, sm_get lv 0 = some (.ref 61) → sm_get lv 2 = some (.int (nI le)) → sm_get lv 4 = some (.int (nI le)) → Bod (e + 9) 333 208 lv [] S6 (some (.int 1)) Sf) ∧ zP β n E V T own0 m u k1 S0 H B0 hs le ind lp sc at' X af S c w t b q (y.1, y.2.1, y.2.2.1, at') Sf) := by
  obtain ⟨r1, r2, r3, r4⟩ := hr
  have hK : 3 ≤ qK β n q := by omega
  obtain ⟨h1, h2, h3, h4, h5, h6a, h7, h8, h9, h10, h11, h12, h13⟩ := id h0
  have hK1 : qK β n q ≠ 1 := by omega
  have hk2 := q_end hX h7 hK1
  obtain ⟨q1, q2, q3, q4⟩ := rm_gt (β := β) (n := n) (k := q) hK
  obtain ⟨q5, q6⟩ := rem_ge hK1
  have kxa : kX m S (wI 6115 (nI (q + 1)) S) := kX_wI (Or.inl rfl)
  have hEa := zE_wI (i := 6115) (x := nI (q + 1)) h1 (by decide)
  have hl2 : ∀ j, q ≤ j → j ≤ q + 1 → qK β n j ≠ 1 ∧ ind ≤ qI β n j := fun j j1 j2 => by
    rcases (show j = q ∨ j = q + 1 by omega) with rfl | rfl
    · exact ⟨hK1, by omega⟩
    · exact ⟨q4, by omega⟩
  have hIa := zI0_X (k' := q + 1) (sc' := sc) (c' := c) h0 kxa hEa (rIe _ _ _) ((rIn _ _ (by decide)).trans h3) (Nat.le_refl _) h9 h10 (by omega) hk2 hK1 hI hl2 rfl (scL_refl E sc) (Or.inl rfl) (Or.inr (by omega))
  have hz13 : qK β n (q + 1) = 13 → qK β n (q + 1 + 1) = 2 → zRm β n H W (q + 1 + 2) c w t (sc.1.length - 1) := fun e1 e2 => by
    obtain ⟨p1, p2, p3, p4⟩ := rm_gt (β := β) (n := n) (k := q + 1) (by omega)
    have p5 : rem β n (q + 1 + 2) + 1 ≤ rm β n (q + 1 + 1) := rm_nl (β := β) (n := n) (j := q + 1 + 1) e2
    exact ⟨by omega, by omega, by omega, by omega, h12, h13⟩
  obtain ⟨S6, v, hA6, hO⟩ := hB opn dp ind s lp tr ca sc at' X af c w t b (q + 1) _ (e + 9) hIa q4 (by omega) (by omega) hz13 (by omega)
  refine ⟨S6, v, hA6, ?_⟩
  rw [show bmZ 0 = 2 from rfl] at hO
  rcases hO with hbad | ⟨y, hy, hv, yk, y2', yI, ylt, hG⟩
  · exact Or.inl hbad
  obtain ⟨g1, g2, g3, -, g5, g6, g7, g8, g9, g10, g11, g12, g13, g14, g15, g16⟩ := hG
  obtain ⟨p1, p2, p3, p4⟩ := rm_gt (β := β) (n := n) (k := q + 1) (by omega)
  have p5 : rem β n (q + 1 + 2) + 1 ≤ rm β n (q + 1 + 1) := rm_nl (β := β) (n := n) (j := q + 1 + 1) y2'
  have hq2 := qP_le (β := β) (n := n) (show q ≤ q + 1 + 2 by omega)
  have zS := zO_pre g1 (S := S) (kW_wI _ _ _ _ _) kA_wI
  have gP : zG β n E V T own0 m u k1 S0 H B0 0 ind lp sc at' X af S c w t b q (y.1, y.2.1, y.2.2.1, at') S6 := by
    refine ⟨zS, fun i hi => (g2 i hi).trans (rIn _ _ ?_), fun _ => (g3 rfl).trans (rIn _ _ (by decide)), (fun hz => by cases hz), g5, g6, ?_, ?_, ?_, ?_, ?_, fun j j1 j2 => ?_, g13, fun _ => g14 ylt, ?_, g16⟩
    · simp only [List.mem_cons, List.not_mem_nil, or_false] at hi
      omega
    · show wR (qK β n) y.2.1 + 13 * rem β n y.1 ≤ 13 * rem β n q
      omega
    · show nwN (qK β n) y.2.1 + rem β n y.1 ≤ rem β n q
      omega
    · show ntN (qK β n) y.2.1 + rem β n y.1 ≤ rem β n q
      omega
    · show y.2.2.1.1.length + rem β n y.1 ≤ sc.1.length + rem β n q
      omega
    · show (zbk (qK β n) c y.2.1).length + qP β n q ≤ qP β n y.1
      omega
    · rcases Nat.lt_or_ge (q + 1) j with e1 | e1
      · rcases Nat.lt_or_ge j (q + 1 + 2) with e2 | e2
        · obtain rfl : j = q + 1 + 1 := by omega
          exact ⟨by omega, p4⟩
        · obtain ⟨a1, a2⟩ := g12 j e2 j2
          exact ⟨by omega, a2⟩
      · obtain ⟨a1, a2⟩ := hl2 j j1 e1
        exact ⟨a2, a1⟩
    · show q ≤ y.1
      omega
  have h64 : sI S6 6134 = nI (X 5) := (gP.2.1 6134 (by decide)).trans h6
  obtain ⟨Sf, hBf, hP⟩ := zP_end (d := e + 1) (S1 := S6) (x := (y.1, y.2.1, y.2.2.1, at')) (y := nI (X 5)) (le := le) (hs := hs) (by rw [wI_same h64]; exact gP) zS.1 h12 hle (h64.trans (congrArg nI hX5)) hX5 hh
  exact Or.inr ⟨y, Sf, hy, hv, hBf, hP⟩
end
