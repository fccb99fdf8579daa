/-! STATEMENTS OF THE REFERENCE: def: what it comes to -/
section
variable {β : Nat → Nat} {n : Nat} {E : Nat → Nat → Bool} {V : Nat → Int32} {T : Nat → Nat × Nat} {P : Nat → Int32 → Int32 × Int32} {A : Prop} {own0 : Nat → Nat × Nat} {m u k1 : Nat} {S0 Sb S S1 S2 : cS} {H B0 W d c w t f b a F s : Nat} {l : List Int32} {X : Nat → Nat}
/-- steps of a function: all but its name's binding -/
def dfO (r : Nat) (x4 y4 : Int) (os : List Op) : List Op := (4, [], x4, y4) :: (os ++ [(63, [], 0, 0), (8, [], 0, 0), (22, [r], 0, 0)])
theorem dfO_60 {r : Nat} {x4 y4 : Int} {os : List Op} (h : n60 os) : n60 (dfO r x4 y4 os) := fun o ho => by
  rcases List.mem_cons.mp ho with e | e
  · rw [e]; show (4 : Nat) ≠ 60; decide
  · rcases List.mem_append.mp e with e | e
    · exact h o e
    · simp only [List.mem_cons, List.not_mem_nil, or_false] at e
      rcases e with rfl | rfl | rfl
      · show (63 : Nat) ≠ 60; decide
      · show (8 : Nat) ≠ 60; decide
      · show (22 : Nat) ≠ 60; decide
theorem dfO_w (K : Nat → Nat) {r : Nat} {x4 y4 : Int} {os : List Op} : wR K (dfO r x4 y4 os) = wR K os + 6 ∧ nwN K (dfO r x4 y4 os) = nwN K os ∧ ntN K (dfO r x4 y4 os) = ntN K os := by
  refine ⟨?_, ?_, ?_⟩
  · show 2 + wR K (os ++ _) = _
    rw [wR_app]
    show 2 + (wR K os + 4) = _
    omega
  · show 0 + nwN K (os ++ _) = _
    rw [nwN_app]
    show 0 + (nwN K os + 0) = _
    omega
  · show 0 + ntN K (os ++ _) = _
    rw [ntN_app]
    show 0 + (ntN K os + 0) = _
    omega
/-- good: out of what the block comes to -/
theorem zG_df {z dp ind tr af k q ca r : Nat} {x4 : Int} {opn : Nat → Nat} {lp : LpT} {sc sc2 : SCs} {at' : List Nat} {x : PT} {X' : Nat → Nat} {Sk Sf : cS} {g : List Op} {scF : SCs} (hX : zX β n V own0 m k1 S0) (h0 : zI0 β n E V T own0 m u k1 S0 H B0 W z opn dp ind s lp tr sc at' X af c w t b k S) (hz : z = 0 ∨ z = 1) (hK : qK β n k = 46) (hI : qI β n k = ind) (h3 : qK β n (k + 1) = 3) (htk : ∀ j, k ≤ j → j < q + 1 → 3 ≤ qK β n j) (hkq : k + 4 ≤ q + 1) (hnl : qK β n (q + 1 + 1) = 2) (h13 : qK β n (q + 1) = 13) (hs2 : sc2.1 = sc.1 ++ [(s, ca, c + 2, k + 1)]) (hL : scL E sc sc2) (hG : zG β n E V T own0 m u k1 S0 H B0 0 (ind + 1) none sc2 at' X' af Sk (c + 2) w t b (q + 1 + 2) x S1) (hk2 : q + 1 + 2 < x.1) (hzO : zO β n V (zPT (qK β n) (qI β n) V T) (agT T x.2.2.1.1) own0 m u S0 H B0 X (X 2 - 1) S c w t (sc.1.length - 1) b x.1 (dfO r x4 ((3 + wR (qK β n) x.2.1 : Nat) : Int) x.2.1 ++ g) (x.2.2.1.1.length - 1) Sf) (hg : g = [] ∨ g = [(19, [k + 1, s], 0, 0)]) (hkI : ∀ i, i ∈ [6117, 6122, 6123, 6126, 6127, 6134, 6137, 6139, 6140] → sI Sf i = sI S i) (hdf : zDf (qK β n) (qI β n) V m x.2.2.1.1 Sf) (h84 : sA Sf 84 = sA S1 84) (h84k : ∀ i, i < X 6 → sA S1 84 i = sA S 84 i) (hsF : scF.1 = x.2.2.1.1) (hsL : scL E x.2.2.1 scF) : zG β n E V T own0 m u k1 S0 H B0 z ind lp sc at' X af S c w t b k (x.1, dfO r x4 ((3 + wR (qK β n) x.2.1 : Nat) : Int) x.2.1 ++ g, scF, at') Sf ∧ wR (qK β n) (dfO r x4 ((3 + wR (qK β n) x.2.1 : Nat) : Int) x.2.1 ++ g) + 8 + 13 * rem β n x.1 ≤ 13 * rem β n k := by
  obtain ⟨g1, g2, g3, g4, g5, g6, g7, g8, g9, g10, g11, g12, g13, g14, g15, g16⟩ := hG
  obtain ⟨h1, h2, h3', h4, h5, h6, h7, h8, h9, h10, h11, h12, h13'⟩ := id h0
  have n6 := g6 rfl
  have hK1 : qK β n k ≠ 1 := by omega
  obtain ⟨q5, q6⟩ := rem_ge hK1
  have hrm := rm_def hK h3
  obtain ⟨y1, y2, y3, y4⟩ := rm_run (β := β) (n := n) (k := k + 1) (k1 := q + 1) (by omega) (fun j j1 j2 => htk j (by omega) j2)
  obtain ⟨v1, v2, v3, v4⟩ := rm_run (β := β) (n := n) (k := k) (k1 := q + 1) (by omega) htk
  obtain ⟨p1, p2, p3, p4⟩ := rm_gt (β := β) (n := n) (k := q + 1) (by omega)
  have p5 : rem β n (q + 1 + 1 + 1) + 1 ≤ rm β n (q + 1 + 1) := rm_nl (β := β) (n := n) (j := q + 1 + 1) hnl
  have p5' : rem β n (q + 1 + 2) + 1 ≤ rm β n (q + 1 + 1) := p5
  have hrem : rem β n (q + 1 + 2) + 9 ≤ rem β n k := by omega
  obtain ⟨d1, d2, d3⟩ := dfO_w (qK β n) (r := r) (x4 := x4) (y4 := ((3 + wR (qK β n) x.2.1 : Nat) : Int)) (os := x.2.1)
  have gw : wR (qK β n) g ≤ 4 ∧ nwN (qK β n) g = 0 ∧ ntN (qK β n) g = 0 ∧ n60 g := by
    rcases hg with rfl | rfl
    · exact ⟨Nat.zero_le _, rfl, rfl, fun o ho => by cases ho⟩
    · exact ⟨Nat.le_refl _, rfl, rfl, n60_1 (by show (19 : Nat) ≠ 60; decide)⟩
  obtain ⟨gw1, gw2, gw3, gw4⟩ := gw
  have n60F : n60 (dfO r x4 ((3 + wR (qK β n) x.2.1 : Nat) : Int) x.2.1 ++ g) := n60_app.mpr ⟨dfO_60 n6, gw4⟩
  have wF : wR (qK β n) (dfO r x4 ((3 + wR (qK β n) x.2.1 : Nat) : Int) x.2.1 ++ g) = wR (qK β n) x.2.1 + 6 + wR (qK β n) g := by rw [wR_app, d1]
  have nF : nwN (qK β n) (dfO r x4 ((3 + wR (qK β n) x.2.1 : Nat) : Int) x.2.1 ++ g) = nwN (qK β n) x.2.1 := by rw [nwN_app, d2, gw2]; rfl
  have tF : ntN (qK β n) (dfO r x4 ((3 + wR (qK β n) x.2.1 : Nat) : Int) x.2.1 ++ g) = ntN (qK β n) x.2.1 := by rw [ntN_app, d3, gw3]; rfl
  have hlen : sc2.1.length = sc.1.length + 1 := by rw [hs2, List.length_append]; rfl
  have g7' : wR (qK β n) x.2.1 + 13 * rem β n x.1 ≤ 13 * rem β n (q + 1 + 2) := g7
  have g8' : nwN (qK β n) x.2.1 + rem β n x.1 ≤ rem β n (q + 1 + 2) := g8
  have g9' : ntN (qK β n) x.2.1 + rem β n x.1 ≤ rem β n (q + 1 + 2) := g9
  have g10' : x.2.2.1.1.length + rem β n x.1 ≤ sc2.1.length + rem β n (q + 1 + 2) := g10
  have hqp := qP_le (β := β) (n := n) (show k ≤ x.1 by omega)
  refine ⟨⟨?_, fun i hi => hkI i (by
    simp only [List.mem_cons, List.not_mem_nil, or_false] at hi ⊢
    omega), fun _ => hkI _ (by decide), fun hz1 => ⟨⟨?_, fun i j hj => ?_⟩, by show at'.length + qP β n k ≤ at'.length + qP β n x.1; omega, Nat.le_refl _⟩, ?_, fun _ => n60F, ?_, ?_, ?_, ?_, ?_, fun j j1 j2 => ?_, g13, fun _ => g14 hk2, by show k ≤ x.1; omega, scL_trans (scL_trans hL g16) hsL⟩, ?_⟩
  · show zO β n V (zPT (qK β n) (qI β n) V T) (agT T scF.1) own0 m u S0 H B0 X (X 2 - 1) S c w t (sc.1.length - 1) b x.1 (dfO r x4 ((3 + wR (qK β n) x.2.1 : Nat) : Int) x.2.1 ++ g) (scF.1.length - 1) Sf
    rw [hsF]
    exact hzO
  · rw [hkI 6139 (by decide)]
    exact (h8 hz1).2.2.1
  · obtain ⟨o1, o2⟩ := (h8 hz1).2.2.2 i j hj
    have hx6 := (h8 hz1).2.1
    have hj' : at'[i]? = some j := hj
    have hil := (List.getElem?_eq_some_iff.mp hj').1
    exact ⟨by rw [h84, h84k _ (by omega)]; exact o1, o2⟩
  · show zDf (qK β n) (qI β n) V m scF.1 Sf
    rw [hsF]
    exact hdf
  · show wR (qK β n) (dfO r x4 _ x.2.1 ++ g) + 13 * rem β n x.1 ≤ 13 * rem β n k
    rw [wF]
    omega
  · show nwN (qK β n) (dfO r x4 _ x.2.1 ++ g) + rem β n x.1 ≤ rem β n k
    rw [nF]
    omega
  · show ntN (qK β n) (dfO r x4 _ x.2.1 ++ g) + rem β n x.1 ≤ rem β n k
    rw [tF]
    omega
  · show scF.1.length + rem β n x.1 ≤ sc.1.length + rem β n k
    rw [hsF]
    omega
  · show (zbk (qK β n) c (dfO r x4 _ x.2.1 ++ g)).length + qP β n k ≤ qP β n x.1
    rw [zbk_n _ _ _ n60F]
    show 0 + qP β n k ≤ qP β n x.1
    omega
  · have j2' : j < x.1 := j2
    rcases Nat.lt_or_ge j (q + 1 + 2) with e | e
    · rcases Nat.lt_or_ge j (q + 1) with e2 | e2
      · obtain ⟨o1, o2, o3, o4⟩ := rm_run (β := β) (n := n) (k := k) (k1 := j) j1 (fun i i1 i2 => htk i i1 (by omega))
        have := htk j j1 e2
        exact ⟨by omega, by omega⟩
      · rcases (show j = q + 1 ∨ j = q + 1 + 1 by omega) with rfl | rfl
        · exact ⟨by omega, by omega⟩
        · exact ⟨by omega, by omega⟩
    · obtain ⟨o1, o2⟩ := g12 j e j2'
      exact ⟨by omega, o2⟩
  · rw [wF]
    omega
end
