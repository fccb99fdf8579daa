/-! STATEMENTS OF THE REFERENCE: if, behind a block -/
section
variable {β : Nat → Nat} {n : Nat} {E : Nat → Nat → Bool} {V : Nat → Int32} {T : Nat → Nat × Nat} {P : Nat → Int32 → Int32 × Int32} {own0 : Nat → Nat × Nat} {m u k1 : Nat} {S0 S S1 S2 : cS} {H B0 W d l c w t f f1 b j s : Nat} {X Y : Nat → Nat} {o1 o2 : List Op} {A A1 : Prop}
theorem zO_62 {os : List Op} (h : zO β n V P A own0 m u S0 H B0 X l S c w t f b j os f1 S1) : zO β n V P A own0 m u S0 H B0 X l S c w t f b j (os ++ [(62, [], 2, 0)]) f1 S1 := by
  obtain ⟨h1, h2, h3, h4, h5, h6, h7, h8, h9⟩ := h
  have eW : wR (qK β n) (os ++ [(62, [], 2, 0)]) = wR (qK β n) os := by rw [wR_app]; rfl
  have eN : nwN (qK β n) (os ++ [(62, [], 2, 0)]) = nwN (qK β n) os := by rw [nwN_app]; rfl
  have eT : ntN (qK β n) (os ++ [(62, [], 2, 0)]) = ntN (qK β n) os := by rw [ntN_app]; rfl
  have eB : zbk (qK β n) c (os ++ [(62, [], 2, 0)]) = zbk (qK β n) c os := by
    rw [zbk_app, zbk_n _ _ _ (n60_1 (by show (62 : Nat) ≠ 60; decide)), List.append_nil]
  unfold zO
  rw [eW, eN, eT, eB]
  refine ⟨h1, h2, h3, fun hq => (lsS_app os c).mpr ⟨h4 hq, ⟨?_, fun e => absurd e (by show (62 : Nat) ≠ 16; decide), fun e => absurd e (by show (62 : Nat) ≠ 16; decide), fun e => absurd e (by show (62 : Nat) ≠ 16; decide)⟩, trivial⟩, w23_app.mpr ⟨h5, w23_1 (by show (62 : Nat) ≠ 23; decide)⟩, h6, h7, h8, h9⟩
  intro i x hx
  cases i <;> cases hx
theorem zG_re {ind af k q : Nat} {lp : LpT} {sc sc2 : SCs} {at' : List Nat} {os os' : List Op} {S3 S4 : cS} (g : zG β n E V T own0 m u k1 S0 H B0 0 ind lp sc at' X af S c w t b k (q, os, sc2, at') S3) (z : zO β n V (zPT (qK β n) (qI β n) V T) (agT T sc2.1) own0 m u S0 H B0 X (X 2 - 1) S c w t (sc.1.length - 1) b q os' (sc2.1.length - 1) S4) (hI : ∀ i, i ∈ [6117, 6122, 6123, 6126, 6127, 6134, 6137, 6139, 6140] → sI S4 i = sI S3 i) (hd : ∀ i, i < sc2.1.length - 1 → dNm S4 m i = dNm S3 m i ∧ dAt S4 m i = dAt S3 m i ∧ dPa S4 m i = dPa S3 m i ∧ dLo S4 m i = dLo S3 m i) (eW : wR (qK β n) os' + 13 * rem β n q ≤ 13 * rem β n k) (eN : nwN (qK β n) os' = nwN (qK β n) os) (eT : ntN (qK β n) os' = ntN (qK β n) os) (eB : (zbk (qK β n) c os').length = (zbk (qK β n) c os).length) (hn : n60 os → n60 os') : zG β n E V T own0 m u k1 S0 H B0 0 ind lp sc at' X af S c w t b k (q, os', sc2, at') S4 := by
  obtain ⟨g1, g2, g3, -, g5, g6, g7, g8, g9, g10, g11, g12, g13, g14, g15, g16⟩ := g
  have g8' : nwN (qK β n) os + rem β n q ≤ rem β n k := g8
  have g9' : ntN (qK β n) os + rem β n q ≤ rem β n k := g9
  have g11' : (zbk (qK β n) c os).length + qP β n k ≤ qP β n q := g11
  refine ⟨z, fun i hi => (hI i ?_).trans (g2 i hi), fun _ => (hI 6139 (by decide)).trans (g3 rfl), (fun hz => by cases hz), fun i e he => ?_, fun hl => hn (g6 hl), eW, ?_, ?_, g10, ?_, g12, g13, g14, g15, g16⟩
  · simp only [List.mem_cons, List.not_mem_nil, or_false] at hi ⊢
    omega
  · have he' : sc2.1[i + 1]? = some e := he
    have hi := (List.getElem?_eq_some_iff.mp he').1
    obtain ⟨a1, a2, a3, a4⟩ := hd i (by omega)
    obtain ⟨b1, b2, b3, b4⟩ := g5 i e he
    exact ⟨a1.trans b1, a2.trans b2, a3.trans b3, a4.trans b4⟩
  · show nwN (qK β n) os' + rem β n q ≤ rem β n k
    omega
  · show ntN (qK β n) os' + rem β n q ≤ rem β n k
    omega
  · show (zbk (qK β n) c os').length + qP β n k ≤ qP β n q
    omega
theorem l5 {z : Int} {r : Nat} {bl bl' : List Op} {os : List Op} (y : Nat) (K : Nat → Nat) : wR K (os ++ (5, [], z, ((r : Nat) : Int)) :: bl) = wR K os + 2 + wR K bl ∧ nwN K (os ++ (5, [], z, ((r : Nat) : Int)) :: bl) = nwN K os + nwN K bl ∧ ntN K (os ++ (5, [], z, ((r : Nat) : Int)) :: bl) = ntN K os + ntN K bl ∧ zbk K y (os ++ (5, [], z, ((r : Nat) : Int)) :: bl) = zbk K y os ++ zbk K (y + wR K os + 2) bl := by
  refine ⟨?_, ?_, ?_, ?_⟩
  · rw [wR_app]
    show wR K os + (2 + wR K bl) = _
    omega
  · rw [nwN_app]
    show nwN K os + (0 + nwN K bl) = _
    omega
  · rw [ntN_app]
    show ntN K os + (0 + ntN K bl) = _
    omega
  · rw [zbk_app]
    rfl
theorem n60_5 {z y : Int} {os bl : List Op} : n60 (os ++ (5, [], z, y) :: bl) ↔ n60 os ∧ n60 bl := by
  rw [n60_app]
  refine and_congr_right (fun _ => ⟨fun h o ho => h o (List.mem_cons_of_mem _ ho), fun h o ho => (List.mem_cons.mp ho).elim (fun e => by rw [e]; show (5 : Nat) ≠ 60; decide) (h o)⟩)
/-- no elif, no else -/
theorem if_end {ind af k q le e : Nat} {lp : LpT} {sc sc2 : SCs} {at' hs : List Nat} {r bl : List Op} {S3 : cS} {z : Int} (hX : zX β n V own0 m k1 S0) (g : zG β n E V T own0 m u k1 S0 H B0 0 ind lp sc at' X af S c w t b k (q, r ++ (5, [], 0, 0) :: bl, sc2, at') S3) (hw : wR (qK β n) (r ++ (5, [], 0, 0) :: bl) + 6 + 13 * rem β n q ≤ 13 * rem β n k) (hH : H ≤ 40000) (hind : ind < 2 ^ 20) (h6 : sI S 6134 = nI (X 5)) (hX5 : X 5 = le + hs.length) (hle : le + hs.length < 3000) (hh : ∀ i p, hs[i]? = some p → sA S 81 (le + i) = nI p ∧ p < c) : ∃ S4 S5, Ans (e + 9) 326 [.ref 61, .int (nI (c + wR (qK β n) r + 1))] S3 none S4 ∧ (∀ lv : sm_L, sm_get lv 0 = some (.ref 61) → sm_get lv 1 = some (.int (nI ind)) → sm_get lv 2 = some (.int (nI le)) → sm_get lv 3 = some (.int (nI 0)) → Bod (e + 9) 333 7 lv [] S4 (some (.int 1)) S5) ∧ zP β n E V T own0 m u k1 S0 H B0 hs le ind lp sc at' X af S c w t b k (q, r ++ (5, [], z, ((1 + wR (qK β n) bl : Nat) : Int)) :: (bl ++ [(62, [], 2, 0)]), sc2, at') S5 ∧ wR (qK β n) (r ++ (5, [], z, ((1 + wR (qK β n) bl : Nat) : Int)) :: (bl ++ [(62, [], 2, 0)])) + 2 + 13 * rem β n q ≤ 13 * rem β n k := by
  have z3 : zO β n V (zPT (qK β n) (qI β n) V T) (agT T sc2.1) own0 m u S0 H B0 X (X 2 - 1) S c w t (sc.1.length - 1) b q (r ++ (5, [], 0, 0) :: bl) (sc2.1.length - 1) S3 := g.1
  obtain ⟨S4, hA4, z4, kx4, hi4⟩ := zO_fill (d := e + 8) (x := z) hX z3 hH (by show (5 : Nat) ∈ _; decide)
  have z4' : zO β n V (zPT (qK β n) (qI β n) V T) (agT T sc2.1) own0 m u S0 H B0 X (X 2 - 1) S c w t (sc.1.length - 1) b q (r ++ (5, [], z, ((1 + wR (qK β n) bl : Nat) : Int)) :: bl) (sc2.1.length - 1) S4 := z4
  have z5 := zO_62 z4'
  have hl : (r ++ (5, [], z, ((1 + wR (qK β n) bl : Nat) : Int)) :: bl) ++ [(62, [], 2, 0)] = r ++ (5, [], z, ((1 + wR (qK β n) bl : Nat) : Int)) :: (bl ++ [(62, [], 2, 0)]) := by simp only [List.append_assoc, List.cons_append]
  rw [hl] at z5
  have e62 : wR (qK β n) (bl ++ [(62, [], 2, 0)]) = wR (qK β n) bl ∧ nwN (qK β n) (bl ++ [(62, [], 2, 0)]) = nwN (qK β n) bl ∧ ntN (qK β n) (bl ++ [(62, [], 2, 0)]) = ntN (qK β n) bl ∧ ∀ y, zbk (qK β n) y (bl ++ [(62, [], 2, 0)]) = zbk (qK β n) y bl := ⟨by rw [wR_app]; rfl, by rw [nwN_app]; rfl, by rw [ntN_app]; rfl, fun y => by rw [zbk_app, zbk_n _ _ _ (n60_1 (by show (62 : Nat) ≠ 60; decide)), List.append_nil]⟩
  obtain ⟨f1, f2, f3, f4⟩ := l5 (os := r) (bl := bl ++ [(62, [], 2, 0)]) (bl' := bl) (z := z) (r := 1 + wR (qK β n) bl) c (qK β n)
  obtain ⟨f5, f6, f7, f8⟩ := l5 (os := r) (bl := bl) (bl' := bl) (z := 0) (r := 0) c (qK β n)
  rw [e62.1] at f1
  rw [e62.2.1] at f2
  rw [e62.2.2.1] at f3
  rw [e62.2.2.2] at f4
  have f5' : wR (qK β n) (r ++ (5, [], 0, 0) :: bl) = wR (qK β n) r + 2 + wR (qK β n) bl := f5
  have f6' : nwN (qK β n) (r ++ (5, [], 0, 0) :: bl) = nwN (qK β n) r + nwN (qK β n) bl := f6
  have f7' : ntN (qK β n) (r ++ (5, [], 0, 0) :: bl) = ntN (qK β n) r + ntN (qK β n) bl := f7
  have f8' : zbk (qK β n) c (r ++ (5, [], 0, 0) :: bl) = zbk (qK β n) c r ++ zbk (qK β n) (c + wR (qK β n) r + 2) bl := f8
  have g4 := zG_re g z5 (fun i _ => hi4 i) (fun i _ => ⟨congrFun kx4.2.2.1 i, congrFun kx4.2.2.2.1 i, congrFun kx4.2.2.2.2.1 i, congrFun kx4.2.2.2.2.2.1 i⟩) (by rw [f1]; omega) (by rw [f2, f6']) (by rw [f3, f7']) (by rw [f4, f8']) (fun hn => n60_5.mpr ⟨(n60_5.mp hn).1, n60_app.mpr ⟨(n60_5.mp hn).2, n60_1 (by show (62 : Nat) ≠ 60; decide)⟩⟩)
  have h64 : sI S4 6134 = nI (X 5) := (g4.2.1 6134 (by decide)).trans h6
  obtain ⟨S5, hB, hP⟩ := zP_end (d := e + 1) (S1 := S4) (y := nI (X 5)) (le := le) (hs := hs) (by rw [wI_same h64]; exact g4) z5.1 hH hle (h64.trans (congrArg nI hX5)) hX5 hh
  refine ⟨S4, S5, hA4, fun lv q0 q1 q2 q3 => zChE_1 (d := e + 1) q0 q1 q2 q3 hind (by omega) (fun lv1 a0 a2 a4 => hB lv1 a0 a2 a4), hP, ?_⟩
  rw [f1]
  omega
end
