/-! STATEMENTS OF THE REFERENCE: those of one line -/
section
variable {β : Nat → Nat} {n : Nat} {E : Nat → Nat → Bool} {V : Nat → Int32} {T : Nat → Nat × Nat} {P : Nat → Int32 → Int32 × Int32} {own0 : Nat → Nat × Nat} {m u k1 : Nat} {S0 S S1 S2 : cS} {H B0 W d l c w t f f1 b j s : Nat} {X Y : Nat → Nat} {o1 o2 : List Op} {A A1 : Prop}
theorem zE_cut {c' : Nat} (h : zE own0 m u S0 H B0 c w t f b S) (hc' : c' ≤ c) : zE own0 m u S0 H B0 c' w t f b (wI (100 * m + 1) (nI c') S) := by
  obtain ⟨own, N, Nw, Nt, Nd, Nb, hs, hw, ht, hd, hb, hO, hc, hF, ho, hmu, hlen, hN, hcH⟩ := h
  obtain ⟨m1, m2, s1, s2, s3, s4, g, s5, s6, s7⟩ := hs
  obtain ⟨_, _, w1, w2, w3, w4, gw, w5, w6, w7⟩ := hw
  obtain ⟨_, _, t1, t2, t3, t4, gf, gs, t5, t6, t7, t8, t9, t10⟩ := ht
  obtain ⟨_, _, d1, d2, d3, d4, g7, g8, g9, g10, ⟨a7, b7, c7⟩, ⟨a8, b8, c8⟩, ⟨a9, b9, c9⟩, ⟨a10, b10, c10⟩⟩ := hd
  obtain ⟨k1, k2, k3, k4, gb, gl, ⟨ab, bb, cb⟩, ⟨al, bl, cl⟩⟩ := hb
  exact ⟨own, N, Nw, Nt, Nd, Nb, ⟨m1, m2, rIe _ _ _, by omega, s3, s4, g, s5, isK_S rfl s6, s7⟩, ⟨m1, m2, (rIn _ _ (by omega)).trans w1, w2, w3, w4, gw, w5, isK_S rfl w6, w7⟩, ⟨m1, m2, (rIn _ _ (by omega)).trans t1, t2, t3, t4, gf, gs, t5, t6, isK_S rfl t7, isK_S rfl t8, t9, t10⟩, ⟨m1, m2, (rIn _ _ (by omega)).trans d1, d2, d3, d4, g7, g8, g9, g10, ⟨a7, isK_S rfl b7, c7⟩, ⟨a8, isK_S rfl b8, c8⟩, ⟨a9, isK_S rfl b9, c9⟩, ⟨a10, isK_S rfl b10, c10⟩⟩, ⟨(rIn _ _ (by omega)).trans k1, k2, k3, k4, gb, gl, ⟨ab, isK_S rfl bb, cb⟩, ⟨al, isK_S rfl bl, cl⟩⟩, hO, hc, FrZ_go hF ⟨rfl, rfl, fun j hj => rIn _ _ (fun e => hj (by
    rw [e]
    unfold zIl
    simp)), fun _ _ => rfl, ⟨[], (List.append_nil _).symm⟩, fun _ _ _ _ => rfl, fun _ _ _ => rfl⟩ ho, ho, hmu, hlen, hN, by omega⟩
theorem kX_cut {x : Int32} (hm : 108 ≤ m) : kX m S (wI (100 * m + 1) x S) := ⟨fun i h0 _ _ _ _ => rIn _ _ (by omega), fun _ _ _ _ _ => ⟨rfl, rfl⟩, rfl, rfl, rfl, rfl, rfl, rfl, rfl⟩
theorem zO_cut {o : Op} {y : Nat} (hX : zX β n V own0 m k1 S0) (h : zO β n V P A own0 m u S0 H B0 X l S c w t f b j (o1 ++ [o]) f1 S1) (h16 : o.1 ≠ 16) (h60 : o.1 ≠ 60) (hy : y = c + wR (qK β n) o1) : zO β n V P A own0 m u S0 H B0 X l S c w t f b j o1 f1 (wI (100 * m + 1) (nI y) S1) := by
  subst hy
  have hm1 := hX.2.2.2.2.1
  obtain ⟨h1, h2, h3, h4, h5, h6, h7, h8, h9⟩ := h
  have eN : nwN (qK β n) (o1 ++ [o]) = nwN (qK β n) o1 := by rw [nwN_app, (nt0 h16).1]; rfl
  have eT : ntN (qK β n) (o1 ++ [o]) = ntN (qK β n) o1 := by rw [ntN_app, (nt0 h16).2]; rfl
  have eB : zbk (qK β n) c (o1 ++ [o]) = zbk (qK β n) c o1 := by rw [zbk_app, zbk_n _ _ _ (n60_1 h60), List.append_nil]
  have eW : wR (qK β n) o1 ≤ wR (qK β n) (o1 ++ [o]) := by rw [wR_app]; exact Nat.le_add_right _ _
  rw [eN, eT] at h4
  rw [eN, eT, eB] at h1
  rw [eB] at h9
  exact ⟨zE_cut h1 (by omega), (rIn _ _ (by omega)).trans h2, (rIn _ _ (by omega)).trans h3, fun hq => lsS_mv (S := S1) (S1 := wI (100 * m + 1) (nI (c + wR (qK β n) o1)) S1) (fun _ _ => rfl) (fun _ _ => ⟨rfl, rfl⟩) (Nat.le_refl _) (Nat.le_refl _) o1 c c (w23_app.mp h5).1 (fun _ _ => rfl) ((lsS_app o1 c).mp (h4 hq)).1, (w23_app.mp h5).1, kW_trans h6 (kW_wI _ _ _ _ _) (Nat.le_refl _) (Nat.le_refl _) (Nat.le_refl _) h8 (Nat.le_refl _), kA_trans h7 kA_wI, h8, h9⟩
end
/-- steps of a line, but for its newline -/
def zH (β : Nat → Nat) (n : Nat) (E : Nat → Nat → Bool) (V : Nat → Int32) (T : Nat → Nat × Nat) (own0 : Nat → Nat × Nat) (m u : Nat) (S0 : cS) (H B0 : Nat) (lp : LpT) (sc : SCs) (X : Nat → Nat) (S : cS) (c w t b k r : Nat) (os : List Op) (sc2 : SCs) (S1 : cS) : Prop :=
  zO β n V (zPT (qK β n) (qI β n) V T) (agT T sc.1) own0 m u S0 H B0 X (X 2 - 1) S c w t (sc.1.length - 1) b r os (sc.1.length - 1) S1 ∧ (∀ i, i ∈ [6117, 6122, 6123, 6126, 6127, 6134, 6137, 6139, 6140] → sI S1 i = sI S i) ∧ zDf (qK β n) (qI β n) V m sc.1 S1 ∧ (lp = none → n60 os) ∧ wR (qK β n) os + 2 ≤ 13 * (r - k + 1) ∧ nwN (qK β n) os ≤ r - k ∧ ntN (qK β n) os ≤ r - k ∧ (zbk (qK β n) c os).length ≤ 1 ∧ (∀ j, k ≤ j → j < r → 3 ≤ qK β n j) ∧ k < r ∧ sc2.1 = sc.1 ∧ scL E sc sc2
section
variable {β : Nat → Nat} {n : Nat} {E : Nat → Nat → Bool} {V : Nat → Int32} {T : Nat → Nat × Nat} {P : Nat → Int32 → Int32 × Int32} {own0 : Nat → Nat × Nat} {m u k1 : Nat} {S0 S S1 S2 : cS} {H B0 W d l c w t f f1 b j s : Nat} {X Y : Nat → Nat} {o1 o2 : List Op} {A A1 : Prop}
theorem r_k1 {k r : Nat} (hX : zX β n V own0 m k1 S0) (hk : k ≤ k1) (h : ∀ j, k ≤ j → j < r → 3 ≤ qK β n j) : r ≤ k1 := by
  rcases Nat.lt_or_ge k1 r with e1 | e1
  · have := h k1 (by omega) e1
    have := hX.2.2.1
    omega
  · exact e1
/-- the newline behind -/
theorem zH_nl {dp ind tr af k r : Nat} {opn : Nat → Nat} {lp : LpT} {sc sc2 : SCs} {at' : List Nat} {os : List Op} (hX : zX β n V own0 m k1 S0) (h0 : zI0 β n E V T own0 m u k1 S0 H B0 W 0 opn dp ind s lp tr sc at' X af c w t b k S) (hr : c + 13 * rem β n k ≤ H + 2 ∧ w + rem β n k ≤ W ∧ t + rem β n k ≤ W ∧ sc.1.length - 1 + rem β n k ≤ W) (hI : qI β n k = ind) (g : zH β n E V T own0 m u S0 H B0 lp sc X S c w t b k r os sc2 S1) : ∃ S2 v, Ans (d + 9) 332 [.ref 61] S1 (some (.int v)) S2 ∧ ((ln (qK β n) (qL β n k) r os sc2 at' = .inl (qL β n k) ∧ v = nI 0 ∧ zB own0 m u S0 H B0 W (flq (qL β n k)) S2) ∨ (ln (qK β n) (qL β n k) r os sc2 at' = .inr (r + 1, os, sc2, at') ∧ v = nI 1 ∧ zG β n E V T own0 m u k1 S0 H B0 0 ind lp sc at' X af S c w t b k (r + 1, os, sc2, at') S2 ∧ wR (qK β n) os + 2 + 13 * rem β n (r + 1) ≤ 13 * rem β n k)) := by
  obtain ⟨z, hi, hdf, hn, hw, hnw, hnt, hb, htk, hkr, hs2, hsl⟩ := g
  obtain ⟨r1, r2, r3, r4⟩ := hr
  have h7 := h0.2.2.2.2.2.2.1
  have hrk := r_k1 hX h7 htk
  obtain ⟨y1, y2, y3, y4⟩ := rm_run (β := β) (n := n) (k := k) (k1 := r) (by omega) htk
  have hK1 : qK β n k ≠ 1 := by have := htk k (Nat.le_refl _) hkr; omega
  obtain ⟨q5, q6⟩ := rem_ge hK1
  by_cases h2 : qK β n r = 2
  · have hA := z_nlT (d := d) hX z.1 z.2.1 hrk h2
    refine ⟨_, nI 1, hA, Or.inr ⟨if_pos h2, rfl, ?_⟩⟩
    have p5 : rem β n (r + 1) + 1 ≤ rm β n r := rm_nl (β := β) (n := n) (j := r) h2
    have hk2 := q_end hX hrk (by omega)
    have hq1 := qP_le (β := β) (n := n) (show k + 1 ≤ r + 1 by omega)
    have hqk : qP β n k + 1 ≤ qP β n (k + 1) := by
      obtain ⟨u1, -⟩ := rm_gt (β := β) (n := n) (k := k) (htk k (Nat.le_refl _) hkr)
      have a1 := (q_lt β n k).1
      have a2 := (q_lt β n (k + 1)).1
      unfold rm at u1
      omega
    obtain ⟨o1', o2', o3', o4', o5', o6', o7', o8', o9'⟩ := z
    have eL : agT T sc2.1 = agT T sc.1 := by rw [hs2]
    refine ⟨⟨?_, fun i hi2 => (rIn _ _ ?_).trans (hi i ?_), fun _ => (rIn _ _ (by decide)).trans (hi 6139 (by decide)), (fun hz => by cases hz), fun i e he => ?_, hn, ?_, ?_, ?_, ?_, ?_, fun j j1 j2 => ?_, hk2, fun _ => h2, ?_, hsl⟩, by omega⟩
    · show zO β n V (zPT (qK β n) (qI β n) V T) (agT T sc2.1) own0 m u S0 H B0 X (X 2 - 1) S c w t (sc.1.length - 1) b (r + 1) os (sc2.1.length - 1) (wI 6115 (nI (r + 1)) S1)
      rw [eL, hs2]
      exact ⟨zE_wI o1' (by decide), rIe _ _ _, (rIn _ _ (by decide)).trans o3', fun hq => lsS_mv (S := S1) (S1 := wI 6115 (nI (r + 1)) S1) (fun _ _ => rfl) (fun _ _ => ⟨rfl, rfl⟩) (Nat.le_refl _) (Nat.le_refl _) os c c o5' (fun _ _ => rfl) (o4' hq), o5', kW_trans o6' (kW_wI _ _ _ _ _) (Nat.le_refl _) (Nat.le_refl _) (Nat.le_refl _) o8' (Nat.le_refl _), kA_trans o7' kA_wI, o8', o9'⟩
    · simp only [List.mem_cons, List.not_mem_nil, or_false] at hi2
      omega
    · simp only [List.mem_cons, List.not_mem_nil, or_false] at hi2 ⊢
      omega
    · have he' : sc2.1[i + 1]? = some e := he
      rw [hs2] at he'
      exact hdf i e he'
    · show wR (qK β n) os + 13 * rem β n (r + 1) ≤ 13 * rem β n k
      omega
    · show nwN (qK β n) os + rem β n (r + 1) ≤ rem β n k
      omega
    · show ntN (qK β n) os + rem β n (r + 1) ≤ rem β n k
      omega
    · show sc2.1.length + rem β n (r + 1) ≤ sc.1.length + rem β n k
      rw [hs2]
      omega
    · show (zbk (qK β n) c os).length + qP β n k ≤ qP β n (r + 1)
      omega
    · rcases Nat.lt_or_ge j r with e1 | e1
      · obtain ⟨z1, z2, z3, z4⟩ := rm_run (β := β) (n := n) (k := k) (k1 := j) j1 (fun q a1 a2 => htk q a1 (by omega))
        have := htk j j1 e1
        exact ⟨by omega, by omega⟩
      · have j2' : j < r + 1 := j2
        obtain rfl : j = r := by omega
        exact ⟨by omega, by omega⟩
    · show k ≤ r + 1
      omega
  · have h0' := h0.2.2.2.2.2.2.2.2
    obtain ⟨hA, hB⟩ := z_nlF (d := d) (W := W) hX z.1 z.2.1 z.2.2.1 hrk h2 (by omega) (by omega) (by omega)
    have ef : fl β n r = flq (qL β n k) := by rw [← y2]; rfl
    rw [ef] at hA hB
    exact ⟨_, nI 0, hA, Or.inl ⟨if_neg h2, rfl, hB⟩⟩
/-- a statement of a line: what comes of it -/
def zLn (β : Nat → Nat) (n : Nat) (E : Nat → Nat → Bool) (V : Nat → Int32) (T : Nat → Nat × Nat) (own0 : Nat → Nat × Nat) (m u : Nat) (S0 : cS) (H B0 W : Nat) (lp : LpT) (sc : SCs) (at' : List Nat) (X : Nat → Nat) (S : cS) (c w t b k : Nat) (res : PSr) (v : Int32) (S1 : cS) : Prop := (res = .inl (qL β n k) ∧ v = nI 0 ∧ zB own0 m u S0 H B0 W (flq (qL β n k)) S1) ∨ ∃ r os sc2, res = ln (qK β n) (qL β n k) r os sc2 at' ∧ v = nI 1 ∧ zH β n E V T own0 m u S0 H B0 lp sc X S c w t b k r os sc2 S1
/-- out of what an expression keeps -/
theorem zH_X {dp ind tr af k r : Nat} {opn : Nat → Nat} {lp : LpT} {sc sc2 : SCs} {at' : List Nat} {os : List Op} (h0 : zI0 β n E V T own0 m u k1 S0 H B0 W 0 opn dp ind s lp tr sc at' X af c w t b k S) (kx : kX m S S1) {B : cS} (hB : kX m S B ∧ ∀ c' w' t' f' b', kW m c' w' t' f' b' S B) (z : zO β n V (zPT (qK β n) (qI β n) V T) (agT T sc.1) own0 m u S0 H B0 X (X 2 - 1) B c w t (sc.1.length - 1) b r os (sc.1.length - 1) S1) (hn : n60 os) (hw : wR (qK β n) os + 2 ≤ 13 * (r - k + 1)) (hnw : nwN (qK β n) os ≤ r - k) (hnt : ntN (qK β n) os ≤ r - k) (htk : ∀ j, k ≤ j → j < r → 3 ≤ qK β n j) (hkr : k < r) (hs : sc2.1 = sc.1) (hsl : scL E sc sc2) : zH β n E V T own0 m u S0 H B0 lp sc X S c w t b k r os sc2 S1 := by
  refine ⟨zO_pre z (hB.2 _ _ _ _ _) (kX_kA hB.1), fun i hi => kX_nx kx hi, zDf_X h0.2.2.2.2.1 kx, fun _ => hn, hw, hnw, hnt, ?_, htk, hkr, hs, hsl⟩
  rw [zbk_n _ _ _ hn]
  exact Nat.zero_le _
end
