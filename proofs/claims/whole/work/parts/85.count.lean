/-! COUNT as a step -/
theorem chain_S {S S' : cS} (h : sA S' 20 = sA S 20) : ∀ (cs : List Nat) (b : Nat), c_chain S b cs → c_chain S' b cs := by
  intro cs
  induction cs with
  | nil => intro b h; exact h
  | cons id r ih =>
    intro b hc
    obtain ⟨h1, h2, b1, h3, h4⟩ := hc
    exact ⟨h1, h2, b1, by rw [h]; exact h3, ih b1 h4⟩
theorem NT_S {S S' : cS} {z : Nat} (h : c_NT S z) (h1 : sI S' 1607 = sI S 1607) (h19 : sA S' 19 = sA S 19) (h20 : sA S' 20 = sA S 20) (h17 : sL S' 17 = sL S 17) (h18 : sL S' 18 = sL S 18) : c_NT S' z := by
  obtain ⟨q1, q2, q3, q4⟩ := h
  refine ⟨by rw [h1]; exact q1, q2, by rw [h17, h18]; exact q3, fun hh hx => ?_⟩
  obtain ⟨b, cs, c1, c2, c3, c4⟩ := q4 hh hx
  exact ⟨b, cs, by rw [h19]; exact c1, chain_S h20 cs b c2, c3, by rw [h17, h18]; exact c4⟩
theorem Hp_any {S S' : cS} {e4 e5 e6 : Nat → Nat} {L1 L2 : List Nat} (h : Hp e4 e5 e6 S) (hF : Fr L1 L2 S S') (h1 : ∀ i, i ∈ L1 → i ∉ [213, 214, 215]) (h2 : ∀ a, a ∈ L2 → a ∉ [3, 4, 5, 6, 7, 8, 10, 12, 13]) : Hp e4 e5 e6 S' ∧ ∀ t, heldBy S' t = heldBy S t := by
  obtain ⟨hok, ⟨p, f, q1, q2, q3, q4, q5, q6, q7, q8, q9⟩, hcn, hcl, hds, hex⟩ := h
  have a : ∀ x, x ∈ [3, 4, 5, 6, 7, 8, 10, 12, 13] → sA S' x = sA S x := fun x hx => hF.A (fun c => h2 x c hx)
  have i : ∀ x, x ∈ [213, 214, 215] → sI S' x = sI S x := fun x hx => hF.I (fun c => h1 x c hx)
  have hh := fun t => heldBy_congr (S := S) (S' := S') (a 3 (by decide)) (a 7 (by decide)) (a 8 (by decide)) (a 10 (by decide)) (by rw [hF.2.2.2.1]) hF.2.1 t
  have hn : nLive S' = nLive S := sumN_congr (fun k _ => by
    show (if sA S' 3 k = 0 then 0 else 1) = if sA S 3 k = 0 then 0 else 1
    rw [a 3 (by decide)])
  refine ⟨⟨?_, ⟨p, f, by rw [i _ (by decide), hn]; exact q1, by rw [i _ (by decide)]; exact q2, by rw [i _ (by decide)]; exact q3, by rw [hn]; exact q4, q5, ?_, ?_, by rw [a 3 (by decide)]; exact q8, by rw [a 3 (by decide)]; exact q9⟩, ?_, ?_, ?_, ?_⟩, hh⟩
  · intro k k1 k2
    unfold h_ok
    rw [a 3 (by decide), a 10 (by decide), a 7 (by decide), a 8 (by decide), hF.2.2.2.1, hF.2.2.2.2.1, hF.2.1]
    exact hok k k1 k2
  · rw [a 3 (by decide), a 13 (by decide)]; exact q6
  · rw [a 13 (by decide)]; exact q7
  · intro kd k1 k2
    have : nKind S' kd = nKind S kd := sumN_congr (fun k _ => by
      show (if sA S' 3 k = nI kd then 1 else 0) = if sA S 3 k = nI kd then 1 else 0
      rw [a 3 (by decide)])
    rw [this, a 12 (by decide)]
    exact hcn kd k1 k2
  · intro j j1 j2 hl t ht
    rw [tgs_congr (S := S) (S' := S') (k := j) (by rw [a 3 (by decide)]) (by rw [a 7 (by decide)]) (by rw [a 8 (by decide)]) (by rw [a 10 (by decide)]) (by rw [hF.2.2.2.1]) hF.2.1] at ht
    rw [a 3 (by decide)] at hl ⊢
    exact hcl j j1 j2 hl t ht
  · unfold h_ds
    rw [hF.2.2.2.1]
    exact hds
  · intro t t1 t2
    rw [hh t, a 4 (by decide), a 5 (by decide), a 6 (by decide)]
    exact hex t t1 t2
/-- all that lies between calls but the graph itself, behind a small change -/
theorem bw_Fr {own : Nat → Nat × Nat} {β : Nat → Nat} {D D' : List Nat} {S S' : cS} {L1 L2 : List Nat} {z nn g0 g1 g3 g4 g5 gn : Nat} (h : bw own β D z nn g0 g1 g3 g4 g5 gn S) (hF : Fr L1 L2 S S') (h1 : ∀ i, i ∈ L1 → i < 10800 ∧ i ∉ [213, 214, 215, 1607, 1608, 6102, 6151, 6159]) (h2 : ∀ a, a ∈ L2 → a < 108 ∧ a ∉ [3, 4, 5, 6, 7, 8, 10, 12, 13, 19, 20, 62, 63, 64] ∧ (a < 62 ∨ 67 ≤ a ∧ a ≠ 79 ∧ a ≠ 80)) (hG : GR β D' S') (hex : ∀ j, j < 1500 → sA S' 87 j ≠ 0 → sA S 87 j ≠ 0) : bw own β D' z nn g0 g1 g3 g4 g5 gn S' := by
  obtain ⟨hN, h35, hWd, hR, hft, hNM, hO, hG0, hH, hD, hB, hL, hs, hc, hln, hth⟩ := h
  have hRR := hR
  obtain ⟨q1, q2, q3, q4, q5, q6, k0, k1, k3, k4, k5, qn, q64, o0, o1, o3, o4, o5⟩ := hR
  have i : ∀ x, x ∈ [213, 214, 215, 1607, 1608, 6102, 6151, 6159] → sI S' x = sI S x := fun x hx => hF.I (fun c => (h1 x c).2 hx)
  have a : ∀ x, x ∈ [3, 4, 5, 6, 7, 8, 10, 12, 13, 19, 20, 62, 63, 64] → sA S' x = sA S x := fun x hx => hF.A (fun c => (h2 x c).2.1 hx)
  have og : ∀ g, (own g).1 ≠ 0 → sA S' g = sA S g := fun g hg => hF.A (fun c => by
    obtain ⟨c1, c2, c3⟩ := h2 g c
    rcases c3 with c3 | ⟨c3, c4, c5⟩
    · exact hg (hO.1 g c3)
    · exact hg (hO.2.1 g c3 c1 c4 c5))
  have a0 := og g0 (by omega)
  have a1 := og g1 (by omega)
  have a3 := og g3 (by omega)
  obtain ⟨hH', hhb⟩ := Hp_any hH hF (fun x hx c => (h1 x hx).2 (by
    rcases List.mem_cons.mp c with e | c
    · rw [e]; decide
    · rcases List.mem_cons.mp c with e | c
      · rw [e]; decide
      · rw [List.mem_singleton.mp c]; decide)) (fun x hx c => (h2 x hx).2.1 (show x ∈ [3, 4, 5, 6, 7, 8, 10, 12, 13] ++ [19, 20, 62, 63, 64] from List.mem_append_left _ c))
  have hlv : ∀ k, lv S' k ↔ lv S k := fun k => by unfold lv; rw [a 3 (by decide)]
  refine ⟨NT_S hN (i _ (by decide)) (a _ (by decide)) (a _ (by decide)) (by rw [hF.2.1]) (by rw [hF.2.1]), h35, ?_, ⟨by rw [i _ (by decide)]; exact q1, by rw [hF.2.2.1]; exact q2, by rw [hF.2.2.1]; exact q3, by rw [hF.2.2.1]; exact q4, by rw [hF.2.2.1]; exact q5, by rw [hF.2.2.1]; exact q6, isK_S hF.2.2.2.2.1 k0, isK_S hF.2.2.2.2.1 k1, isK_S hF.2.2.2.2.1 k3, isK_S hF.2.2.2.2.1 k4, isK_S hF.2.2.2.2.1 k5, qn, q64, o0, o1, o3, o4, o5⟩, by rw [a0]; exact hft, ?_, ?_, hG, by rw [nmE_L hF.2.1]; exact hH', ?_, by rw [i _ (by decide), nmB_L hF.2.1]; exact hB, ?_, by rw [i _ (by decide)]; exact hs, by rw [i _ (by decide)]; exact hc, ?_, by rw [hF.2.2.2.1]; exact hth⟩
  · intro q t ht
    unfold c_is
    rw [hF.2.1]
    exact hWd q t ht
  · exact NM_C hNM a0 a1 a3 (by rw [hF.2.1]) (by rw [hF.2.1]) (by rw [hF.2.1]) (by rw [hF.2.1]) (fun q _ => by rw [hF.2.1]; exact ⟨rfl, rfl⟩) (Or.inl rfl) (by rw [hF.2.1]; exact hN.2.2.1)
  · refine ⟨hO.1, hO.2.1, ?_, ?_⟩
    · rw [hF.2.2.2.1, hF.2.2.2.2.1]; exact hO.2.2.1
    · rw [hF.2.2.2.1, hF.2.2.2.2.1, hF.2.2.1]; exact hO.2.2.2
  · intro t t1 t2 hl
    rw [a 3 (by decide)] at hl
    rw [hhb, nmE_L hF.2.1]
    exact hD t t1 t2 hl
  · intro q hq
    obtain ⟨o, c1, c2, c3⟩ := hL q hq
    exact ⟨o, c1, by rw [hF.2.1]; exact c2, c3.imp id (fun c => (hlv o).mpr c)⟩
  · intro j hj hl
    have hl0 := hex j hj hl
    rw [rtgs_Fr hF (fun x hx => (h1 x hx).1) (fun x hx => (h2 x hx).1) (hG0.2.2.2.2.2.2.2.2 j hj hl0)]
    exact hln j hj hl0
theorem count_step {d q : Nat} {own : Nat → Nat × Nat} {β : Nat → Nat} {D : List Nat} {S : cS} {z nn g0 g1 g3 g4 g5 gn : Nat} (h : bw own β D z nn g0 g1 g3 g4 g5 gn S) (hgn : gn < 2 ^ 18) (hst : sI S 5218 = sI S 6166) (hq : q ≤ 9) : ∃ v S', Ans (d + 5) 273 [.ref 0, .int (nI q)] S (some (.int v)) S ∧ Ans (d + 5) 423 [.ref 61, .int (nI q)] S (some (.int v)) S' ∧ Fr [] [87, 89, 90] S S' ∧ bw own β [] z nn g0 g1 g3 g4 g5 gn S' := by
  obtain ⟨hW, hRR, hSm⟩ := bw_W h hgn
  have h' := h
  obtain ⟨hN, h35, hWd, hR, hft, hNM, hO, hG, hH, hD, hB, hL, hs, hc, hln, hth⟩ := h
  obtain ⟨S', hset, hF, h87⟩ := settle_ev (d := d) hW (GR_dead hG hH hD hRR) hSm
  have hG' := GR_settled hG hF h87
  have hb' : bw own β [] z nn g0 g1 g3 g4 g5 gn S' := bw_Fr h' hF (fun i hi => by cases hi) (by decide) hG' (fun j hj hl => by
    rw [h87 j hj] at hl
    by_cases hd : j ∈ D
    · rw [if_pos hd] at hl; exact absurd rfl hl
    · rw [if_neg hd] at hl; exact hl)
  have hW' := (bw_W hb' hgn).1
  obtain ⟨p, f, sp1, sp2, sp3, sp4, sp5, sp6, sp7, sp8, sp9⟩ := hH.2.1
  have k0 : sA S' 3 0 = 0 := by rw [hF.A (by decide)]; exact sp9
  have hlive : nLive S' = nLive S := sumN_congr (fun k _ => by
    show (if sA S' 3 k = 0 then 0 else 1) = if sA S 3 k = 0 then 0 else 1
    rw [hF.A (by decide)])
  have hkind : ∀ q, nKind S' q = nKind S q := fun q => sumN_congr (fun k _ => by
    show (if sA S' 3 k = nI q then 1 else 0) = if sA S 3 k = nI q then 1 else 0
    rw [hF.A (by decide)])
  by_cases h9 : q = 9
  · subst h9
    refine ⟨sI S 5218, S', Ans.up (by omega) (count_c9 (d := 0)), ?_, hF, hb'⟩
    have := count_r9 (d := d) hq hset rfl
    rw [hF.I List.not_mem_nil, ← hst] at this
    exact this
  · by_cases h8 : q = 8
    · subst h8
      refine ⟨sI S 1608, S', Ans.up (by omega) (count_c8 (d := 0)), ?_, hF, hb'⟩
      have hRb := hb'.2.2.2.1
      obtain ⟨r1, r2, r3, r4, r5, r6, k0', k1', k3', k4', k5', rn, _⟩ := hRb
      have := count_in8 (d := d) hq hset rfl (count_l8 r1 r4 k3' rn (by omega) nn 0 0 (by omega) rfl)
      rw [bw_bound hb', nmB_L hF.2.1, ← hB] at this
      exact this
    · have := count_in7 (d := d) hq hset (by omega) (count_l7 hq hW'.1 1500 0 0 (by omega) rfl)
      by_cases h0 : q = 0
      · subst h0
        rw [GR_live hG' k0, hlive, ← sp1] at this
        exact ⟨_, S', Ans.up (by omega) (count_c0 (d := 0)), this, hF, hb'⟩
      · rw [GR_count hG' k0 (by omega) (by omega), hkind, ← hH.2.2.1 q (by omega) (by omega)] at this
        exact ⟨_, S', Ans.up (by omega) (count_ck (d := 0) (by omega) (by omega)), this, hF, hb'⟩
