/-! VALUE as a step -/
theorem Hp_anyL {S S' : cS} {e4 e5 e6 : Nat → Nat} {L1 L2 L3 : List Nat} (h : Hp e4 e5 e6 S) (hF : FrL L1 L2 L3 S S') (h1 : ∀ i, i ∈ L1 → i ∉ [213, 214, 215]) (h2 : ∀ a, a ∈ L2 → a ∉ [3, 4, 5, 6, 7, 8, 10, 12, 13]) (h3 : ∀ a, a ∈ L3 → 1 ≤ a ∧ a < 108) : Hp e4 e5 e6 S' ∧ ∀ t, heldBy S' t = heldBy S t := by
  obtain ⟨hok, ⟨p, f, q1, q2, q3, q4, q5, q6, q7, q8, q9⟩, hcn, hcl, hds, hex⟩ := h
  have a : ∀ x, x ∈ [3, 4, 5, 6, 7, 8, 10, 12, 13] → sA S' x = sA S x := fun x hx => hF.A (fun c => h2 x c hx)
  have i : ∀ x, x ∈ [213, 214, 215] → sI S' x = sI S x := fun x hx => hF.I (fun c => h1 x c hx)
  have sub : ∀ x, x ∈ [3, 7, 8, 10] → x ∈ [3, 4, 5, 6, 7, 8, 10, 12, 13] := by decide
  have htg : ∀ k, 1 ≤ k → k ≤ 1500 → tgs S' k = tgs S k := fun k k1 k2 => tgs_FrL hF (fun x hx c => h2 x hx (sub x c)) h3 (hok k k1 k2)
  have hh : ∀ t, heldBy S' t = heldBy S t := fun t => sumN_congr (fun j hj => by
    show (if sA S' 3 j = 0 then 0 else (tgs S' j).count t) = if sA S 3 j = 0 then 0 else (tgs S j).count t
    rw [a 3 (by decide)]
    by_cases hc : sA S 3 j = 0
    · rw [if_pos hc, if_pos hc]
    · rw [if_neg hc, if_neg hc, htg j (by
        rcases Nat.eq_zero_or_pos j with e | e
        · subst e; exact absurd q9 hc
        · exact e) (by omega)])
  have hn : nLive S' = nLive S := sumN_congr (fun k _ => by
    show (if sA S' 3 k = 0 then 0 else 1) = if sA S 3 k = 0 then 0 else 1
    rw [a 3 (by decide)])
  refine ⟨⟨?_, ⟨p, f, by rw [i _ (by decide), hn]; exact q1, by rw [i _ (by decide)]; exact q2, by rw [i _ (by decide)]; exact q3, by rw [hn]; exact q4, q5, ?_, ?_, by rw [a 3 (by decide)]; exact q8, by rw [a 3 (by decide)]; exact q9⟩, ?_, ?_, ?_, ?_⟩, hh⟩
  · intro k k1 k2
    obtain ⟨kd', z', x', y', b1, b2, b3, b4, b5, b6, b7, b8, b9, b10, b11⟩ := hok k k1 k2
    refine ⟨kd', z', x', y', b1, by rw [a 3 (by decide)]; exact b2, by rw [a 10 (by decide)]; exact b3, by rw [a 7 (by decide)]; exact b4, by rw [a 8 (by decide)]; exact b5, b6, b7, b8, b9, by rw [hF.2.2.2.1]; exact b10, ?_⟩
    rw [hF.2.2.2.1, hF.2.2.2.2.1]
    intro r hr
    obtain ⟨N, c1, c2, c3, c4, c5⟩ := b11 r hr
    refine ⟨N, c1, c2, c3, c4, ?_⟩
    rw [hF.2.1 r (fun c => by have := h3 r c; omega)]
    exact c5
  · rw [a 3 (by decide), a 13 (by decide)]; exact q6
  · rw [a 13 (by decide)]; exact q7
  · intro kd k1 k2
    have : nKind S' kd = nKind S kd := sumN_congr (fun k _ => by
      show (if sA S' 3 k = nI kd then 1 else 0) = if sA S 3 k = nI kd then 1 else 0
      rw [a 3 (by decide)])
    rw [this, a 12 (by decide)]
    exact hcn kd k1 k2
  · intro j j1 j2 hl t ht
    rw [htg j j1 j2] at ht
    rw [a 3 (by decide)] at hl ⊢
    exact hcl j j1 j2 hl t ht
  · unfold h_ds
    rw [hF.2.2.2.1]
    exact hds
  · intro t t1 t2
    rw [hh t, a 4 (by decide), a 5 (by decide), a 6 (by decide)]
    exact hex t t1 t2
theorem nmE_21 {S S' : cS} (h : sL S' 21 = sL S 21) (h2 : sL S' 22 = sL S 22) : nmE S' = nmE S := by
  funext t
  unfold nmE
  rw [h, h2]
theorem nmB_21 {S S' : cS} (h : sL S' 21 = sL S 21) : nmB S' = nmB S := by
  unfold nmB
  rw [h]
/-- the class has looked a name up -/
theorem bw_class {own : Nat → Nat × Nat} {β : Nat → Nat} {D : List Nat} {S S' : cS} {z z' nn g0 g1 g3 g4 g5 gn : Nat} (h : bw own β D z nn g0 g1 g3 g4 g5 gn S) (hF : FrL [7, 3102, 3103, 3104, 3105, 3109, 1607] [19, 20] [17, 18] S S') (hN' : c_NT S' z') (hzz : z' = z ∨ z' = z + 1) (hz : z < 4096) (e17 : ∀ q, q < z → sL S' 17 q = sL S 17 q ∧ sL S' 18 q = sL S 18 q) : bw own β D z' nn g0 g1 g3 g4 g5 gn S' := by
  obtain ⟨hN, h35, hWd, hR, hft, hNM, hO, hG0, hH, hD, hB, hL, hs, hc, hln, hth⟩ := h
  obtain ⟨q1, q2, q3, q4, q5, q6, k0, k1, k3, k4, k5, qn, q64, o0, o1, o3, o4, o5⟩ := hR
  have gl : ∀ g, (own g).1 ≠ 0 → 62 ≤ g := fun g hg => by
    rcases Nat.lt_or_ge g 62 with c | c
    · exact absurd (hO.1 g c) hg
    · exact c
  have a : ∀ g, (own g).1 ≠ 0 → sA S' g = sA S g := fun g hg => hF.A (fun c => by
    have := gl g hg
    rcases List.mem_cons.mp c with e | c
    · omega
    · have := List.mem_singleton.mp c; omega)
  have l : ∀ g, (own g).1 ≠ 0 → sL S' g = sL S g := fun g hg => hF.2.1 g (fun c => by
    have := gl g hg
    rcases List.mem_cons.mp c with e | c
    · omega
    · have := List.mem_singleton.mp c; omega)
  have l21 : sL S' 21 = sL S 21 := hF.2.1 21 (by decide)
  have l22 : sL S' 22 = sL S 22 := hF.2.1 22 (by decide)
  obtain ⟨hH', hhb⟩ := Hp_anyL hH hF (by decide) (by decide) (by decide)
  have hlv : ∀ k, lv S' k ↔ lv S k := fun k => by unfold lv; rw [hF.A (a := 3) (by decide)]
  have hr := fun p (hp : p < 1500) (hx : sA S 87 p ≠ 0) => r_ok_FrL hF (by decide) (by decide) (by decide) (hG0.2.2.2.2.2.2.2.2 p hp hx)
  refine ⟨hN', by omega, ?_, ⟨by rw [hF.I (by decide)]; exact q1, by rw [hF.2.2.1]; exact q2, by rw [hF.2.2.1]; exact q3, by rw [hF.2.2.1]; exact q4, by rw [hF.2.2.1]; exact q5, by rw [hF.2.2.1]; exact q6, isK_S hF.2.2.2.2.1 k0, isK_S hF.2.2.2.2.1 k1, isK_S hF.2.2.2.2.1 k3, isK_S hF.2.2.2.2.1 k4, isK_S hF.2.2.2.2.1 k5, qn, q64, o0, o1, o3, o4, o5⟩, by rw [a g0 (by omega)]; exact hft, ?_, ?_, GR_FrL hG0 hH.1 hF (by decide) (by decide) (by decide), by rw [nmE_21 l21 l22]; exact hH', ?_, by rw [hF.I (by decide), nmB_21 l21]; exact hB, ?_, by rw [hF.I (by decide)]; exact hs, by rw [hF.I (by decide)]; exact hc, ?_, by rw [hF.2.2.2.1]; exact hth⟩
  · intro q t ht
    have := (w_tx_at ht).1
    unfold c_is
    rw [(e17 q (by omega)).1, (e17 q (by omega)).2]
    exact hWd q t ht
  · exact NM_C hNM (a g0 (by omega)) (a g1 (by omega)) (a g3 (by omega)) (l g4 (by omega)) (l g5 (by omega)) l21 l22 e17 (hzz.imp id (fun e => ⟨e, hz⟩)) hN'.2.2.1
  · refine ⟨hO.1, hO.2.1, ?_, ?_⟩
    · rw [hF.2.2.2.1, hF.2.2.2.2.1]; exact hO.2.2.1
    · rw [hF.2.2.2.1, hF.2.2.2.2.1, hF.2.2.1]; exact hO.2.2.2
  · intro t t1 t2 hl
    rw [hF.A (by decide)] at hl
    rw [hhb, nmE_21 l21 l22]
    exact hD t t1 t2 hl
  · intro q hq
    obtain ⟨o, c1, c2, c3⟩ := hL q hq
    exact ⟨o, c1, by rw [l21, l22]; exact c2, c3.imp id (fun c => (hlv o).mpr c)⟩
  · intro j hj hl
    rw [hF.A (by decide)] at hl
    rw [(hr j hj hl).2]
    exact hln j hj hl
/-- the reference has looked a name up -/
theorem bw_ref {own own' : Nat → Nat × Nat} {β : Nat → Nat} {D : List Nat} {S S' : cS} {z nn nn' g0 g1 g3 g4 g5 gn h0 h1 h3 h4 h5 gn' : Nat} (h : bw own β D z nn g0 g1 g3 g4 g5 gn S) (hF : FrO own [20, 21, 23] [24, 25] [6102, 6175] [6100, 6101, 6103, 6104, 6105] S S') (hR' : RN own' S' nn' h0 h1 h3 h4 h5 gn') (hNM' : NM β S' z nn' h0 h1 h3 h4 h5) (hown : ∀ a, a < 108 + (sS S).length → own' a = own a) (hft' : ∀ i, fits .byte (.int (sA S' h0 i)) = true) : bw own' β D z nn' h0 h1 h3 h4 h5 gn' S' := by
  obtain ⟨hN, h35, hWd, hR, hft, hNM, hO, hG0, hH, hD, hB, hL, hs, hc, hln, hth⟩ := h
  have l : ∀ a, a < 62 → sL S' a = sL S a := fun a ha => OW_L hO hF (by decide) (Or.inl ha)
  have a : ∀ x, x < 62 → sA S' x = sA S x := fun x hx => OW_A hO hF (by decide) (Or.inl hx)
  have h87 : sA S' 87 = sA S 87 := OW_A hO hF (by decide) (Or.inr (by decide))
  have i : ∀ x, x ∉ [6102, 6175] → sI S' x = sI S x := hF.2.2.1
  have hlv : ∀ k, lv S' k ↔ lv S k := fun k => by unfold lv; rw [a 3 (by decide)]
  refine ⟨NT_S hN (i _ (by decide)) (a _ (by decide)) (a _ (by decide)) (l _ (by decide)) (l _ (by decide)), h35, ?_, hR', hft', hNM', OW_O hO hF (by decide) hown hth, GR_O hG0 hO hF (by decide) (by decide) (by decide) (by decide) (by decide) (by decide) (by decide), ?_, ?_, by rw [i _ (by decide), nmB_21 (l 21 (by decide))]; exact hB, ?_, by rw [i _ (by decide)]; exact hs, by rw [i _ (by decide)]; exact hc, ?_, by rw [hF.2.1]; exact hth⟩
  · intro q t ht
    unfold c_is
    rw [l 17 (by decide), l 18 (by decide)]
    exact hWd q t ht
  · rw [nmE_21 (l 21 (by decide)) (l 22 (by decide))]
    exact Hp_O hH hO hF (by decide) (by decide) (by decide) (by decide)
  · rw [nmE_21 (l 21 (by decide)) (l 22 (by decide))]
    exact Hd_O hD hO hF (by decide) (by decide) (by decide)
  · intro q hq
    obtain ⟨o, c1, c2, c3⟩ := hL q hq
    exact ⟨o, c1, by rw [l 21 (by decide), l 22 (by decide)]; exact c2, c3.imp id (fun c => (hlv o).mpr c)⟩
  · intro j hj hl
    rw [h87] at hl
    rw [(r_ok_O hj hO hF (by decide) (by decide) (by decide) (by decide) (hG0.2.2.2.2.2.2.2.2 j hj hl)).2]
    exact hln j hj hl
/-- what neither name nor value touches -/
def KS (S S' : cS) : Prop := (∀ i, i ∈ [8, 4906, 5218, 6166, 6172, 6176] → sI S' i = sI S i) ∧ (∀ a, a ∈ [1, 50, 106, 107] → sA S' a = sA S a)
theorem KS.trans {S S1 S2 : cS} (h : KS S S1) (g : KS S1 S2) : KS S S2 := ⟨fun i hi => (g.1 i hi).trans (h.1 i hi), fun a ha => (g.2 a ha).trans (h.2 a ha)⟩
theorem KS_L {L1 L2 L3 : List Nat} {S S' : cS} (h : FrL L1 L2 L3 S S') (h1 : ∀ i, i ∈ [8, 4906, 5218, 6166, 6172, 6176] → i ∉ L1) (h2 : ∀ a, a ∈ [1, 50, 106, 107] → a ∉ L2) : KS S S' := ⟨fun i hi => h.I (h1 i hi), fun a ha => h.A (h2 a ha)⟩
theorem KS_F {L1 L2 : List Nat} {S S' : cS} (h : Fr L1 L2 S S') (h1 : ∀ i, i ∈ [8, 4906, 5218, 6166, 6172, 6176] → i ∉ L1) (h2 : ∀ a, a ∈ [1, 50, 106, 107] → a ∉ L2) : KS S S' := ⟨fun i hi => h.I (h1 i hi), fun a ha => h.A (h2 a ha)⟩
theorem KS_O {own : Nat → Nat × Nat} {S S' : cS} (hO : OW own S) (h : FrO own [20, 21, 23] [24, 25] [6102, 6175] [6100, 6101, 6103, 6104, 6105] S S') : KS S S' := ⟨fun i hi => h.2.2.1 i (by
  have : ∀ i, i ∈ [8, 4906, 5218, 6166, 6172, 6176] → i ∉ [6102, 6175] := by decide
  exact this i hi), fun a ha => OW_A hO h (by decide) (by
  have : ∀ a, a ∈ [1, 50, 106, 107] → a < 62 ∨ (67 ≤ a ∧ a < 108 ∧ a ≠ 79 ∧ a ≠ 80) := by decide
  exact this a ha)⟩
theorem tv_S {S S' : cS} {t z : Nat} (h1 : sA S' 1 = sA S 1) (hz : 24 ≤ z) (e17 : ∀ q, q < z → sL S' 17 q = sL S 17 q ∧ sL S' 18 q = sL S 18 q) : (tv S t → tv S' t) ∧ (tb S t → tb S' t) ∧ t_H S' t = t_H S t ∧ t_L S' t = t_L S t := by
  have hb : c_byte S' = c_byte S := by
    funext x
    unfold c_byte
    rw [h1]
  have hH : t_H S' t = t_H S t := by unfold t_H; rw [hb]
  have hL : t_L S' t = t_L S t := by unfold t_L; rw [hb]
  have hal : ∀ x, t_al S' x ↔ t_al S x := fun x => by unfold t_al; rw [hb]
  have hi : ∀ q, q < 24 → (c_is S' (t_H S' t) (t_L S' t) q ↔ c_is S (t_H S t) (t_L S t) q) := fun q hq => by
    unfold c_is
    rw [hH, hL, (e17 q (by omega)).1, (e17 q (by omega)).2]
  refine ⟨fun ⟨a1, a2, a3, a4, a5⟩ => ⟨a1, a2, by rw [hb]; exact a3, fun x hx => (hal x).mpr (a4 x hx), fun q hq c => a5 q hq ((hi q hq).mp c)⟩, fun h => ?_, hH, hL⟩
  rcases h with h | h | ⟨a1, a2, a3⟩ | ⟨a1, a2, a3, M, m1, m2, m3⟩ | ⟨a1, a2, a3, a4, q, hq, c⟩
  · exact Or.inl h
  · exact Or.inr (Or.inl h)
  · exact Or.inr (Or.inr (Or.inl ⟨a1, a2, by rw [hb]; exact a3⟩))
  · exact Or.inr (Or.inr (Or.inr (Or.inl ⟨a1, a2, by rw [hb]; exact a3, M, m1, fun x hx => (hal x).mpr (m2 x hx), fun c => m3 ((hal M).mp c)⟩)))
  · exact Or.inr (Or.inr (Or.inr (Or.inr ⟨a1, a2, by rw [hb]; exact a3, fun x hx => (hal x).mpr (a4 x hx), q, hq, (hi q hq).mpr c⟩)))
/-- what things and rows stand in: the same -/
def KQ (S S' : cS) : Prop := sQ S' = sQ S ∧ (∃ l, sS S' = sS S ++ l) ∧ ∀ i, 10800 ≤ i → sI S' i = sI S i ∧ sV S' i = sV S i
theorem KQ.refl (S : cS) : KQ S S := ⟨rfl, ⟨[], (List.append_nil _).symm⟩, fun _ _ => ⟨rfl, rfl⟩⟩
theorem KQ.trans {S S1 S2 : cS} (h : KQ S S1) (g : KQ S1 S2) : KQ S S2 := by
  obtain ⟨l, hl⟩ := h.2.1
  obtain ⟨m, hm⟩ := g.2.1
  exact ⟨g.1.trans h.1, ⟨l ++ m, by rw [hm, hl, List.append_assoc]⟩, fun i hi => ⟨(g.2.2 i hi).1.trans (h.2.2 i hi).1, (g.2.2 i hi).2.trans (h.2.2 i hi).2⟩⟩
theorem KQ_O {own : Nat → Nat × Nat} {A L LI LV : List Nat} {S S' : cS} (hF : FrO own A L LI LV S S') (hI : ∀ i, i ∈ LI → i < 10800) (hV : ∀ i, i ∈ LV → i < 10800) : KQ S S' := ⟨hF.2.1, hF.2.2.2.2.1, fun i hi => ⟨hF.2.2.1 i (fun hm => by have := hI i hm; omega), hF.2.2.2.1 i (fun hm => by have := hV i hm; omega)⟩⟩
theorem KQ_L {L1 L2 L3 : List Nat} {S S' : cS} (hF : FrL L1 L2 L3 S S') (hI : ∀ i, i ∈ L1 → i < 10800) : KQ S S' := ⟨hF.2.2.2.1, ⟨[], by rw [hF.2.2.2.2.1, List.append_nil]⟩, fun i hi => ⟨hF.I (fun hm => by have := hI i hm; omega), by rw [hF.2.2.1]⟩⟩
theorem KQ_F {L1 L2 : List Nat} {S S' : cS} (hF : Fr L1 L2 S S') (hI : ∀ i, i ∈ L1 → i < 10800) : KQ S S' := ⟨hF.2.2.2.1, ⟨[], by rw [hF.2.2.2.2.1, List.append_nil]⟩, fun i hi => ⟨hF.I (fun hm => by have := hI i hm; omega), by rw [hF.2.2.1]⟩⟩
/-- value: the same answer of both -/
theorem value_step {d t : Nat} {own : Nat → Nat × Nat} {β : Nat → Nat} {D : List Nat} {S : cS} {z nn g0 g1 g3 g4 g5 gn : Nat} (h : bw own β D z nn g0 g1 g3 g4 g5 gn S) (hgn : gn < 2 ^ 18) (hz : z < 4096) (h7 : sI S 7 = nI t) (h75 : sI S 6175 = nI t) (hT : TP S t) : ∃ (v : Int64) (S1 S2 : cS) (own' : Nat → Nat × Nat) (z' nn' h0 h1 h3 h4 h5 gn' : Nat), Ans (d + 9) 280 [.ref 0] S (some (.long v)) S1 ∧ Ans (d + 9) 426 [.ref 61] S1 (some (.long v)) S2 ∧ bw own' β D z' nn' h0 h1 h3 h4 h5 gn' S2 ∧ (z' = z ∨ z' = z + 1) ∧ KS S S2 ∧ sI S2 7 = nI 0 ∧ sI S2 6175 = nI 0 ∧ mu S2 + 32 * gn = mu S + 32 * gn' ∧ (sS S2).length + gn ≤ (sS S).length + gn' ∧ (gn' = gn ∨ gn = nn ∧ gn' = 2 * nn) ∧ (nn' = nn ∨ nn' = nn + 1) ∧ KQ S S2 ∧ ∀ q, q < z → sL S2 17 q = sL S 17 q ∧ sL S2 18 q = sL S 18 q := by
  have hM := hT.1
  obtain ⟨S1, z', hF1, hN1, hzz, e17, s7, hor⟩ := tname_c (d := d + 3) h7 hM h.1 hz (by have := h.2.1; omega)
  have hb1 := bw_class h hF1 hN1 hzz hz e17
  have a1 : sA S1 1 = sA S 1 := hF1.A (by decide)
  have a107 : sA S1 107 = sA S 107 := hF1.A (by decide)
  have hT1 : TP S1 t := ⟨hM, by rw [a1, a107]; exact hT.2.1, by rw [a107]; exact hT.2.2⟩
  have h751 : sI S1 6175 = nI t := by rw [hF1.I (by decide)]; exact h75
  obtain ⟨tv1, tb1, tH, tL⟩ := tv_S (t := t) a1 (by have := h.2.1; omega) e17
  have k1 : KS S S1 := KS_L hF1 (by decide) (by decide)
  rcases hor with ⟨hbad, hA⟩ | ⟨hv, q, q24, hq, hi, hA⟩
  · have hFw : Fr [6175] [] S1 (wI 6175 (nI 0) S1) := Fr_wI (by decide) (Fr.refl _ _ _)
    have hG2 : GR β D (wI 6175 (nI 0) S1) := GR_FrL (L1 := [6175]) (L2 := []) (L3 := []) hb1.2.2.2.2.2.2.2.1 hb1.2.2.2.2.2.2.2.2.1.1 ⟨rfl, fun _ _ => rfl, rfl, rfl, rfl, rfl, hFw.2.2.2.2.2.2.1, fun _ _ => rfl⟩ (by decide) (fun a ha => by cases ha) (fun a ha => by cases ha)
    exact ⟨_, S1, wI 6175 (nI 0) S1, own, z', nn, g0, g1, g3, g4, g5, gn, Ans.up (by omega) (value_cn (d := d + 3) hA), Ans.up (by omega) (value_rn (tname_rb (d := d) h751 hT1 hb1.2.2.1 (tb1 hbad))), bw_Fr hb1 hFw (by decide) (fun a ha => by cases ha) hG2 (fun _ _ hl => hl), hzz, k1.trans (KS_F hFw (by decide) (by decide)), (rIn _ _ (by decide)).trans s7, rIe _ _ _, by rw [show mu (wI 6175 (nI 0) S1) = mu S1 from rfl, hF1.2.2.2.2.2.1], by rw [show sS (wI 6175 (nI 0) S1) = sS S1 from rfl, hF1.2.2.2.2.1]; exact Nat.le_refl _, Or.inl rfl, Or.inl rfl, (KQ_L hF1 (by decide)).trans (KQ_F hFw (by decide)), fun q hq => e17 q hq⟩
  · obtain ⟨S2, own', nn', h0, h1, h3, h4, h5, gn', r, hAr, hR', hNM', hr, eH, eL, hFO, hown, s75, hmu, hlen, hg, hft, hnn⟩ := tname_rv (d := d) (z := z') h751 hT1 hb1.2.2.1 (tv1 hv) hb1.2.2.2.1 hgn hb1.2.2.2.2.1 hb1.2.2.2.2.2.1 hb1.2.2.2.2.2.2.1
    have l : ∀ a, a < 62 → sL S2 a = sL S1 a := fun a ha => OW_L hb1.2.2.2.2.2.2.1 hFO (by decide) (Or.inl ha)
    have hNM2 : NM β S2 z' nn' h0 h1 h3 h4 h5 := by
      unfold NM
      rw [l 21 (by decide), l 22 (by decide)]
      exact hNM'
    have hb2 := bw_ref hb1 hFO hR' hNM2 hown hft
    have hqr : nrel S2 h0 h1 q r := by
      unfold nrel c_is
      rw [eH, eL, tH, tL, l 17 (by decide), l 18 (by decide)]
      exact hi
    have hvr := hNM'.2.2.1 r q hr hq hqr
    obtain ⟨v0, v1, v2⟩ := vrel_kind hvr
    have hz4 := hN1.2.1
    obtain ⟨r1, r2, r3, r4, r5, r6, k0', k1', k3', k4', k5', rn, _⟩ := hR'
    have hgn' : gn' < 2 ^ 20 := by omega
    have rest : bw own' β D z' nn' h0 h1 h3 h4 h5 gn' S2 ∧ (z' = z ∨ z' = z + 1) ∧ KS S S2 ∧ sI S2 7 = nI 0 ∧ sI S2 6175 = nI 0 ∧ mu S2 + 32 * gn = mu S + 32 * gn' ∧ (sS S2).length + gn ≤ (sS S).length + gn' ∧ (gn' = gn ∨ gn = nn ∧ gn' = 2 * nn) ∧ (nn' = nn ∨ nn' = nn + 1) ∧ KQ S S2 ∧ ∀ q, q < z → sL S2 17 q = sL S 17 q ∧ sL S2 18 q = sL S 18 q := ⟨hb2, hzz, k1.trans (KS_O hb1.2.2.2.2.2.2.1 hFO), by rw [hFO.2.2.1 7 (by decide)]; exact s7, s75, by rw [hmu, hF1.2.2.2.2.2.1], by rw [hF1.2.2.2.2.1] at hlen; exact hlen, hg, hnn, (KQ_L hF1 (by decide)).trans (KQ_O hFO (by decide) (by decide)), fun q hq => by rw [l 17 (by decide), l 18 (by decide)]; exact e17 q hq⟩
    by_cases c0 : c_kind (sL S1 21 q) = 0
    · exact ⟨_, S1, S2, own', z', nn', h0, h1, h3, h4, h5, gn', Ans.up (by omega) (value_c0 (d := d + 3) (by omega) hA c0), value_r0 hAr (by omega) hgn' r4 r5 k3' k4' (v0.mp c0), rest⟩
    · by_cases ci : c_kind (sL S1 21 q) = nI 2
      · have e3 := v1.mp ci
        refine ⟨_, S1, S2, own', z', nn', h0, h1, h3, h4, h5, gn', Ans.up (by omega) (value_ci (d := d + 3) (by omega) hA ci), ?_, rest⟩
        have := value_ri hAr (by omega) hgn' r4 r5 k3' k4' e3
        rw [v2 e3] at this
        exact this
      · exact ⟨_, S1, S2, own', z', nn', h0, h1, h3, h4, h5, gn', Ans.up (by omega) (value_co (d := d + 3) (by omega) hA c0 ci), value_ro hAr (by omega) hgn' r4 r5 k3' k4' (fun c => c0 (v0.mpr c)) (fun c => ci (v1.mpr c)), rest⟩
