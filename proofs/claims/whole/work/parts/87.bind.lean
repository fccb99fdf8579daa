/-! BIND as a step -/
theorem hcl_FrL {L1 L2 L3 : List Nat} {S S' : cS} (h : h_cl S) (hok : ∀ k, 1 ≤ k → k ≤ 1500 → h_ok S k) (hF : FrL L1 L2 L3 S S') (h2 : ∀ a, a ∈ L2 → a ∉ [3, 7, 8, 10]) (h3 : ∀ a, a ∈ L3 → 1 ≤ a ∧ a < 108) : h_cl S' := by
  have a3 : sA S' 3 = sA S 3 := hF.A (fun c => h2 3 c (by decide))
  intro j j1 j2 hl t ht
  rw [tgs_FrL hF h2 h3 (hok j j1 j2)] at ht
  rw [a3] at hl ⊢
  exact h j j1 j2 hl t ht
theorem TP_S {S S' : cS} {t : Nat} (h : TP S t) (h1 : sA S' 1 = sA S 1) (h2 : sA S' 107 = sA S 107) : TP S' t := ⟨h.1, by rw [h1, h2]; exact h.2.1, by rw [h2]; exact h.2.2⟩
/-- bind: the same answer of both -/
theorem bind_step {d t : Nat} {x : Int64} {own : Nat → Nat × Nat} {β : Nat → Nat} {D : List Nat} {S : cS} {z nn g0 g1 g3 g4 g5 gn : Nat} (h : bw own β D z nn g0 g1 g3 g4 g5 gn S) (hgn : gn < 2 ^ 18) (hz : z < 4096) (h7 : sI S 7 = nI t) (h75 : sI S 6175 = nI t) (hT : TP S t) : ∃ (v : Int32) (S1 S2 : cS) (own' : Nat → Nat × Nat) (D' : List Nat) (z' nn' h0 h1 h3 h4 h5 gn' : Nat), Ans (d + 9) 277 [.ref 0, .long x] S (some (.int v)) S1 ∧ Ans (d + 9) 424 [.ref 61, .long x] S1 (some (.int v)) S2 ∧ bw own' β D' z' nn' h0 h1 h3 h4 h5 gn' S2 ∧ (z' = z ∨ z' = z + 1) ∧ KS S S2 ∧ sI S2 7 = nI 0 ∧ sI S2 6175 = nI 0 ∧ mu S2 + 32 * gn = mu S + 32 * gn' ∧ (sS S2).length + gn ≤ (sS S).length + gn' ∧ (gn' = gn ∨ gn = nn ∧ gn' = 2 * nn) ∧ (nn' = nn ∨ nn' = nn + 1) ∧ KQ S S2 ∧ ∀ q, q < z → sL S2 17 q = sL S 17 q ∧ sL S2 18 q = sL S 18 q := by
  have hM := hT.1
  obtain ⟨S1, z', hF1, hN1, hzz, e17, s7, hor⟩ := tname_c (d := d + 3) h7 hM h.1 hz (by have := h.2.1; omega)
  have hb1 := bw_class h hF1 hN1 hzz hz e17
  have a1 : sA S1 1 = sA S 1 := hF1.A (by decide)
  have a107 : sA S1 107 = sA S 107 := hF1.A (by decide)
  have hT1 : TP S1 t := TP_S hT a1 a107
  have h751 : sI S1 6175 = nI t := by rw [hF1.I (by decide)]; exact h75
  obtain ⟨tv1, tb1, tH, tL⟩ := tv_S (t := t) a1 (by have := h.2.1; omega) e17
  have k1 : KS S S1 := KS_L hF1 (by decide) (by decide)
  rcases hor with ⟨hbad, hA⟩ | ⟨hv, q, q24, hq, hi, hA⟩
  · have hFw : Fr [6175] [] S1 (wI 6175 (nI 0) S1) := Fr_wI (by decide) (Fr.refl _ _ _)
    have hG2 : GR β D (wI 6175 (nI 0) S1) := GR_FrL (L1 := [6175]) (L2 := []) (L3 := []) hb1.2.2.2.2.2.2.2.1 hb1.2.2.2.2.2.2.2.2.1.1 ⟨rfl, fun _ _ => rfl, rfl, rfl, rfl, rfl, hFw.2.2.2.2.2.2.1, fun _ _ => rfl⟩ (by decide) (fun a ha => by cases ha) (fun a ha => by cases ha)
    exact ⟨_, S1, wI 6175 (nI 0) S1, own, D, z', nn, g0, g1, g3, g4, g5, gn, Ans.up (by omega) (bind_cn (d := d + 3) hA), Ans.up (by omega) (bind_rn (tname_rb (d := d) h751 hT1 hb1.2.2.1 (tb1 hbad))), bw_Fr hb1 hFw (by decide) (fun a ha => by cases ha) hG2 (fun _ _ hl => hl), hzz, k1.trans (KS_F hFw (by decide) (by decide)), (rIn _ _ (by decide)).trans s7, rIe _ _ _, by rw [show mu (wI 6175 (nI 0) S1) = mu S1 from rfl, hF1.2.2.2.2.2.1], by rw [show sS (wI 6175 (nI 0) S1) = sS S1 from rfl, hF1.2.2.2.2.1]; exact Nat.le_refl _, Or.inl rfl, Or.inl rfl, (KQ_L hF1 (by decide)).trans (KQ_F hFw (by decide)), fun q hq => e17 q hq⟩
  · have hz4 := hN1.2.1
    obtain ⟨_, h35, hWd, hR, hft, hNM, hO, hG, hH, hD, hB, hL, hs, hc, hln, hth⟩ := hb1
    -- the class binds
    have hoI : c_obj 2305843009213693952 x = nI 0 := by unfold c_obj; exact if_neg (by decide)
    obtain ⟨S2, Sx, K, hAs, hP2, hD2, hFx, hK, l21, l22, hB2, hKz⟩ := assign_step (d := d + 4) (k := q) (hi := 2305843009213693952) (lo := x) hH hD (by omega) hB hoI (by omega) (Or.inl rfl) (hL q (by omega))
    have hC := bind_c (d := d + 3) hA (by omega) hAs
    obtain ⟨kF, k3, k10, kn, kl, kp, kx⟩ := hK
    have hK' : Kill K Sx S2 := ⟨kF, k3, k10, kn, kl, kp, kx⟩
    have lx : ∀ a, a ∉ [21, 22] → sL S2 a = sL S1 a := fun a ha => by rw [kF.2.1]; exact hFx.2.1 a ha
    have ax : ∀ a, a ∉ [3, 4, 5, 6, 10, 12, 13, 14] → sA S2 a = sA S1 a := fun a ha => (kF.A ha).trans (hFx.A (fun c => ha (by rw [List.mem_singleton.mp c]; decide)))
    have ix : ∀ i, i ∉ [213, 214, 216, 1608] → sI S2 i = sI S1 i := fun i hi => (kF.I (fun c => hi (by
      rcases List.mem_cons.mp c with e | c
      · rw [e]; decide
      · rcases List.mem_cons.mp c with e | c
        · rw [e]; decide
        · rw [List.mem_singleton.mp c]; decide))).trans (hFx.I (fun c => hi (by rw [List.mem_singleton.mp c]; decide)))
    have vx : sV S2 = sV S1 := kF.2.2.1.trans hFx.2.2.1
    have qx : sQ S2 = sQ S1 := kF.2.2.2.1.trans hFx.2.2.2.1
    have sx : sS S2 = sS S1 := kF.2.2.2.2.1.trans hFx.2.2.2.2.1
    have mx : mu S2 = mu S1 := kF.2.2.2.2.2.1.trans hFx.2.2.2.2.2.1
    have hGx : GR β D Sx := GR_FrL hG hH.1 hFx (by decide) (by decide) (by decide)
    have hclx : h_cl Sx := hcl_FrL hH.2.2.2.1 hH.1 hFx (by decide) (by decide)
    have hG2 : GR β (D ++ K.map β) S2 := GR_kill hGx hclx hP2 hK'
    have gl : ∀ g, (own g).1 ≠ 0 → 62 ≤ g := fun g hg => by
      rcases Nat.lt_or_ge g 62 with c | c
      · exact absurd (hO.1 g c) hg
      · exact c
    have hRR := hR
    obtain ⟨q1, q2, q3, q4, q5, q6, k0, k1', k3', k4, k5, qn, q64, o0, o1, o3, o4, o5⟩ := hR
    have ag : ∀ g, (own g).1 ≠ 0 → sA S2 g = sA S1 g := fun g hg => ax g (fun c => by
      have := gl g hg
      have : ∀ a, a ∈ [3, 4, 5, 6, 10, 12, 13, 14] → a < 62 := by decide
      have := this g c
      omega)
    have lg : ∀ g, (own g).1 ≠ 0 → sL S2 g = sL S1 g := fun g hg => lx g (fun c => by
      have := gl g hg
      have : ∀ a, a ∈ [21, 22] → a < 62 := by decide
      have := this g c
      omega)
    have hNM2 : NMv β S2 (sL S1 21) (sL S1 22) z' nn g0 g1 g3 g4 g5 := NMv_S hNM (ag g0 (by omega)) (ag g1 (by omega)) (ag g3 (by omega)) (lg g4 (by omega)) (lg g5 (by omega)) (lx 17 (by decide)) (lx 18 (by decide))
    have hR2 : RN own S2 nn g0 g1 g3 g4 g5 gn := ⟨by rw [ix _ (by decide)]; exact q1, by rw [vx]; exact q2, by rw [vx]; exact q3, by rw [vx]; exact q4, by rw [vx]; exact q5, by rw [vx]; exact q6, isK_S sx k0, isK_S sx k1', isK_S sx k3', isK_S sx k4, isK_S sx k5, qn, q64, o0, o1, o3, o4, o5⟩
    have hO2 : OW own S2 := ⟨hO.1, hO.2.1, by rw [qx, sx]; exact hO.2.2.1, by rw [qx, sx, vx]; exact hO.2.2.2⟩
    have hWd2 : Wd S2 := fun w tt ht => by
      unfold c_is
      rw [lx 17 (by decide), lx 18 (by decide)]
      exact hWd w tt ht
    have b1 : sA S2 1 = sA S1 1 := ax 1 (by decide)
    have hT2 : TP S2 t := TP_S hT1 b1 (ax 107 (by decide))
    obtain ⟨tv2, _, tH2, tL2⟩ := tv_S (S := S1) (S' := S2) (t := t) (z := 24) b1 (Nat.le_refl _) (fun q _ => by rw [lx 17 (by decide), lx 18 (by decide)]; exact ⟨rfl, rfl⟩)
    -- the reference looks it up
    obtain ⟨S3, own', nn', h0, h1, h3, h4, h5, gn', r, hAr, hR', hNM', hr, eH, eL, hFO, hown, s75, hmu, hlen, hg, hft', hnn⟩ := tname_rv (d := d) (z := z') (S := S2) (by rw [ix _ (by decide)]; exact h751) hT2 hWd2 (tv2 (tv1 hv)) hR2 hgn (by rw [ag g0 (by omega)]; exact hft) hNM2 hO2
    have hR3 := hR'
    obtain ⟨r1, r2, r3, r4, r5, r6, p0, p1, p3, p4, p5, rn, r64, w0, w1, w3, w4, w5⟩ := hR'
    have hRf := bind_r (d := d + 8) (v := x) hAr (show r < gn' by omega) (by omega) r4 r5 p3 p4
    have l3 : ∀ a, a < 62 → sL S3 a = sL S2 a := fun a ha => OW_L hO2 hFO (by decide) (Or.inl ha)
    have a3 : ∀ a, a < 62 → sA S3 a = sA S2 a := fun a ha => OW_A hO2 hFO (by decide) (Or.inl ha)
    have hth2 : ∀ p t, p < 1500 → sQ S2 86 p = some t → 108 ≤ t := by rw [qx]; exact hth
    have hO3 : OW own' S3 := OW_O hO2 hFO (by decide) hown hth2
    have hG3 : GR β (D ++ K.map β) S3 := GR_O hG2 hO2 hFO (by decide) (by decide) (by decide) (by decide) (by decide) (by decide) (by decide)
    -- and binds it
    have hF4 : FrO own' [23] [24] [] [] S3 (wL h4 r x (wA h3 r (nI 1) S3)) := ⟨rfl, rfl, fun _ _ => rfl, fun _ _ => rfl, ⟨[], (List.append_nil _).symm⟩, fun a _ ha => by
      rw [rLA, rAn _ _ _ (fun e => ha (by rw [e, w3]; decide))], fun a _ ha => by
      rw [rLn _ _ _ (fun e => ha (by rw [e, w4]; decide)), rAL]⟩
    have g62 : ∀ g, (own' g).1 ≠ 0 → 62 ≤ g := fun g hg => by
      rcases Nat.lt_or_ge g 62 with c | c
      · exact absurd (hO3.1 g c) hg
      · exact c
    have n34 : h0 ≠ h3 := fun e => by rw [e] at w0; omega
    have n13 : h1 ≠ h3 := fun e => by rw [e] at w1; omega
    have n54 : h5 ≠ h4 := fun e => by rw [e] at w5; omega
    have hh3 := g62 h3 (by omega)
    have hh4 := g62 h4 (by omega)
    generalize hS4 : wL h4 r x (wA h3 r (nI 1) S3) = S4 at hF4 hRf
    have l4 : ∀ a, a < 62 → sL S4 a = sL S3 a := fun a ha => OW_L hO3 hF4 (by decide) (Or.inl ha)
    have a4 : ∀ a, a < 62 → sA S4 a = sA S3 a := fun a ha => OW_A hO3 hF4 (by decide) (Or.inl ha)
    have L21 : sL S4 21 = vp_updL (sL S1 21) q 2305843009213693952 := by rw [l4 21 (by decide), l3 21 (by decide), l21]
    have L22 : sL S4 22 = vp_updL (sL S1 22) q x := by rw [l4 22 (by decide), l3 22 (by decide), l22]
    have i4 : ∀ i, i ∉ [6102, 6175] → sI S4 i = sI S2 i := fun i hi => (hF4.2.2.1 i List.not_mem_nil).trans (hFO.2.2.1 i hi)
    have qi : nrel S3 h0 h1 q r := by
      unfold nrel c_is
      rw [eH, eL, tH2, tL2, tH, tL, l3 17 (by decide), l3 18 (by decide), lx 17 (by decide), lx 18 (by decide)]
      exact hi
    have hNM4 : NM β S4 z' nn' h0 h1 h3 h4 h5 := by
      refine NM_set (S := S3) (q := q) (r := r) (hi := 2305843009213693952) (lo := x) (a := x) (kd := nI 1) hNM' hq hr qi ?_ (Or.inr (Or.inr (Or.inl ⟨rfl, rfl, rfl⟩))) ?_ ?_ (fun i => ?_) (fun i => ?_) ?_ (l4 17 (by decide)) (l4 18 (by decide)) (fun i => by rw [L21]; rfl) (fun i => by rw [L22]; rfl) hz4
      · rw [l3 17 (by decide), l3 18 (by decide), lx 17 (by decide), lx 18 (by decide)]
        exact hN1.2.2.1
      · rw [← hS4, rLA, rAn _ _ _ n34]
      · rw [← hS4, rLA, rAn _ _ _ n13]
      · rw [← hS4, rLA, rAe, upd_at]
      · rw [← hS4, rLe, rAL]
        rfl
      · rw [← hS4, rLn _ _ _ n54, rAL]
    have hlv4 : ∀ k, lv S4 k ↔ lv S2 k := fun k => by unfold lv; rw [a4 3 (by decide), a3 3 (by decide)]
    have e21 : nmE S4 = nmE S2 := nmE_21 (by rw [l4 21 (by decide), l3 21 (by decide)]) (by rw [l4 22 (by decide), l3 22 (by decide)])
    have s87 : sA S4 87 = sA S1 87 := by
      rw [OW_A hO3 hF4 (by decide) (Or.inr (by decide)), OW_A hO2 hFO (by decide) (Or.inr (by decide)), ax 87 (by decide)]
    refine ⟨_, S2, S4, own', D ++ K.map β, z', nn', h0, h1, h3, h4, h5, gn', Ans.up (by omega) hC, hRf, ⟨?_, h35, ?_, ?_, ?_, hNM4, OW_O hO3 hF4 (by decide) (fun _ _ => rfl) (by rw [hFO.2.1]; exact hth2), GR_O hG3 hO3 hF4 (by decide) (by decide) (by decide) (by decide) (by decide) (by decide) (by decide), ?_, ?_, ?_, ?_, ?_, ?_, ?_, ?_⟩, hzz, ?_, ?_, ?_, ?_, ?_, hg, hnn, ((((KQ_L hF1 (by decide)).trans (KQ_L hFx (by decide))).trans (KQ_F kF (by decide))).trans (KQ_O hFO (by decide) (by decide))).trans (KQ_O hF4 (fun i hi => by cases hi) (fun i hi => by cases hi)), fun w hw => by rw [l4 17 (by decide), l4 18 (by decide), l3 17 (by decide), l3 18 (by decide), lx 17 (by decide), lx 18 (by decide)]; exact e17 w hw⟩
    · exact NT_S (NT_S (NT_S hN1 (ix _ (by decide)) (ax _ (by decide)) (ax _ (by decide)) (lx _ (by decide)) (lx _ (by decide))) (hFO.2.2.1 _ (by decide)) (a3 _ (by decide)) (a3 _ (by decide)) (l3 _ (by decide)) (l3 _ (by decide))) (hF4.2.2.1 _ List.not_mem_nil) (a4 _ (by decide)) (a4 _ (by decide)) (l4 _ (by decide)) (l4 _ (by decide))
    · intro w tt ht
      unfold c_is
      rw [l4 17 (by decide), l4 18 (by decide), l3 17 (by decide), l3 18 (by decide)]
      exact hWd2 w tt ht
    · have v4 : sV S4 = sV S3 := by rw [← hS4]; rfl
      have s4 : sS S4 = sS S3 := by rw [← hS4]; rfl
      exact ⟨by rw [hF4.2.2.1 _ List.not_mem_nil]; exact r1, by rw [v4]; exact r2, by rw [v4]; exact r3, by rw [v4]; exact r4, by rw [v4]; exact r5, by rw [v4]; exact r6, isK_S s4 p0, isK_S s4 p1, isK_S s4 p3, isK_S s4 p4, isK_S s4 p5, rn, r64, w0, w1, w3, w4, w5⟩
    · intro i
      rw [← hS4, rLA, rAn _ _ _ n34]
      exact hft' i
    · rw [e21]
      exact Hp_O (Hp_O hP2 hO2 hFO (by decide) (by decide) (by decide) (by decide)) hO3 hF4 (by decide) (by decide) (by decide) (fun i hi => by cases hi)
    · rw [e21]
      exact Hd_O (Hd_O hD2 hO2 hFO (by decide) (by decide) (by decide)) hO3 hF4 (by decide) (by decide) (by decide)
    · rw [i4 _ (by decide), hB2, nmB_21 (S := S2) (S' := S4) (by rw [l4 21 (by decide), l3 21 (by decide)])]
    · intro w hw
      rw [L21, L22]
      by_cases ew : w = q
      · subst ew
        refine ⟨0, by omega, ?_, Or.inl rfl⟩
        show c_obj (if w = w then _ else _) (if w = w then _ else _) = _
        rw [if_pos rfl, if_pos rfl]
        exact hoI
      · obtain ⟨o, c1, c2, c3⟩ := hL w hw
        have u21 : vp_updL (sL S1 21) q 2305843009213693952 w = sL S1 21 w := if_neg ew
        have u22 : vp_updL (sL S1 22) q x w = sL S1 22 w := if_neg ew
        refine ⟨o, c1, by rw [u21, u22]; exact c2, c3.imp id (fun c => ?_)⟩
        rw [hlv4]
        have hx3 : sA Sx 3 = sA S1 3 := hFx.A (by decide)
        have hnK : o ∉ K := fun hm => by
          have hz0 := (hKz o hm).1
          have hpos := sumN_pos (f := fun w => if ob (sL S2 21 w) (sL S2 22 w) = o then 1 else 0) (k := w) (n := 4096) hw
          have e1 : ob (sL S2 21 w) (sL S2 22 w) = o := by
            rw [l21, l22, u21, u22]
            exact ob_n c2 c1
          simp only [if_pos e1] at hpos
          have : nmE S2 o = sumN (fun w => if ob (sL S2 21 w) (sL S2 22 w) = o then 1 else 0) 4096 := rfl
          omega
        refine ⟨c.1, c.2.1, ?_⟩
        rw [k3 o, if_neg hnK, hx3]
        exact c.2.2
    · rw [i4 _ (by decide), ix _ (by decide)]; exact hs
    · rw [i4 _ (by decide), ix _ (by decide)]; exact hc
    · intro j hj hl
      rw [s87] at hl
      have hl2 : sA S2 87 j ≠ 0 := by rw [ax 87 (by decide)]; exact hl
      have hl3 : sA S3 87 j ≠ 0 := by rw [OW_A hO2 hFO (by decide) (Or.inr (by decide))]; exact hl2
      have hlx : sA Sx 87 j ≠ 0 := by rw [hFx.A (by decide)]; exact hl
      rw [(r_ok_O hj hO3 hF4 (by decide) (by decide) (fun i hi => by cases hi) (fun i hi => by cases hi) (hG3.2.2.2.2.2.2.2.2 j hj hl3)).2, (r_ok_O hj hO2 hFO (by decide) (by decide) (by decide) (by decide) (hG2.2.2.2.2.2.2.2.2 j hj hl2)).2, rtgs_Fr kF (by decide) (by decide) (hGx.2.2.2.2.2.2.2.2 j hj hlx), (r_ok_FrL hFx (by decide) (by decide) (by decide) (hG.2.2.2.2.2.2.2.2 j hj hl)).2]
      exact hln j hj hl
    · rw [hF4.2.1, hFO.2.1]; exact hth2
    · refine k1.trans (KS.trans (S1 := S2) ⟨fun i hi => ?_, fun a ha => ?_⟩ (KS.trans (KS_O hO2 hFO) ⟨fun i hi => hF4.2.2.1 i List.not_mem_nil, fun a ha => ?_⟩))
      · have : ∀ i, i ∈ [8, 4906, 5218, 6166, 6172, 6176] → i ∉ [213, 214, 216, 1608] := by decide
        exact ix i (this i hi)
      · have : ∀ a, a ∈ [1, 50, 106, 107] → a ∉ [3, 4, 5, 6, 10, 12, 13, 14] := by decide
        exact ax a (this a ha)
      · have : ∀ a, a ∈ [1, 50, 106, 107] → a < 62 ∨ (67 ≤ a ∧ a < 108 ∧ a ≠ 79 ∧ a ≠ 80) := by decide
        exact OW_A hO3 hF4 (by decide) (this a ha)
    · rw [i4 _ (by decide), ix _ (by decide)]; exact s7
    · rw [hF4.2.2.1 _ List.not_mem_nil]; exact s75
    · have : mu S4 = mu S3 := by rw [← hS4]; rfl
      rw [this, hmu, mx, hF1.2.2.2.2.2.1]
    · have : sS S4 = sS S3 := by rw [← hS4]; rfl
      rw [this]
      rw [sx, hF1.2.2.2.2.1] at hlen
      exact hlen
