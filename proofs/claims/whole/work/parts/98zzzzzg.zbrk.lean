/-! STATEMENTS OF THE REFERENCE: a break is put -/
section
variable {β : Nat → Nat} {n : Nat} {E : Nat → Nat → Bool} {V : Nat → Int32} {T : Nat → Nat × Nat} {P : Nat → Int32 → Int32 × Int32} {own0 : Nat → Nat × Nat} {m u k1 : Nat} {S0 S S1 S2 : cS} {H B0 W d l c w t f f1 b j s : Nat} {X Y : Nat → Nat} {o1 o2 : List Op} {A A1 : Prop}
theorem zE_brk {L : Nat} (hX : zX β n V own0 m k1 S0) (h : zE own0 m u S0 H B0 c w t f b S) (hb3 : b < 3000) (hc : c + 2 ≤ H) (hH : H ≤ 40000) (hL : sI S 6126 = nI (L + 1)) (hLM : L + 1 < 30) : ∃ S2, (∀ lv : sm_L, sm_get lv 0 = some (.ref 61) → Bod (d + 8) 304 308 lv [] S (some (.int 1)) S2) ∧ zE own0 m u S0 H B0 (c + 2) w t f (b + 1) S2 ∧ kW m c w t f b S S2 ∧ cw S2 m c = nI 11 ∧ bkA S2 b = nI (c + 1) ∧ bkL S2 b = nI L ∧ (∀ i, i ≠ 100 * m + 1 → i ≠ 6130 → sI S2 i = sI S i) ∧ (∀ a, 67 ≤ a → a < 108 → a ≠ 79 → a ≠ 80 → sA S2 a = sA S a) ∧ dNm S2 m = dNm S m ∧ dAt S2 m = dAt S m ∧ dPa S2 m = dPa S m ∧ dLo S2 m = dLo S m := by
  have hQ := zE_Q h
  have h86 := zE_86 hX h
  obtain ⟨own, N, Nw, Nt, Nd, Nb, hs, hw, ht, hd, hb, hO, hcd, hF, ho, hmu, hlen, hN, hcH⟩ := h
  obtain ⟨S1, own1, N1, hB, hb1, hlt, hk1, hFg, hog, hmg, hlg⟩ := bk_grow (d := d) hb hb3
  have m1 := hs.1
  have nLV : ∀ j, j ≤ 10 → 100 * m + j ∉ [6128, 6129] := fun j hj e => by
    simp only [List.mem_cons, List.not_mem_nil, or_false] at e
    omega
  obtain ⟨hs1, hw1, ht1, kr1⟩ := RC_F hs hw ht hFg (by decide) ⟨by decide, by decide, by decide⟩ (fun _ _ e => by cases e) (fun j hj => nLV j (by omega)) hog
  obtain ⟨hd1, e1, e2, e3, e4⟩ := RCd_F hd hFg (fun _ _ _ e => by cases e) (fun e => by cases e) (fun j _ hj => nLV j hj) hog
  have hO1 := OW_F hO hFg (fun p t0 f0 _ _ f1 f2 e => by
    simp only [List.mem_cons, List.not_mem_nil, or_false] at e
    omega) hog
  have hcd1 : sV S1 6114 = .ref m := (hFg.2.2.2.1 _ (by decide)).trans hcd
  have hml : m < 108 + (sS S1).length := by
    obtain ⟨q, _⟩ := List.getElem?_eq_some_iff.mp hs1.2.1
    omega
  obtain ⟨-, -, -, -, -, -, g0, s5, s6, -⟩ := id hs1
  obtain ⟨-, -, -, -, -, -, gw, w5, w6, -⟩ := id hw1
  obtain ⟨-, -, -, -, -, -, gf, gs, t5, t6, t7, t8, -⟩ := id ht1
  have eM : rEm m S1 = 2 * N + 2 * Nw + 4 * Nt := by
    unfold rEm
    rw [if_pos hml, lnA_eq s5 s6, lnA_eq w5 w6, lnA_eq t5 t7]
  have eL : rEl m S1 = N + Nw + Nt := by
    unfold rEl
    rw [if_pos hml, lnA_eq s5 s6, lnA_eq w5 w6, lnA_eq t5 t7]
  have eH : rEh m S1 = N := by
    unfold rEh
    rw [if_pos hml, lnA_eq s5 s6]
  have hE : rE own1 m u S1 c w t S1 := ⟨own1, N, Nw, Nt, hs1, hw1, ht1, hO1, hcd1, ⟨rfl, rfl, fun _ _ => rfl, fun _ _ => rfl, ⟨[], (List.append_nil _).symm⟩, fun _ _ _ => rfl, fun _ _ _ => rfl⟩, fun _ _ => rfl, by omega, by omega, Or.inl (by omega)⟩
  obtain ⟨S3, hA, r1, r2, r3, r4⟩ := rE_hole (d := d + 3) hE (by omega) (fun p t0 hp hq => by rw [hFg.2.1] at hq; exact h86 p t0 hp hq) (nI 11)
  obtain ⟨own3, N3, Nw3, Nt3, hs3, hw3, ht3, hO3, hc3, hF3, ho3, hmu3, hlen3, hN3⟩ := r1
  have rI0 : ∀ i, i < 10800 → i ≠ 6115 → i ≠ 6116 → i ≠ 6131 → i ≠ 6132 → i ∉ rIl m := fun i h0 h1 h2 h3 h4 e => by
    unfold rIl at e
    simp only [List.mem_cons, List.not_mem_nil, or_false] at e
    omega
  have rI11 : 100 * m + 11 ∉ rIl m := fun e => by
    unfold rIl at e
    simp only [List.mem_cons, List.not_mem_nil, or_false] at e
    omega
  have rV0 : ∀ i, i < 10800 → i ∉ rVl m := fun i h1 e => by
    unfold rVl at e
    simp only [List.mem_cons, List.not_mem_nil, or_false] at e
    omega
  have rV7 : ∀ j, 7 ≤ j → j ≤ 10 → 100 * m + j ∉ rVl m := fun j h1 h2 e => by
    unfold rVl at e
    simp only [List.mem_cons, List.not_mem_nil, or_false] at e
    omega
  obtain ⟨hd3, e5, e6, e7, e8⟩ := RCd_F hd1 hF3 (fun x x1 x2 e => by rw [List.mem_singleton.mp e] at x1; omega) rI11 rV7 ho3
  obtain ⟨hb3', e9, e10⟩ := RBk_F hb1 hF3 ⟨by decide, by decide⟩ (rI0 _ (by decide) (by decide) (by decide) (by decide) (by decide)) ⟨rV0 _ (by decide), rV0 _ (by decide)⟩ ho3
  obtain ⟨y1, y2, y3, y4, gb, gl, ⟨ab, bb, cb⟩, ⟨al, bl, cl⟩⟩ := id hb1
  have ab3 : sV S3 6128 = .ref gb := (hF3.2.2.2.1 _ (rV0 _ (by decide))).trans ab
  have al3 : sV S3 6129 = .ref gl := (hF3.2.2.2.1 _ (rV0 _ (by decide))).trans al
  have bb3 := isK_F hF3 bb
  have bl3 := isK_F hF3 bl
  have cb3 : (own3 gb).1 = 34 := own_F hF3 ho3 bb cb
  have cl3 : (own3 gl).1 = 35 := own_F hF3 ho3 bl cl
  have y13 : sI S3 6130 = nI b := (r4 _ (by omega)).trans y1
  have hL3 : sI S3 6126 = nI (L + 1) := (r4 _ (by omega)).trans ((hFg.2.2.1 _ (by decide)).trans hL)
  have ne : gl ≠ gb := fun e => by rw [e, cb] at cl; cases cl
  obtain ⟨S4, hS4⟩ : ∃ S4, S4 = wI 6130 (nI (b + 1)) (wA gl b (nI (L + 1 - 1)) (wA gb b (nI (c + 1)) S3)) := ⟨_, rfl⟩
  have sA4 : ∀ a, a ≠ gl → a ≠ gb → sA S4 a = sA S3 a := fun a a1 a2 => by
    rw [hS4]
    show sA (wA gl b (nI (L + 1 - 1)) (wA gb b (nI (c + 1)) S3)) a = _
    rw [rAn _ _ _ a1, rAn _ _ _ a2]
  have hF4 : FrO own3 [34, 35] [] [6130] [] S3 S4 := by
    refine ⟨by rw [hS4]; rfl, by rw [hS4]; rfl, fun i hi => ?_, fun i _ => by rw [hS4]; rfl, ⟨[], by rw [hS4]; exact (List.append_nil _).symm⟩, fun a _ ha => sA4 a (fun e => ha (by rw [e, cl3]; decide)) (fun e => ha (by rw [e, cb3]; decide)), fun a _ _ => by rw [hS4]; rfl⟩
    have hi2 : i ≠ 6130 := fun e => hi (by rw [e]; decide)
    rw [hS4]
    exact rIn _ _ hi2
  have hbA : bkA S4 b = nI (c + 1) ∧ bkL S4 b = nI (L + 1 - 1) ∧ ∀ i, i < b → bkA S4 i = bkA S3 i ∧ bkL S4 i = bkL S3 i := by
    unfold bkA bkL
    rw [vR_eq ab3, vR_eq al3, vR_eq (show sV S4 6128 = .ref gb by rw [hS4]; exact ab3), vR_eq (show sV S4 6129 = .ref gl by rw [hS4]; exact al3), hS4]
    refine ⟨?_, ?_, fun i hi => ⟨?_, ?_⟩⟩
    · show sA (wA gl b (nI (L + 1 - 1)) (wA gb b (nI (c + 1)) S3)) gb b = _
      rw [rAn _ _ _ (Ne.symm ne)]
      show (if gb = gb then upd (sA S3 gb) b (nI (c + 1)) else sA S3 gb) b = _
      rw [if_pos rfl, upd_at, if_pos rfl]
    · show (if gl = gl then upd (sA (wA gb b (nI (c + 1)) S3) gl) b (nI (L + 1 - 1)) else _) b = _
      rw [if_pos rfl, upd_at, if_pos rfl]
    · show sA (wA gl b (nI (L + 1 - 1)) (wA gb b (nI (c + 1)) S3)) gb i = _
      rw [rAn _ _ _ (Ne.symm ne)]
      show (if gb = gb then upd (sA S3 gb) b (nI (c + 1)) else sA S3 gb) i = _
      rw [if_pos rfl, upd_at, if_neg (by omega)]
    · show (if gl = gl then upd (sA (wA gb b (nI (c + 1)) S3) gl) b (nI (L + 1 - 1)) else _) i = _
      rw [if_pos rfl, upd_at, if_neg (by omega), rAn _ _ _ ne]
  obtain ⟨hs4, hw4, ht4, kr4⟩ := RC_F (own' := own3) hs3 hw3 ht3 hF4 (by decide) ⟨by decide, by decide, by decide⟩ (fun j hj e => by
    rw [List.mem_singleton] at e
    omega) (fun _ _ e => by cases e) (fun _ _ => rfl)
  obtain ⟨hd4, e11, e12, e13, e14⟩ := RCd_F (own' := own3) hd3 hF4 (fun x x1 x2 e => by
    simp only [List.mem_cons, List.not_mem_nil, or_false] at e
    omega) (fun e => by
    rw [List.mem_singleton] at e
    omega) (fun _ _ _ e => by cases e) (fun _ _ => rfl)
  have hO4 := OW_F (own' := own3) hO3 hF4 (fun _ _ _ _ _ _ _ e => by cases e) (fun _ _ => rfl)
  have hFz1 : FrZ own0 m S0 S1 := FrZ_go hF (FrO_Z hFg (fun _ e => by cases e) (fun _ e => by cases e) (fun _ e => by cases e) (fun x e => by
    unfold zVl
    simp only [List.mem_cons, List.not_mem_nil, or_false] at e ⊢
    omega)) ho
  obtain ⟨l1, hl1⟩ := id hFg.2.2.2.2.1
  have hll1 : (sS S1).length = (sS S).length + l1.length := by rw [hl1, List.length_append]
  obtain ⟨l0, hl0⟩ := id hF.2.2.2.2.1
  have hll0 : (sS S).length = (sS S0).length + l0.length := by rw [hl0, List.length_append]
  obtain ⟨l3, hl3⟩ := id hF3.2.2.2.2.1
  have hll3 : (sS S3).length = (sS S1).length + l3.length := by rw [hl3, List.length_append]
  have ho1 : ∀ a, a < 108 + (sS S0).length → own1 a = own0 a := fun a ha => (hog a (by omega)).trans (ho a ha)
  have ho3' : ∀ a, a < 108 + (sS S0).length → own3 a = own0 a := fun a ha => (ho3 a (by omega)).trans (ho1 a ha)
  have hFz3 : FrZ own0 m S0 S3 := FrZ_go hFz1 (FrO_Z hF3 (fun x e => by rw [List.mem_singleton.mp e]; decide) (fun x e => e) (fun x e => by
    unfold rIl at e
    unfold zIl
    simp only [List.mem_cons, List.not_mem_nil, or_false] at e ⊢
    omega) (fun x e => by
    unfold rVl at e
    unfold zVl
    simp only [List.mem_cons, List.not_mem_nil, or_false] at e ⊢
    omega)) ho1
  have hFz4 : FrZ own0 m S0 S4 := FrZ_go hFz3 (FrO_Z hF4 (fun x e => by
    unfold zOl
    simp only [List.mem_cons, List.not_mem_nil, or_false] at e ⊢
    omega) (fun _ e => by cases e) (fun x e => by
    unfold zIl
    rw [List.mem_singleton.mp e]
    simp) (fun _ e => by cases e)) ho3'
  have hm4 : mu S4 = mu S3 := by rw [hS4]; rfl
  have hl4 : (sS S4).length = (sS S3).length := by rw [hS4]; rfl
  refine ⟨S4, fun lv q0 => hB lv _ _ q0 (fun lv1 q1 => ?_), ⟨own3, N3, Nw3, Nt3, Nd, N1, hs4, hw4, ht4, hd4, ⟨by rw [hS4]; exact rIe _ _ _, by omega, y3, y4, gb, gl, ⟨by rw [hS4]; exact ab3, isK_F hF4 bb3, cb3⟩, ⟨by rw [hS4]; exact al3, isK_F hF4 bl3, cl3⟩⟩, hO4, by rw [hS4]; exact hc3, hFz4, ho3', by omega, by omega, by omega, hc⟩, ⟨kR_trans (kR_trans kr1 r2 (Nat.le_refl _) (Nat.le_refl _) (Nat.le_refl _)) kr4 (by omega) (Nat.le_refl _) (Nat.le_refl _), fun i _ => ⟨?_, ?_, ?_, ?_⟩, fun i hi => ⟨?_, ?_⟩⟩, (kr4.1 c (by omega)).trans r3, hbA.1, hbA.2.1, fun i i1 i2 => ?_, fun a a1 a2 a3 a4 => ?_, e11.trans (e5.trans e1), e12.trans (e6.trans e2), e13.trans (e7.trans e3), e14.trans (e8.trans e4)⟩
  · have q := zLw_1 (d := d) (a := c + 1) (L := L + 1) q1 ab bb (by omega) y1 hb3 (by omega) hA hlt bb3 al3 bl3 (by omega) (show sI (wA gb b (nI (c + 1)) S3) 6130 = nI b from y13) hb3 (show sI (wA gb b (nI (c + 1)) S3) 6126 = nI (L + 1) from hL3) hLM (by omega) hlt
    rw [hS4]
    exact q
  · rw [e11, e5, e1]
  · rw [e12, e6, e2]
  · rw [e13, e7, e3]
  · rw [e14, e8, e4]
  · rw [(hbA.2.2 i hi).1, e9]
    exact (hk1 i hi).1
  · rw [(hbA.2.2 i hi).2, e10]
    exact (hk1 i hi).2
  · exact (hF4.2.2.1 i (fun e => i2 (List.mem_singleton.mp e))).trans ((r4 i i1).trans (hFg.2.2.1 i (fun e => by cases e)))
  · have z3 : (own3 a).1 = 0 := hO3.2.1 a a1 a2 a3 a4
    have z1 : (own1 a).1 = 0 := hO1.2.1 a a1 a2 a3 a4
    exact (sA4 a (fun e => by rw [e, cl3] at z3; cases z3) (fun e => by rw [e, cb3] at z3; cases z3)).trans ((hF3.2.2.2.2.2.1 a (by omega) (by rw [z1]; decide)).trans (hFg.2.2.2.2.2.1 a (by omega) (fun e => by cases e)))
/-- handlers are left -/
theorem untr_L (hX : zX β n V own0 m k1 S0) (hH : H ≤ 40000) {lw : Nat} (hlw : lw < 2 ^ 20) : ∀ (q li cc : Nat) (S1 : cS), zE own0 m u S0 H B0 cc w t f b S1 → sI S1 6127 = nI (li + q) → li + q < 14 → cc + q ≤ H → ∃ S2, (∀ (lv : sm_L) (v : Option Value) (Sf : cS), sm_get lv 0 = some (.ref 61) → sm_get lv 1 = some (.int (nI lw)) → sm_get lv 2 = some (.int (nI li)) → (∀ lv1 : sm_L, sm_get lv1 0 = some (.ref 61) → sm_get lv1 1 = some (.int (nI lw)) → sm_get lv1 2 = some (.int (nI (li + q))) → Bod (d + 8) 304 263 lv1 [] S2 v Sf) → Bod (d + 8) 304 263 lv [] S1 v Sf) ∧ zE own0 m u S0 H B0 (cc + q) w t f b S2 ∧ (∀ i, i < q → cw S2 m (cc + i) = nI 35) ∧ kR m cc w t S1 S2 ∧ kX m S1 S2 ∧ sI S2 6115 = sI S1 6115 ∧ sI S2 6116 = sI S1 6116 := by
  intro q
  induction q with
  | zero => intro li cc S1 h _ _ _; exact ⟨S1, fun lv v Sf q0 q1 q2 hB => hB lv q0 q1 q2, h, fun i hi => absurd hi (by omega), kR_refl m cc w t S1, kX_refl m S1, rfl, rfl⟩
  | succ q ih =>
    intro li cc S1 h htr hM hc
    have hm := hX.2.2.2.2.1
    obtain ⟨own, hE, hback⟩ := zE_rE h
    obtain ⟨S3, hA, r1, r2, r3, r4⟩ := rE_1 (d := d + 4) hE (by omega) (zE_86 hX h) (nI 35)
    obtain ⟨z1, z2⟩ := hback S3 _ _ _ r1 (by omega)
    obtain ⟨S2, hB2, g1, g2, g3, g4, g5, g6⟩ := ih (li + 1) (cc + 1) S3 z1 (by rw [r4 _ (by omega), htr]; exact congrArg nI (by omega)) (by omega) (by omega)
    refine ⟨S2, fun lv v Sf q0 q1 q2 hB => zLv_4 (d := d) q0 q1 q2 hlw (by omega) htr (by omega) (by omega) hA (fun lv1 p0 p1 p2 => hB2 lv1 v Sf p0 p1 p2 (fun lv2 s0 s1 s2 => hB lv2 s0 s1 (by rw [s2]; exact congrArg (fun x => some (Value.int (nI x))) (by omega)))), by rw [show cc + (q + 1) = cc + 1 + q by omega]; exact g1, fun i hi => ?_, kR_trans r2 g3 (by omega) (Nat.le_refl _) (Nat.le_refl _), kX_trans z2 g4, g5.trans (r4 _ (by omega)), g6.trans (r4 _ (by omega))⟩
    rcases Nat.eq_zero_or_pos i with e | e
    · rw [e]
      exact (g3.1 cc (by omega)).trans r3
    · have := g2 (i - 1) (by omega)
      rwa [show cc + 1 + (i - 1) = cc + i by omega] at this
end
