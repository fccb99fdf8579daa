/-! STATEMENTS OF THE REFERENCE: def: a function is told, what its places say -/
section
variable {β : Nat → Nat} {n : Nat} {E : Nat → Nat → Bool} {V : Nat → Int32} {own0 : Nat → Nat × Nat} {m u k1 : Nat} {S0 Sb S S1 S2 : cS} {H B0 W d c w t f b a F s : Nat} {l : List Int32}
theorem zE_def {x : Int32} (hX : zX β n V own0 m k1 S0) (h : zE own0 m u S0 H B0 c w t f b S) (hf : f < 2 ^ 17) : ∃ S1, Ans (d + 9) 337 [.ref m, .int x] S (some (.int (nI f))) S1 ∧ zE own0 m u S0 H B0 c w t (f + 1) b S1 ∧ kW m c w t f b S S1 ∧ dNm S1 m f = x ∧ (∀ i, i ≠ 100 * m + 11 → sI S1 i = sI S i) ∧ (∀ a, 67 ≤ a → a < 108 → a ≠ 79 → a ≠ 80 → sA S1 a = sA S a) ∧ (∀ c' w' t', kR m c' w' t' S S1) ∧ bkA S1 = bkA S ∧ bkL S1 = bkL S := by
  have h86 := zE_86 hX h
  obtain ⟨own, N, Nw, Nt, Nd, Nb, hs, hw, ht, hd, hb, hO, hcd, hF, ho, hmu, hlen, hN, hcH⟩ := h
  have m1 := hs.1
  obtain ⟨S1, own1, N1, hA, hd1, hk1, hnm, hF1, ho1, hmu1, hlen1⟩ := cdef_T (d := d) (x := x) hd (by omega)
  have nLV : ∀ j, j ≤ 4 → 100 * m + j ∉ [100 * m + 7, 100 * m + 8, 100 * m + 9, 100 * m + 10] := fun j hj e => by
    simp only [List.mem_cons, List.not_mem_nil, or_false] at e
    omega
  have nLV2 : ∀ i, i < 10800 → i ∉ [100 * m + 7, 100 * m + 8, 100 * m + 9, 100 * m + 10] := fun i hi e => by
    simp only [List.mem_cons, List.not_mem_nil, or_false] at e
    omega
  have nLI : ∀ j, j ≤ 6 → 100 * m + j ∉ [100 * m + 11] := fun j hj e => by
    rw [List.mem_singleton] at e
    omega
  obtain ⟨hs1, hw1, ht1, kr1⟩ := RC_F hs hw ht hF1 (by decide) ⟨by decide, by decide, by decide⟩ nLI nLV ho1
  obtain ⟨hb1, e1, e2⟩ := RBk_F hb hF1 ⟨by decide, by decide⟩ (fun e => by
    rw [List.mem_singleton] at e
    omega) ⟨nLV2 _ (by decide), nLV2 _ (by decide)⟩ ho1
  have hO1 := OW_F hO hF1 (fun p t0 f0 p1 p2 f1 f2 e => by
    have := h86 p t0 p1 p2
    simp only [List.mem_cons, List.not_mem_nil, or_false] at e
    omega) ho1
  obtain ⟨l1, hl1⟩ := id hF1.2.2.2.2.1
  have hll1 : (sS S1).length = (sS S).length + l1.length := by rw [hl1, List.length_append]
  obtain ⟨l0, hl0⟩ := id hF.2.2.2.2.1
  have hll0 : (sS S).length = (sS S0).length + l0.length := by rw [hl0, List.length_append]
  have hkr : ∀ c' w' t', kR m c' w' t' S S1 := fun c' w' t' => by
    obtain ⟨-, -, -, -, -, -, g0, s5, s6, s7⟩ := id hs
    obtain ⟨-, -, -, -, -, -, gw, w5, w6, w7⟩ := id hw
    obtain ⟨-, -, -, -, -, -, gf, gs, t5, t6, t7, t8, t9, t10⟩ := id ht
    have eV : ∀ j, j ≤ 4 → sV S1 (100 * m + j) = sV S (100 * m + j) := fun j hj => hF1.2.2.2.1 _ (nLV j hj)
    refine ⟨fun i _ => ?_, fun i _ => ?_, fun i _ => ⟨?_, ?_⟩⟩
    · rw [cw_eq ((eV 0 (by decide)).trans s5), cw_eq s5, hF1.2.2.2.2.2.1 g0 (isK_lt s6) (by rw [s7]; decide)]
    · unfold cWh
      rw [vR_eq ((eV 2 (by decide)).trans w5), vR_eq w5, hF1.2.2.2.2.2.2 gw (isK_lt w6) (by rw [w7]; decide)]
    · unfold cFi
      rw [vR_eq ((eV 3 (by decide)).trans t5), vR_eq t5, hF1.2.2.2.2.2.2 gf (isK_lt t7) (by rw [t9]; decide)]
    · unfold cSe
      rw [vR_eq ((eV 4 (by decide)).trans t6), vR_eq t6, hF1.2.2.2.2.2.2 gs (isK_lt t8) (by rw [t10]; decide)]
  refine ⟨S1, hA, ⟨own1, N, Nw, Nt, N1, Nb, hs1, hw1, ht1, hd1, hb1, hO1, (hF1.2.2.2.1 _ (nLV2 _ (by decide))).trans hcd, FrZ_go hF (FrO_Z hF1 (fun y e => by rw [List.mem_singleton.mp e]; decide) (fun y e => by cases e) (fun y e => by
    rw [List.mem_singleton.mp e]
    unfold zIl
    simp) (fun y e => by
    unfold zVl
    simp only [List.mem_cons, List.not_mem_nil, or_false] at e ⊢
    omega)) ho, fun a ha => (ho1 a (by omega)).trans (ho a ha), by omega, by omega, hN, hcH⟩, ⟨kr1, hk1, fun i _ => ⟨by rw [e1], by rw [e2]⟩⟩, hnm, fun i hi => hF1.2.2.1 i (fun e => hi (List.mem_singleton.mp e)), fun a a1 a2 a3 a4 => ?_, hkr, e1, e2⟩
  have e : (own a).1 = 0 := hO.2.1 a a1 a2 a3 a4
  exact hF1.2.2.2.2.2.1 a (by omega) (by rw [e]; decide)
/-- all that the parser has made is as it was -/
def kF (S S1 : cS) : Prop := sV S1 = sV S ∧ sL S1 = sL S ∧ ∀ x, (x < 67 ∨ 108 ≤ x ∨ x = 79 ∨ x = 80) → sA S1 x = sA S x
theorem kF_refl (S : cS) : kF S S := ⟨rfl, rfl, fun _ _ => rfl⟩
theorem kF_trans (h : kF S S1) (g : kF S1 S2) : kF S S2 := ⟨g.1.trans h.1, g.2.1.trans h.2.1, fun x hx => (g.2.2 x hx).trans (h.2.2 x hx)⟩
theorem kF_wI {i : Nat} {x : Int32} : kF S (wI i x S) := ⟨rfl, rfl, fun _ _ => rfl⟩
theorem kF_wA {a i : Nat} {x : Int32} (h : 67 ≤ a ∧ a < 108 ∧ a ≠ 79 ∧ a ≠ 80) : kF S (wA a i x S) := ⟨rfl, rfl, fun y hy => rAn _ _ _ (by omega)⟩
theorem kF_all (h : zE own0 m u S0 H B0 c w t f b S) (g : kF S S1) : (∀ c' w' t', kR m c' w' t' S S1) ∧ (dNm S1 m = dNm S m ∧ dAt S1 m = dAt S m ∧ dPa S1 m = dPa S m ∧ dLo S1 m = dLo S m) ∧ bkA S1 = bkA S ∧ bkL S1 = bkL S := by
  obtain ⟨g1, g2, g3⟩ := g
  have e0 := zE_m h
  have key : ∀ y, (∀ a, 67 ≤ a → a < 108 → a ≠ 79 → a ≠ 80 → y ≠ a) → sA S1 y = sA S y := fun y hy => g3 y (by
    rcases Nat.lt_or_ge y 67 with q | q
    · exact Or.inl q
    · rcases Nat.lt_or_ge y 108 with q2 | q2
      · rcases Decidable.em (y = 79) with q3 | q3
        · exact Or.inr (Or.inr (Or.inl q3))
        · rcases Decidable.em (y = 80) with q4 | q4
          · exact Or.inr (Or.inr (Or.inr q4))
          · exact absurd rfl (hy y q q2 q3 q4)
      · exact Or.inr (Or.inl q2))
  have hv : ∀ i, vR S1 i = vR S i := fun i => by
    unfold vR
    rw [g1]
  refine ⟨fun c' w' t' => ⟨fun i _ => ?_, fun i _ => ?_, fun i _ => ⟨?_, ?_⟩⟩, ⟨?_, ?_, ?_, ?_⟩, ?_, ?_⟩
  · obtain ⟨gg, N, y1, y2, y3, y4, y5⟩ := zE_g h
    have := key gg (fun a a1 a2 a3 a4 => by
      have q := (zE_ne h a1 a2 a3 a4).1
      rw [vR_eq y1] at q
      exact q)
    rw [cw_eq y1, cw_eq (show sV S1 (100 * m + 0) = .ref gg by rw [g1]; exact y1), this]
  · unfold cWh
    rw [hv, g2]
  · unfold cFi
    rw [hv, g2]
  · unfold cSe
    rw [hv, g2]
  · unfold dNm; rw [hv]; exact key _ (fun a a1 a2 a3 a4 => (zE_ne h a1 a2 a3 a4).2.1)
  · unfold dAt; rw [hv]; exact key _ (fun a a1 a2 a3 a4 => (zE_ne h a1 a2 a3 a4).2.2.1)
  · unfold dPa; rw [hv]; exact key _ (fun a a1 a2 a3 a4 => (zE_ne h a1 a2 a3 a4).2.2.2.1)
  · unfold dLo; rw [hv]; exact key _ (fun a a1 a2 a3 a4 => (zE_ne h a1 a2 a3 a4).2.2.2.2.1)
  · unfold bkA; rw [hv]; exact key _ (fun a a1 a2 a3 a4 => (zE_ne h a1 a2 a3 a4).2.2.2.2.2.1)
  · unfold bkL; rw [hv]; exact key _ (fun a a1 a2 a3 a4 => (zE_ne h a1 a2 a3 a4).2.2.2.2.2.2)
theorem kF_kW (h : zE own0 m u S0 H B0 c w t f b S) (g : kF S S1) {c' w' t' f' b' : Nat} : kW m c' w' t' f' b' S S1 := by
  obtain ⟨g1, ⟨g2, g3, g4, g5⟩, g6, g7⟩ := kF_all h g
  exact ⟨g1 _ _ _, fun i _ => ⟨congrFun g2 i, congrFun g3 i, congrFun g4 i, congrFun g5 i⟩, fun i _ => ⟨congrFun g6 i, congrFun g7 i⟩⟩
theorem kF_Ps {q : Nat} (h : zPs own0 m u S0 H B0 c w t f b F a l q Sb S) : kF Sb S := ⟨h.2.2.2.2.2.2.2.2.2.1, h.2.2.2.2.2.2.2.2.2.2, fun x hx => h.2.2.2.2.2.2.2.1 x (by omega) (by omega)⟩
theorem kF_Sn {bo : Nat} {o : List Int32} (h : zSn own0 m u S0 H B0 c w t f b a bo l o Sb S) : kF Sb S := ⟨h.2.2.2.2.2.2.2.2.2.1, h.2.2.2.2.2.2.2.2.2.2, fun x hx => h.2.2.2.2.2.2.2.1 x (by omega) (by omega)⟩
/-- a function's places -/
theorem zE_dg (h : zE own0 m u S0 H B0 c w t f b S) : ∃ g7 g8 g9 g10 N, sV S (100 * m + 7) = .ref g7 ∧ sV S (100 * m + 8) = .ref g8 ∧ sV S (100 * m + 9) = .ref g9 ∧ sV S (100 * m + 10) = .ref g10 ∧ isK S g8 0 N ∧ isK S g9 0 N ∧ isK S g10 0 N ∧ f ≤ N ∧ g7 ≠ g8 ∧ g7 ≠ g9 ∧ g7 ≠ g10 ∧ g8 ≠ g9 ∧ g8 ≠ g10 ∧ g9 ≠ g10 ∧ N ≤ 4 + 2 * f := by
  obtain ⟨own, N, Nw, Nt, Nd, Nb, hs, hw, ht, hd, hb, hO, hc, hF, ho, hmu, hlen, hN, hcH⟩ := h
  obtain ⟨_, _, d1, d2, d3, d4, g7, g8, g9, g10, ⟨a7, b7, c7⟩, ⟨a8, b8, c8⟩, ⟨a9, b9, c9⟩, ⟨a10, b10, c10⟩⟩ := hd
  have key : ∀ x y p q, (own x).1 = p → (own y).1 = q → p ≠ q → x ≠ y := fun x y p q h1 h2 h3 h4 => h3 (by rw [← h1, ← h2, h4])
  exact ⟨g7, g8, g9, g10, Nd, a7, a8, a9, a10, b8, b9, b10, d2, key _ _ _ _ c7 c8 (by decide), key _ _ _ _ c7 c9 (by decide), key _ _ _ _ c7 c10 (by decide), key _ _ _ _ c8 c9 (by decide), key _ _ _ _ c8 c10 (by decide), key _ _ _ _ c9 c10 (by decide), d4⟩
theorem zE_wD {j i : Nat} {x : Int32} (h : zE own0 m u S0 H B0 c w t f b S) (hj : 8 ≤ j ∧ j ≤ 10) : zE own0 m u S0 H B0 c w t f b (wA (vR S (100 * m + j)) i x S) ∧ (∀ c' w' t', kR m c' w' t' S (wA (vR S (100 * m + j)) i x S)) ∧ dNm (wA (vR S (100 * m + j)) i x S) m = dNm S m ∧ (∀ q, dAt (wA (vR S (100 * m + j)) i x S) m q = if j = 8 ∧ q = i then x else dAt S m q) ∧ (∀ q, dPa (wA (vR S (100 * m + j)) i x S) m q = if j = 9 ∧ q = i then x else dPa S m q) ∧ (∀ q, dLo (wA (vR S (100 * m + j)) i x S) m q = if j = 10 ∧ q = i then x else dLo S m q) ∧ bkA (wA (vR S (100 * m + j)) i x S) = bkA S ∧ bkL (wA (vR S (100 * m + j)) i x S) = bkL S ∧ ∀ a, 67 ≤ a → a < 108 → a ≠ 79 → a ≠ 80 → sA (wA (vR S (100 * m + j)) i x S) a = sA S a := by
  have hne := fun a a1 a2 a3 a4 => zE_ne h (a := a) a1 a2 a3 a4
  obtain ⟨own, N, Nw, Nt, Nd, Nb, hs, hw, ht, hd, hb, hO, hc, hF, ho, hmu, hlen, hN, hcH⟩ := h
  obtain ⟨m1, m2, s1, s2, s3, s4, g, s5, s6, s7⟩ := hs
  obtain ⟨_, _, w1, w2, w3, w4, gw, w5, w6, w7⟩ := hw
  obtain ⟨_, _, t1, t2, t3, t4, gf, gs, t5, t6, t7, t8, t9, t10⟩ := ht
  obtain ⟨_, _, d1, d2, d3, d4, g7, g8, g9, g10, ⟨a7, b7, c7⟩, ⟨a8, b8, c8⟩, ⟨a9, b9, c9⟩, ⟨a10, b10, c10⟩⟩ := hd
  obtain ⟨k1, k2, k3, k4, gb, gl, ⟨ab, bb, cb⟩, ⟨al, bl, cl⟩⟩ := hb
  obtain ⟨aj, haj⟩ : ∃ aj, aj = vR S (100 * m + j) := ⟨_, rfl⟩
  rw [← haj]
  have hown : (own aj).1 = 23 + j ∧ (j = 8 ∧ aj = g8 ∨ j = 9 ∧ aj = g9 ∨ j = 10 ∧ aj = g10) := by
    rw [haj]
    rcases (show j = 8 ∨ j = 9 ∨ j = 10 by omega) with rfl | rfl | rfl
    · rw [vR_eq a8]; exact ⟨c8, Or.inl ⟨rfl, rfl⟩⟩
    · rw [vR_eq a9]; exact ⟨c9, Or.inr (Or.inl ⟨rfl, rfl⟩)⟩
    · rw [vR_eq a10]; exact ⟨c10, Or.inr (Or.inr ⟨rfl, rfl⟩)⟩
  obtain ⟨ho1, ho2⟩ := hown
  have key : ∀ y p, (own y).1 = p → p ≠ 23 + j → y ≠ aj := fun y p h1 h2 h3 => h2 (by rw [← h1, h3]; exact ho1)
  have eA : ∀ y, y ≠ aj → sA (wA aj i x S) y = sA S y := fun y hy => rAn _ _ _ hy
  have eJ : ∀ q, sA (wA aj i x S) aj q = if q = i then x else sA S aj q := fun q => by
    show (if aj = aj then upd (sA S aj) i x else sA S aj) q = _
    rw [if_pos rfl, upd_at]
  refine ⟨⟨own, N, Nw, Nt, Nd, Nb, ⟨m1, m2, s1, s2, s3, s4, g, s5, isK_S rfl s6, s7⟩, ⟨m1, m2, w1, w2, w3, w4, gw, w5, isK_S rfl w6, w7⟩, ⟨m1, m2, t1, t2, t3, t4, gf, gs, t5, t6, isK_S rfl t7, isK_S rfl t8, t9, t10⟩, ⟨m1, m2, d1, d2, d3, d4, g7, g8, g9, g10, ⟨a7, isK_S rfl b7, c7⟩, ⟨a8, isK_S rfl b8, c8⟩, ⟨a9, isK_S rfl b9, c9⟩, ⟨a10, isK_S rfl b10, c10⟩⟩, ⟨k1, k2, k3, k4, gb, gl, ⟨ab, isK_S rfl bb, cb⟩, ⟨al, isK_S rfl bl, cl⟩⟩, hO, hc, FrZ_go hF ⟨rfl, rfl, fun _ _ => rfl, fun _ _ => rfl, ⟨[], (List.append_nil _).symm⟩, fun a' _ hn _ => eA a' (fun e => hn (by
    rw [e, ho1]
    unfold zOl
    rcases (show j = 8 ∨ j = 9 ∨ j = 10 by omega) with rfl | rfl | rfl <;> decide)), fun _ _ _ => rfl⟩ ho, ho, hmu, hlen, hN, hcH⟩, fun c' w' t' => ⟨fun q _ => ?_, fun q _ => rfl, fun q _ => ⟨rfl, rfl⟩⟩, ?_, fun q => ?_, fun q => ?_, fun q => ?_, ?_, ?_, fun a a1 a2 a3 a4 => eA a (fun e => ?_)⟩
  · rw [cw_eq (show sV (wA aj i x S) (100 * m + 0) = .ref g from s5), cw_eq s5, eA g (key g _ s7 (by omega))]
  · unfold dNm
    rw [vR_eq (show sV (wA aj i x S) (100 * m + 7) = .ref g7 from a7), vR_eq a7, eA g7 (key g7 _ c7 (by omega))]
  · unfold dAt
    rw [vR_eq (show sV (wA aj i x S) (100 * m + 8) = .ref g8 from a8), vR_eq a8]
    by_cases e : j = 8
    · have : g8 = aj := by
        rcases ho2 with ⟨_, q⟩ | ⟨q, _⟩ | ⟨q, _⟩
        · exact q.symm
        · omega
        · omega
      rw [this, eJ]
      by_cases e2 : q = i
      · rw [if_pos e2, if_pos ⟨e, e2⟩]
      · rw [if_neg e2, if_neg (fun z => e2 z.2)]
    · rw [eA g8 (key g8 _ c8 (by omega)), if_neg (fun z => e z.1)]
  · unfold dPa
    rw [vR_eq (show sV (wA aj i x S) (100 * m + 9) = .ref g9 from a9), vR_eq a9]
    by_cases e : j = 9
    · have : g9 = aj := by
        rcases ho2 with ⟨q, _⟩ | ⟨_, q⟩ | ⟨q, _⟩
        · omega
        · exact q.symm
        · omega
      rw [this, eJ]
      by_cases e2 : q = i
      · rw [if_pos e2, if_pos ⟨e, e2⟩]
      · rw [if_neg e2, if_neg (fun z => e2 z.2)]
    · rw [eA g9 (key g9 _ c9 (by omega)), if_neg (fun z => e z.1)]
  · unfold dLo
    rw [vR_eq (show sV (wA aj i x S) (100 * m + 10) = .ref g10 from a10), vR_eq a10]
    by_cases e : j = 10
    · have : g10 = aj := by
        rcases ho2 with ⟨q, _⟩ | ⟨q, _⟩ | ⟨_, q⟩
        · omega
        · omega
        · exact q.symm
      rw [this, eJ]
      by_cases e2 : q = i
      · rw [if_pos e2, if_pos ⟨e, e2⟩]
      · rw [if_neg e2, if_neg (fun z => e2 z.2)]
    · rw [eA g10 (key g10 _ c10 (by omega)), if_neg (fun z => e z.1)]
  · unfold bkA
    rw [vR_eq (show sV (wA aj i x S) 6128 = .ref gb from ab), vR_eq ab, eA gb (key gb _ cb (by omega))]
  · unfold bkL
    rw [vR_eq (show sV (wA aj i x S) 6129 = .ref gl from al), vR_eq al, eA gl (key gl _ cl (by omega))]
  · have h0 : (own a).1 = 0 := hO.2.1 a a1 a2 a3 a4
    rw [e, ho1] at h0
    omega
end
