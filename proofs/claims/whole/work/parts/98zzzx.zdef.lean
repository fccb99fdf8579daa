/-! STATEMENTS OF THE REFERENCE: the state of its parser between expressions -/
def zIl (m : Nat) : List Nat := [6115, 6116, 6117, 6122, 6123, 6126, 6127, 6130, 6131, 6132, 6134, 6137, 6139, 6140, 100 * m + 1, 100 * m + 5, 100 * m + 6, 100 * m + 11]
def zVl (m : Nat) : List Nat := [6128, 6129, 100 * m + 0, 100 * m + 2, 100 * m + 3, 100 * m + 4, 100 * m + 7, 100 * m + 8, 100 * m + 9, 100 * m + 10]
def zAl : List Nat := [73, 74, 75, 76, 77, 78, 81, 82, 83, 84, 85]
def zOl : List Nat := [26, 30, 31, 32, 33, 34, 35]
/-- all but the parser's own is as in S0 -/
def FrZ (own0 : Nat → Nat × Nat) (m : Nat) (S0 S : cS) : Prop := sJ S = sJ S0 ∧ sQ S = sQ S0 ∧ (∀ i, i ∉ zIl m → sI S i = sI S0 i) ∧ (∀ i, i ∉ zVl m → sV S i = sV S0 i) ∧ (∃ l, sS S = sS S0 ++ l) ∧ (∀ a, a < 108 + (sS S0).length → (own0 a).1 ∉ zOl → a ∉ zAl → sA S a = sA S0 a) ∧ (∀ a, a < 108 + (sS S0).length → (own0 a).1 ∉ [27, 28, 29] → sL S a = sL S0 a)
theorem FrZ_refl (own0 : Nat → Nat × Nat) (m : Nat) (S : cS) : FrZ own0 m S S := ⟨rfl, rfl, fun _ _ => rfl, fun _ _ => rfl, ⟨[], (List.append_nil _).symm⟩, fun _ _ _ _ => rfl, fun _ _ _ => rfl⟩
/-- one more change: AZ fixed arrays, A made ones (by their number) -/
theorem FrZ_go {own own0 : Nat → Nat × Nat} {m : Nat} {S0 S S1 : cS} (h : FrZ own0 m S0 S) (g : FrZ own m S S1) (ho : ∀ a, a < 108 + (sS S0).length → own a = own0 a) : FrZ own0 m S0 S1 := by
  obtain ⟨h1, h2, h3, h4, ⟨l, h5⟩, h6, h7⟩ := h
  obtain ⟨g1, g2, g3, g4, ⟨l2, g5⟩, g6, g7⟩ := g
  have hl : 108 + (sS S0).length ≤ 108 + (sS S).length := by rw [h5, List.length_append]; omega
  exact ⟨g1.trans h1, g2.trans h2, fun i hi => (g3 i hi).trans (h3 i hi), fun i hi => (g4 i hi).trans (h4 i hi), ⟨l ++ l2, by rw [g5, h5, List.append_assoc]⟩, fun a ha hn hz => (g6 a (by omega) (by rw [ho a ha]; exact hn) hz).trans (h6 a ha hn hz), fun a ha hn => (g7 a (by omega) (by rw [ho a ha]; exact hn)).trans (h7 a ha hn)⟩
theorem FrO_Z {own : Nat → Nat × Nat} {A L LI LV : List Nat} {m : Nat} {S S1 : cS} (h : FrO own A L LI LV S S1) (hA : ∀ x, x ∈ A → x ∈ zOl) (hL : ∀ x, x ∈ L → x ∈ [27, 28, 29]) (hI : ∀ x, x ∈ LI → x ∈ zIl m) (hV : ∀ x, x ∈ LV → x ∈ zVl m) : FrZ own m S S1 := ⟨h.1, h.2.1, fun i hi => h.2.2.1 i (fun c => hi (hI i c)), fun i hi => h.2.2.2.1 i (fun c => hi (hV i c)), h.2.2.2.2.1, fun a ha hn _ => h.2.2.2.2.2.1 a ha (fun c => hn (hA _ c)), fun a ha hn => h.2.2.2.2.2.2 a ha (fun c => hn (hL _ c))⟩
/-- functions of code m: k of them in arrays for N -/
def RCd (own : Nat → Nat × Nat) (m u k N : Nat) (S : cS) : Prop := 108 ≤ m ∧ (sS S)[m - 108]? = some (12, u) ∧ sI S (100 * m + 11) = nI k ∧ k ≤ N ∧ 4 ≤ N ∧ N ≤ 4 + 2 * k ∧ ∃ g7 g8 g9 g10 : Nat, (sV S (100 * m + 7) = .ref g7 ∧ isK S g7 0 N ∧ (own g7).1 = 30) ∧ (sV S (100 * m + 8) = .ref g8 ∧ isK S g8 0 N ∧ (own g8).1 = 31) ∧ (sV S (100 * m + 9) = .ref g9 ∧ isK S g9 0 N ∧ (own g9).1 = 32) ∧ (sV S (100 * m + 10) = .ref g10 ∧ isK S g10 0 N ∧ (own g10).1 = 33)
/-- breaks that wait: k of them in arrays for N -/
def RBk (own : Nat → Nat × Nat) (k N : Nat) (S : cS) : Prop := sI S 6130 = nI k ∧ k ≤ N ∧ 64 ≤ N ∧ N ≤ 6000 ∧ ∃ gb gl : Nat, (sV S 6128 = .ref gb ∧ isK S gb 0 N ∧ (own gb).1 = 34) ∧ (sV S 6129 = .ref gl ∧ isK S gl 0 N ∧ (own gl).1 = 35)
def dNm (S : cS) (m : Nat) : Nat → Int32 := sA S (vR S (100 * m + 7))
def dAt (S : cS) (m : Nat) : Nat → Int32 := sA S (vR S (100 * m + 8))
def dPa (S : cS) (m : Nat) : Nat → Int32 := sA S (vR S (100 * m + 9))
def dLo (S : cS) (m : Nat) : Nat → Int32 := sA S (vR S (100 * m + 10))
def bkA (S : cS) : Nat → Int32 := sA S (vR S 6128)
def bkL (S : cS) : Nat → Int32 := sA S (vR S 6129)
/-- the parser's state: c words, w numbers, t texts, f functions, b breaks that wait -/
def zE (own0 : Nat → Nat × Nat) (m u : Nat) (S0 : cS) (H B0 c w t f b : Nat) (S : cS) : Prop := ∃ own N Nw Nt Nd Nb, RCs own m u c N S ∧ RCw own m u w Nw S ∧ RCt own m u t Nt S ∧ RCd own m u f Nd S ∧ RBk own b Nb S ∧ OW own S ∧ sV S 6114 = .ref m ∧ FrZ own0 m S0 S ∧ (∀ a, a < 108 + (sS S0).length → own a = own0 a) ∧ mu S + 208 + 4 * B0 ≤ mu S0 + 2 * N + 2 * Nw + 4 * Nt + 8 * Nd + 4 * Nb ∧ (sS S).length + 84 + B0 ≤ (sS S0).length + N + Nw + Nt + Nd + Nb ∧ N ≤ 64 + 2 * H ∧ c ≤ H
/-- what an expression keeps: all but at, fault, target, targetAt and the code's words, numbers, texts -/
def kX (m : Nat) (S S1 : cS) : Prop := (∀ i, i < 10800 → i ≠ 6115 → i ≠ 6116 → i ≠ 6131 → i ≠ 6132 → sI S1 i = sI S i) ∧ (∀ a, 67 ≤ a → a < 108 → a ≠ 79 → a ≠ 80 → sA S1 a = sA S a ∧ sL S1 a = sL S a) ∧ dNm S1 m = dNm S m ∧ dAt S1 m = dAt S m ∧ dPa S1 m = dPa S m ∧ dLo S1 m = dLo S m ∧ bkA S1 = bkA S ∧ bkL S1 = bkL S ∧ sQ S1 = sQ S
theorem kX_refl (m : Nat) (S : cS) : kX m S S := ⟨fun _ _ _ _ _ _ => rfl, fun _ _ _ _ _ => ⟨rfl, rfl⟩, rfl, rfl, rfl, rfl, rfl, rfl, rfl⟩
theorem kX_trans {m : Nat} {S S1 S2 : cS} (h : kX m S S1) (g : kX m S1 S2) : kX m S S2 := ⟨fun i h0 h1 h2 h3 h4 => (g.1 i h0 h1 h2 h3 h4).trans (h.1 i h0 h1 h2 h3 h4), fun a h1 h2 h3 h4 => ⟨(g.2.1 a h1 h2 h3 h4).1.trans (h.2.1 a h1 h2 h3 h4).1, (g.2.1 a h1 h2 h3 h4).2.trans (h.2.1 a h1 h2 h3 h4).2⟩, g.2.2.1.trans h.2.2.1, g.2.2.2.1.trans h.2.2.2.1, g.2.2.2.2.1.trans h.2.2.2.2.1, g.2.2.2.2.2.1.trans h.2.2.2.2.2.1, g.2.2.2.2.2.2.1.trans h.2.2.2.2.2.2.1, g.2.2.2.2.2.2.2.1.trans h.2.2.2.2.2.2.2.1, g.2.2.2.2.2.2.2.2.trans h.2.2.2.2.2.2.2.2⟩
section
variable {own0 : Nat → Nat × Nat} {m u H B0 c w t f b : Nat} {S0 S : cS}
/-- an expression's state on the parser's, and back -/
theorem zE_rE (h : zE own0 m u S0 H B0 c w t f b S) : ∃ own, rE own m u S c w t S ∧ ∀ S1 c1 w1 t1, rE own m u S c1 w1 t1 S1 → c1 ≤ H → zE own0 m u S0 H B0 c1 w1 t1 f b S1 ∧ kX m S S1 := by
  obtain ⟨own, N, Nw, Nt, Nd, Nb, hs, hw, ht, hd, hb, hO, hc, hF, ho, hmu, hlen, hN, hcH⟩ := h
  obtain ⟨m1, m2, s1, s2, s3, s4, g, s5, s6, s7⟩ := id hs
  obtain ⟨_, _, w1, w2, w3, w4, gw, w5, w6, w7⟩ := id hw
  obtain ⟨_, _, t1, t2, t3, t4, gf, gs, t5, t6, t7, t8, t9, t10⟩ := id ht
  have hml : m < 108 + (sS S).length := by
    obtain ⟨q, _⟩ := List.getElem?_eq_some_iff.mp m2
    omega
  have eM : rEm m S = 2 * N + 2 * Nw + 4 * Nt := by
    unfold rEm
    rw [if_pos hml, lnA_eq s5 s6, lnA_eq w5 w6, lnA_eq t5 t7]
  have eL : rEl m S = N + Nw + Nt := by
    unfold rEl
    rw [if_pos hml, lnA_eq s5 s6, lnA_eq w5 w6, lnA_eq t5 t7]
  have eH : rEh m S = N := by
    unfold rEh
    rw [if_pos hml, lnA_eq s5 s6]
  refine ⟨own, ⟨own, N, Nw, Nt, hs, hw, ht, hO, hc, ⟨rfl, rfl, fun _ _ => rfl, fun _ _ => rfl, ⟨[], (List.append_nil _).symm⟩, fun _ _ _ => rfl, fun _ _ _ => rfl⟩, fun _ _ => rfl, by omega, by omega, Or.inl (by omega)⟩, fun S1 c1 w1' t1' h1 hH => ?_⟩
  obtain ⟨own1, N1, Nw1, Nt1, hs1, hw1, ht1, hO1, hc1, hF1, ho1, hmu1, hlen1, hN1⟩ := h1
  obtain ⟨l1, hSS⟩ := id hF1.2.2.2.2.1
  obtain ⟨l0, hS0⟩ := id hF.2.2.2.2.1
  have hl0 : (sS S).length = (sS S0).length + l0.length := by rw [hS0, List.length_append]
  obtain ⟨_, _, d1, d2, d3, d4, g7, g8, g9, g10, ⟨a7, b7, c7⟩, ⟨a8, b8, c8⟩, ⟨a9, b9, c9⟩, ⟨a10, b10, c10⟩⟩ := hd
  obtain ⟨k1, k2, k3, k4, gb, gl, ⟨ab, bb, cb⟩, ⟨al, bl, cl⟩⟩ := hb
  have eI : ∀ i, i ∉ rIl m → sI S1 i = sI S i := hF1.2.2.1
  have eV : ∀ i, i ∉ rVl m → sV S1 i = sV S i := hF1.2.2.2.1
  have nV : ∀ j, j < 100 → j ≠ 0 → j ≠ 2 → j ≠ 3 → j ≠ 4 → 100 * m + j ∉ rVl m := fun j h1 h2 h3 h4 h5 e => by
    unfold rVl at e
    simp only [List.mem_cons, List.not_mem_nil, or_false] at e
    omega
  have nV2 : ∀ i, i < 10800 → i ∉ rVl m := fun i h1 e => by
    unfold rVl at e
    simp only [List.mem_cons, List.not_mem_nil, or_false] at e
    omega
  have nI11 : 100 * m + 11 ∉ rIl m := fun e => by
    unfold rIl at e
    simp only [List.mem_cons, List.not_mem_nil, or_false] at e
    omega
  have nI0 : ∀ i, i < 10800 → i ≠ 6115 → i ≠ 6116 → i ≠ 6131 → i ≠ 6132 → i ∉ rIl m := fun i h0 h1 h2 h3 h4 e => by
    unfold rIl at e
    simp only [List.mem_cons, List.not_mem_nil, or_false] at e
    omega
  have v7 := (eV _ (nV 7 (by decide) (by decide) (by decide) (by decide) (by decide))).trans a7
  have v8 := (eV _ (nV 8 (by decide) (by decide) (by decide) (by decide) (by decide))).trans a8
  have v9 := (eV _ (nV 9 (by decide) (by decide) (by decide) (by decide) (by decide))).trans a9
  have v10 := (eV _ (nV 10 (by decide) (by decide) (by decide) (by decide) (by decide))).trans a10
  have vb := (eV 6128 (nV2 _ (by decide))).trans ab
  have vl := (eV 6129 (nV2 _ (by decide))).trans al
  have eA : ∀ g0 N0 p, isK S g0 0 N0 → (own g0).1 = p → p ≠ 26 → sA S1 g0 = sA S g0 := fun g0 N0 p h1 h2 h3 => hF1.2.2.2.2.2.1 g0 (isK_lt h1) (fun e => h3 (h2.symm.trans (List.mem_singleton.mp e)))
  refine ⟨⟨own1, N1, Nw1, Nt1, Nd, Nb, hs1, hw1, ht1, ⟨m1, hs1.2.1, (eI _ nI11).trans d1, d2, d3, d4, g7, g8, g9, g10, ⟨v7, isK_K (l := l1) hSS b7, by rw [ho1 g7 (isK_lt b7)]; exact c7⟩, ⟨v8, isK_K (l := l1) hSS b8, by rw [ho1 g8 (isK_lt b8)]; exact c8⟩, ⟨v9, isK_K (l := l1) hSS b9, by rw [ho1 g9 (isK_lt b9)]; exact c9⟩, ⟨v10, isK_K (l := l1) hSS b10, by rw [ho1 g10 (isK_lt b10)]; exact c10⟩⟩, ⟨(eI 6130 (nI0 _ (by decide) (by decide) (by decide) (by decide) (by decide))).trans k1, k2, k3, k4, gb, gl, ⟨vb, isK_K (l := l1) hSS bb, by rw [ho1 gb (isK_lt bb)]; exact cb⟩, ⟨vl, isK_K (l := l1) hSS bl, by rw [ho1 gl (isK_lt bl)]; exact cl⟩⟩, hO1, hc1, FrZ_go hF (FrO_Z hF1 (fun x hx => ?_) (fun x hx => hx) (fun x hx => ?_) (fun x hx => ?_)) ho, fun a ha => (ho1 a (by omega)).trans (ho a ha), by omega, by omega, by omega, hH⟩, ?_⟩
  · rw [List.mem_singleton.mp hx]; decide
  · unfold rIl at hx
    unfold zIl
    simp only [List.mem_cons, List.not_mem_nil, or_false] at hx ⊢
    omega
  · unfold rVl at hx
    unfold zVl
    simp only [List.mem_cons, List.not_mem_nil, or_false] at hx ⊢
    omega
  · refine ⟨fun i h0 h1 h2 h3 h4 => eI i (nI0 i h0 h1 h2 h3 h4), fun a h1 h2 h3 h4 => ?_, ?_, ?_, ?_, ?_, ?_, ?_, hF1.2.1⟩
    · have e : (own a).1 = 0 := hO.2.1 a h1 h2 h3 h4
      exact ⟨hF1.2.2.2.2.2.1 a (by omega) (by rw [e]; decide), hF1.2.2.2.2.2.2 a (by omega) (by rw [e]; decide)⟩
    · unfold dNm; rw [vR_eq v7, vR_eq a7]; exact eA g7 _ _ b7 c7 (by decide)
    · unfold dAt; rw [vR_eq v8, vR_eq a8]; exact eA g8 _ _ b8 c8 (by decide)
    · unfold dPa; rw [vR_eq v9, vR_eq a9]; exact eA g9 _ _ b9 c9 (by decide)
    · unfold dLo; rw [vR_eq v10, vR_eq a10]; exact eA g10 _ _ b10 c10 (by decide)
    · unfold bkA; rw [vR_eq vb, vR_eq ab]; exact eA gb _ _ bb cb (by decide)
    · unfold bkL; rw [vR_eq vl, vR_eq al]; exact eA gl _ _ bl cl (by decide)
/-- an int of the parser's own -/
theorem zE_wI {i : Nat} {x : Int32} (h : zE own0 m u S0 H B0 c w t f b S) (hi : i ∈ [6115, 6116, 6117, 6122, 6123, 6126, 6127, 6131, 6132, 6134, 6137, 6139, 6140]) : zE own0 m u S0 H B0 c w t f b (wI i x S) := by
  obtain ⟨own, N, Nw, Nt, Nd, Nb, hs, hw, ht, hd, hb, hO, hc, hF, ho, hmu, hlen, hN, hcH⟩ := h
  obtain ⟨m1, m2, s1, s2, s3, s4, g, s5, s6, s7⟩ := hs
  obtain ⟨_, _, w1, w2, w3, w4, gw, w5, w6, w7⟩ := hw
  obtain ⟨_, _, t1, t2, t3, t4, gf, gs, t5, t6, t7, t8, t9, t10⟩ := ht
  obtain ⟨_, _, d1, d2, d3, d4, g7, g8, g9, g10, ⟨a7, b7, c7⟩, ⟨a8, b8, c8⟩, ⟨a9, b9, c9⟩, ⟨a10, b10, c10⟩⟩ := hd
  obtain ⟨k1, k2, k3, k4, gb, gl, ⟨ab, bb, cb⟩, ⟨al, bl, cl⟩⟩ := hb
  have hi' := hi
  simp only [List.mem_cons, List.not_mem_nil, or_false] at hi'
  exact ⟨own, N, Nw, Nt, Nd, Nb, ⟨m1, m2, (rIn _ _ (by omega)).trans s1, s2, s3, s4, g, s5, isK_S rfl s6, s7⟩, ⟨m1, m2, (rIn _ _ (by omega)).trans w1, w2, w3, w4, gw, w5, isK_S rfl w6, w7⟩, ⟨m1, m2, (rIn _ _ (by omega)).trans t1, t2, t3, t4, gf, gs, t5, t6, isK_S rfl t7, isK_S rfl t8, t9, t10⟩, ⟨m1, m2, (rIn _ _ (by omega)).trans d1, d2, d3, d4, g7, g8, g9, g10, ⟨a7, isK_S rfl b7, c7⟩, ⟨a8, isK_S rfl b8, c8⟩, ⟨a9, isK_S rfl b9, c9⟩, ⟨a10, isK_S rfl b10, c10⟩⟩, ⟨(rIn _ _ (by omega)).trans k1, k2, k3, k4, gb, gl, ⟨ab, isK_S rfl bb, cb⟩, ⟨al, isK_S rfl bl, cl⟩⟩, hO, hc, FrZ_go hF ⟨rfl, rfl, fun j hj => rIn _ _ (fun e => hj (by
    rw [e]
    unfold zIl
    simp only [List.mem_cons, List.not_mem_nil, or_false]
    omega)), fun _ _ => rfl, ⟨[], (List.append_nil _).symm⟩, fun _ _ _ _ => rfl, fun _ _ _ => rfl⟩ ho, ho, hmu, hlen, hN, hcH⟩
/-- an array of the parser's own -/
theorem zE_wA {a i : Nat} {x : Int32} (h : zE own0 m u S0 H B0 c w t f b S) (ha : a ∈ zAl) : zE own0 m u S0 H B0 c w t f b (wA a i x S) := by
  obtain ⟨own, N, Nw, Nt, Nd, Nb, hs, hw, ht, hd, hb, hO, hc, hF, ho, hmu, hlen, hN, hcH⟩ := h
  obtain ⟨m1, m2, s1, s2, s3, s4, g, s5, s6, s7⟩ := hs
  obtain ⟨_, _, w1, w2, w3, w4, gw, w5, w6, w7⟩ := hw
  obtain ⟨_, _, t1, t2, t3, t4, gf, gs, t5, t6, t7, t8, t9, t10⟩ := ht
  obtain ⟨_, _, d1, d2, d3, d4, g7, g8, g9, g10, ⟨a7, b7, c7⟩, ⟨a8, b8, c8⟩, ⟨a9, b9, c9⟩, ⟨a10, b10, c10⟩⟩ := hd
  obtain ⟨k1, k2, k3, k4, gb, gl, ⟨ab, bb, cb⟩, ⟨al, bl, cl⟩⟩ := hb
  exact ⟨own, N, Nw, Nt, Nd, Nb, ⟨m1, m2, s1, s2, s3, s4, g, s5, isK_S rfl s6, s7⟩, ⟨m1, m2, w1, w2, w3, w4, gw, w5, isK_S rfl w6, w7⟩, ⟨m1, m2, t1, t2, t3, t4, gf, gs, t5, t6, isK_S rfl t7, isK_S rfl t8, t9, t10⟩, ⟨m1, m2, d1, d2, d3, d4, g7, g8, g9, g10, ⟨a7, isK_S rfl b7, c7⟩, ⟨a8, isK_S rfl b8, c8⟩, ⟨a9, isK_S rfl b9, c9⟩, ⟨a10, isK_S rfl b10, c10⟩⟩, ⟨k1, k2, k3, k4, gb, gl, ⟨ab, isK_S rfl bb, cb⟩, ⟨al, isK_S rfl bl, cl⟩⟩, hO, hc, FrZ_go hF ⟨rfl, rfl, fun _ _ => rfl, fun _ _ => rfl, ⟨[], (List.append_nil _).symm⟩, fun a' _ _ hn => rAn _ _ _ (fun e => hn (by rw [e]; exact ha)), fun _ _ _ => rfl⟩ ho, ho, hmu, hlen, hN, hcH⟩
theorem zE_m (h : zE own0 m u S0 H B0 c w t f b S) : 108 ≤ m ∧ (sS S)[m - 108]? = some (12, u) ∧ sV S 6114 = .ref m ∧ sI S (100 * m + 1) = nI c ∧ sI S (100 * m + 11) = nI f ∧ sI S 6130 = nI b := by
  obtain ⟨own, N, Nw, Nt, Nd, Nb, hs, hw, ht, hd, hb, hO, hc, hF, ho, hmu, hlen, hN, hcH⟩ := h
  exact ⟨hs.1, hs.2.1, hc, hs.2.2.1, hd.2.2.1, hb.1⟩
theorem zE_Q (h : zE own0 m u S0 H B0 c w t f b S) : sQ S = sQ S0 := by
  obtain ⟨own, N, Nw, Nt, Nd, Nb, hs, hw, ht, hd, hb, hO, hc, hF, ho, hmu, hlen, hN, hcH⟩ := h
  exact hF.2.1
/-- code's arrays, functions' and breaks' arrays are none of the fixed -/
theorem zE_ne (h : zE own0 m u S0 H B0 c w t f b S) {a : Nat} (ha : 67 ≤ a) (ha2 : a < 108) (h79 : a ≠ 79) (h80 : a ≠ 80) : vR S (100 * m + 0) ≠ a ∧ vR S (100 * m + 7) ≠ a ∧ vR S (100 * m + 8) ≠ a ∧ vR S (100 * m + 9) ≠ a ∧ vR S (100 * m + 10) ≠ a ∧ vR S 6128 ≠ a ∧ vR S 6129 ≠ a := by
  obtain ⟨own, N, Nw, Nt, Nd, Nb, hs, hw, ht, hd, hb, hO, hc, hF, ho, hmu, hlen, hN, hcH⟩ := h
  obtain ⟨m1, m2, s1, s2, s3, s4, g, s5, s6, s7⟩ := hs
  obtain ⟨_, _, d1, d2, d3, d4, g7, g8, g9, g10, ⟨a7, b7, c7⟩, ⟨a8, b8, c8⟩, ⟨a9, b9, c9⟩, ⟨a10, b10, c10⟩⟩ := hd
  obtain ⟨k1, k2, k3, k4, gb, gl, ⟨ab, bb, cb⟩, ⟨al, bl, cl⟩⟩ := hb
  have e : (own a).1 = 0 := hO.2.1 a ha ha2 h79 h80
  have key : ∀ g p, (own g).1 = p → p ≠ 0 → g ≠ a := fun g p h1 h2 h3 => h2 (by rw [← h1, h3]; exact e)
  rw [vR_eq s5, vR_eq a7, vR_eq a8, vR_eq a9, vR_eq a10, vR_eq ab, vR_eq al]
  exact ⟨key _ _ s7 (by decide), key _ _ c7 (by decide), key _ _ c8 (by decide), key _ _ c9 (by decide), key _ _ c10 (by decide), key _ _ cb (by decide), key _ _ cl (by decide)⟩
end
