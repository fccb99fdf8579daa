/-! THE STATE OF THE REFERENCE'S PARSER within an expression: code m with k words, w numbers, t texts; all but its own places is as in S0 -/
def rIl (m : Nat) : List Nat := [6115, 6116, 6131, 6132, 100 * m + 1, 100 * m + 5, 100 * m + 6]
def rVl (m : Nat) : List Nat := [100 * m + 0, 100 * m + 2, 100 * m + 3, 100 * m + 4]
/-- the length of the array that a field holds -/
def lnA (S : cS) (i : Nat) : Nat := match sV S i with
  | .ref g => (match (if g < 108 then fixK g else (sS S)[g - 108]?) with
    | some x => x.2
    | none => 0)
  | _ => 0
theorem lnA_eq {S : cS} {i g t N : Nat} (h : sV S i = .ref g) (hk : isK S g t N) : lnA S i = N := by
  unfold lnA
  rw [h]
  rcases hk with ⟨h1, h2⟩ | ⟨h1, h2⟩
  · dsimp only
    rw [if_pos h1, h2]
  · dsimp only
    rw [if_neg (show ¬ g < 108 from Nat.not_lt.mpr h1), h2]
/-- what code m takes in S0, if it is there; else what a new one takes -/
def rEm (m : Nat) (S0 : cS) : Nat := if m < 108 + (sS S0).length then 2 * lnA S0 (100 * m + 0) + 2 * lnA S0 (100 * m + 2) + 4 * lnA S0 (100 * m + 3) else 176
def rEh (m : Nat) (S0 : cS) : Nat := if m < 108 + (sS S0).length then lnA S0 (100 * m + 0) else 64
def rEl (m : Nat) (S0 : cS) : Nat := if m < 108 + (sS S0).length then lnA S0 (100 * m + 0) + lnA S0 (100 * m + 2) + lnA S0 (100 * m + 3) else 80
def rE (own0 : Nat → Nat × Nat) (m u : Nat) (S0 : cS) (k w t : Nat) (S : cS) : Prop := ∃ own N Nw Nt, RCs own m u k N S ∧ RCw own m u w Nw S ∧ RCt own m u t Nt S ∧ OW own S ∧ sV S 6114 = .ref m ∧ FrO own0 [26] [27, 28, 29] (rIl m) (rVl m) S0 S ∧ (∀ a, a < 108 + (sS S0).length → own a = own0 a) ∧ mu S + rEm m S0 ≤ mu S0 + 2 * N + 2 * Nw + 4 * Nt ∧ (sS S).length + rEl m S0 ≤ (sS S0).length + N + Nw + Nt ∧ (N ≤ rEh m S0 ∨ N ≤ 2 * k)
/-- what stands in code m stays -/
def kR (m k w t : Nat) (S S1 : cS) : Prop := (∀ i, i < k → cw S1 m i = cw S m i) ∧ (∀ i, i < w → cWh S1 m i = cWh S m i) ∧ ∀ i, i < t → cFi S1 m i = cFi S m i ∧ cSe S1 m i = cSe S m i
theorem kR_refl (m k w t : Nat) (S : cS) : kR m k w t S S := ⟨fun _ _ => rfl, fun _ _ => rfl, fun _ _ => ⟨rfl, rfl⟩⟩
theorem kR_trans {m k w t k1 w1 t1 : Nat} {S S1 S2 : cS} (h : kR m k w t S S1) (g : kR m k1 w1 t1 S1 S2) (hk : k ≤ k1) (hw : w ≤ w1) (ht : t ≤ t1) : kR m k w t S S2 := ⟨fun i hi => (g.1 i (by omega)).trans (h.1 i hi), fun i hi => (g.2.1 i (by omega)).trans (h.2.1 i hi), fun i hi => ⟨(g.2.2 i (by omega)).1.trans (h.2.2 i hi).1, (g.2.2 i (by omega)).2.trans (h.2.2 i hi).2⟩⟩
theorem FrO_go {own own0 : Nat → Nat × Nat} {A L LI LV A1 L1 LI1 LV1 : List Nat} {S0 S S1 : cS} (h : FrO own0 A L LI LV S0 S) (g : FrO own A1 L1 LI1 LV1 S S1) (ho : ∀ a, a < 108 + (sS S0).length → own a = own0 a) (hA : ∀ x, x ∈ A1 → x ∈ A) (hL : ∀ x, x ∈ L1 → x ∈ L) (hI : ∀ x, x ∈ LI1 → x ∈ LI) (hV : ∀ x, x ∈ LV1 → x ∈ LV) : FrO own0 A L LI LV S0 S1 := by
  obtain ⟨h1, h2, h3, h4, ⟨l, h5⟩, h6, h7⟩ := h
  obtain ⟨g1, g2, g3, g4, ⟨l2, g5⟩, g6, g7⟩ := g
  have hl : 108 + (sS S0).length ≤ 108 + (sS S).length := by rw [h5, List.length_append]; omega
  exact ⟨g1.trans h1, g2.trans h2, fun i hi => (g3 i (fun c => hi (hI i c))).trans (h3 i hi), fun i hi => (g4 i (fun c => hi (hV i c))).trans (h4 i hi), ⟨l ++ l2, by rw [g5, h5, List.append_assoc]⟩, fun a ha hn => (g6 a (by omega) (by rw [ho a ha]; exact fun c => hn (hA _ c))).trans (h6 a ha hn), fun a ha hn => (g7 a (by omega) (by rw [ho a ha]; exact fun c => hn (hL _ c))).trans (h7 a ha hn)⟩
section
variable {own0 : Nat → Nat × Nat} {d m u k w t : Nat} {S0 S : cS}
theorem rE_m (h : rE own0 m u S0 k w t S) : 108 ≤ m ∧ (sS S)[m - 108]? = some (12, u) ∧ sV S 6114 = .ref m ∧ sI S (100 * m + 1) = nI k ∧ FrO own0 [26] [27, 28, 29] (rIl m) (rVl m) S0 S := by
  obtain ⟨own, N, Nw, Nt, h1, h2, h3, h4, h5, h6, h7⟩ := h
  exact ⟨h1.1, h1.2.1, h5, h1.2.2.1, h6⟩
/-- one more word -/
theorem rE_put (h : rE own0 m u S0 k w t S) (hk : k < 2 ^ 18) (h86 : ∀ p t, p < 1500 → sQ S0 86 p = some t → t ≠ m) (x : Int32) : ∃ S1, Ans (d + 3) 303 [.ref m, .int x] S none S1 ∧ rE own0 m u S0 (k + 1) w t S1 ∧ kR m k w t S S1 ∧ cw S1 m k = x ∧ (∀ i, i ≠ 100 * m + 1 → sI S1 i = sI S i) := by
  obtain ⟨own, N, Nw, Nt, hs, hw, ht, hO, hc, hF, ho, hmu, hlen⟩ := h
  obtain ⟨S1, own1, N1, hA, hs1, hcw, hx, hF1, ho1, hmu1, hlen1⟩ := cput_T (d := d) (x := x) hs hk
  obtain ⟨l, hS⟩ := id hF.2.2.2.2.1
  have hl : 108 + (sS S0).length ≤ 108 + (sS S).length := by rw [hS, List.length_append]; omega
  obtain ⟨l1, hSS⟩ := id hF1.2.2.2.2.1
  obtain ⟨m1, m2, w1, w2, w3, w4, gw, w5, w6, w7⟩ := hw
  obtain ⟨_, _, t1, t2, t3, t4, gf, gs, t5, t6, t7, t8, t9, t10⟩ := ht
  have eV : ∀ j, j < 100 → j ≠ 0 → sV S1 (100 * m + j) = sV S (100 * m + j) := fun j h1 h2 => hF1.2.2.2.1 _ (fun e => by have := List.mem_singleton.mp e; omega)
  have eI : ∀ i, i ≠ 100 * m + 1 → sI S1 i = sI S i := fun i hi => hF1.2.2.1 i (fun e => hi (List.mem_singleton.mp e))
  have eL : ∀ a, a < 108 + (sS S).length → sL S1 a = sL S a := fun a ha => hF1.2.2.2.2.2.2 a ha (fun e => by cases e)
  have lw := isK_lt w6
  have lf := isK_lt t7
  have ls := isK_lt t8
  refine ⟨S1, hA, ⟨own1, N1, Nw, Nt, hs1, ⟨m1, hs1.2.1, by rw [eI _ (by omega)]; exact w1, w2, w3, w4, gw, by rw [eV 2 (by omega) (by omega)]; exact w5, isK_K (l := l1) hSS w6, by rw [ho1 gw lw]; exact w7⟩, ⟨m1, hs1.2.1, by rw [eI _ (by omega)]; exact t1, t2, t3, t4, gf, gs, by rw [eV 3 (by omega) (by omega)]; exact t5, by rw [eV 4 (by omega) (by omega)]; exact t6, isK_K (l := l1) hSS t7, isK_K (l := l1) hSS t8, by rw [ho1 gf lf]; exact t9, by rw [ho1 gs ls]; exact t10⟩, OW_m hO hF1 (fun i hi => ⟨0, by omega, List.mem_singleton.mp hi⟩) m1 ho1 (by rw [hF.2.1]; exact h86), (hF1.2.2.2.1 6114 (fun e => by have := List.mem_singleton.mp e; omega)).trans hc, FrO_go hF hF1 ho (fun x hx => hx) (fun x hx => by cases hx) (fun x hx => by rw [List.mem_singleton.mp hx]; unfold rIl; simp only [List.mem_cons, true_or, or_true]) (fun x hx => by rw [List.mem_singleton.mp hx]; unfold rVl; simp only [List.mem_cons, true_or]), fun a ha => (ho1 a (by omega)).trans (ho a ha), by omega, by omega⟩, ⟨hcw, fun i hi => ?_, fun i hi => ⟨?_, ?_⟩⟩, hx, eI⟩
  · unfold cWh
    rw [vR_eq w5, vR_eq ((eV 2 (by omega) (by omega)).trans w5), eL _ lw]
  · unfold cFi
    rw [vR_eq t5, vR_eq ((eV 3 (by omega) (by omega)).trans t5), eL _ lf]
  · unfold cSe
    rw [vR_eq t6, vR_eq ((eV 4 (by omega) (by omega)).trans t6), eL _ ls]
/-- a step of one word, of two -/
theorem rE_1 (h : rE own0 m u S0 k w t S) (hk : k < 2 ^ 17) (h86 : ∀ p t, p < 1500 → sQ S0 86 p = some t → t ≠ m) (x : Int32) : ∃ S1, Ans (d + 4) 322 [.ref 61, .int x] S none S1 ∧ rE own0 m u S0 (k + 1) w t S1 ∧ kR m k w t S S1 ∧ cw S1 m k = x ∧ (∀ i, i ≠ 100 * m + 1 → sI S1 i = sI S i) := by
  obtain ⟨S1, hA, h1, h2, h3, h4⟩ := rE_put (d := d) h (by omega) h86 x
  obtain ⟨m1, m2, m3, m4, m5⟩ := rE_m h
  exact ⟨S1, rput1 m1 m2 m3 hA, h1, h2, h3, h4⟩
theorem rE_2 (h : rE own0 m u S0 k w t S) (hk : k < 2 ^ 17) (h86 : ∀ p t, p < 1500 → sQ S0 86 p = some t → t ≠ m) (x y : Int32) : ∃ S1, Ans (d + 4) 302 [.ref 61, .int x, .int y] S none S1 ∧ rE own0 m u S0 (k + 2) w t S1 ∧ kR m k w t S S1 ∧ cw S1 m k = x ∧ cw S1 m (k + 1) = y ∧ (∀ i, i ≠ 100 * m + 1 → sI S1 i = sI S i) := by
  obtain ⟨S1, hA, h1, h2, h3, h4⟩ := rE_put (d := d) h (by omega) h86 x
  obtain ⟨S2, hA2, g1, g2, g3, g4⟩ := rE_put (d := d) h1 (by omega) h86 y
  obtain ⟨m1, m2, m3, m4, m5⟩ := rE_m h
  obtain ⟨n1, n2, n3, n4, n5⟩ := rE_m h1
  exact ⟨S2, rput2 m1 m2 m3 n3 n2 hA hA2, g1, kR_trans h2 g2 (by omega) (Nat.le_refl _) (Nat.le_refl _), (g2.1 k (by omega)).trans h3, g3, fun i hi => (g4 i hi).trans (h4 i hi)⟩
/-- a jump whose place is told later: its hole -/
theorem rE_hole (h : rE own0 m u S0 k w t S) (hk : k < 2 ^ 17) (h86 : ∀ p t, p < 1500 → sQ S0 86 p = some t → t ≠ m) (x : Int32) : ∃ S1, Ans (d + 5) 325 [.ref 61, .int x] S (some (.int (nI (k + 1)))) S1 ∧ rE own0 m u S0 (k + 2) w t S1 ∧ kR m k w t S S1 ∧ cw S1 m k = x ∧ (∀ i, i ≠ 100 * m + 1 → sI S1 i = sI S i) := by
  obtain ⟨S1, hA, h1, h2, h3, h4, h5⟩ := rE_2 (d := d) h hk h86 x (nI 0)
  obtain ⟨m1, m2, m3, m4, m5⟩ := rE_m h
  obtain ⟨n1, n2, n3, n4, n5⟩ := rE_m h1
  exact ⟨S1, rhole m1 m2 m3 n3 n2 hA n4 (by omega) (by omega), h1, h2, h3, h5⟩
/-- the hole at j is told: it leads behind the last word -/
theorem rE_fill {j : Nat} (h : rE own0 m u S0 k w t S) (hk : k < 2 ^ 17) (hj : j < k) : ∃ S1, Ans (d + 1) 326 [.ref 61, .int (nI j)] S none S1 ∧ rE own0 m u S0 k w t S1 ∧ kR m 0 w t S S1 ∧ (∀ i, i ≠ j → cw S1 m i = cw S m i) ∧ cw S1 m j = nI (k - j) ∧ (∀ i, sI S1 i = sI S i) := by
  obtain ⟨own, N, Nw, Nt, hs, hw, ht, hO, hc, hF, ho, hmu, hlen⟩ := h
  obtain ⟨m1, m2, s1, s2, s3, s4, g, s5, s6, s7⟩ := hs
  obtain ⟨_, _, w1, w2, w3, w4, gw, w5, w6, w7⟩ := hw
  obtain ⟨_, _, t1, t2, t3, t4, gf, gs, t5, t6, t7, t8, t9, t10⟩ := ht
  have hA := rfill (d := d) (h := j) m1 m2 hc s5 s6 s1 hj s2 (by omega)
  have eA : sA (wA g j (nI (k - j)) S) g = upd (sA S g) j (nI (k - j)) := if_pos rfl
  have hFw : FrO own [26] [] [] [] S (wA g j (nI (k - j)) S) := ⟨rfl, rfl, fun _ _ => rfl, fun _ _ => rfl, ⟨[], (List.append_nil _).symm⟩, fun a _ h2 => rAn _ _ _ (fun e => h2 (by rw [e, s7]; decide)), fun _ _ _ => rfl⟩
  refine ⟨wA g j (nI (k - j)) S, hA, ⟨own, N, Nw, Nt, ⟨m1, m2, s1, s2, s3, s4, g, s5, isK_S rfl s6, s7⟩, ⟨m1, m2, w1, w2, w3, w4, gw, w5, isK_S rfl w6, w7⟩, ⟨m1, m2, t1, t2, t3, t4, gf, gs, t5, t6, isK_S rfl t7, isK_S rfl t8, t9, t10⟩, hO, hc, FrO_go hF hFw ho (fun x hx => hx) (fun x hx => by cases hx) (fun x hx => by cases hx) (fun x hx => by cases hx), ho, hmu, hlen⟩, ⟨fun i hi => absurd hi (Nat.not_lt_zero i), fun _ _ => rfl, fun _ _ => ⟨rfl, rfl⟩⟩, fun i hi => ?_, ?_, fun _ => rfl⟩
  · rw [cw_eq (g := g) (show sV (wA g j (nI (k - j)) S) (100 * m + 0) = _ from s5), cw_eq s5, eA, upd_at, if_neg hi]
  · rw [cw_eq (g := g) (show sV (wA g j (nI (k - j)) S) (100 * m + 0) = _ from s5), eA, upd_at, if_pos rfl]
end
