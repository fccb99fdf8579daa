/-! THE REFERENCE'S PARSER: numbers, texts, its own ints -/
section
variable {own0 : Nat → Nat × Nat} {d m u k w t : Nat} {S0 S : cS}
/-- at, fault, target, targetAt -/
theorem rE_wI {i : Nat} {x : Int32} (h : rE own0 m u S0 k w t S) (hi : i = 6115 ∨ i = 6116 ∨ i = 6131 ∨ i = 6132) : rE own0 m u S0 k w t (wI i x S) ∧ kR m k w t S (wI i x S) := by
  obtain ⟨own, N, Nw, Nt, hs, hw, ht, hO, hc, hF, ho, hmu, hlen⟩ := h
  obtain ⟨m1, m2, s1, s2, s3, s4, g, s5, s6, s7⟩ := hs
  obtain ⟨_, _, w1, w2, w3, w4, gw, w5, w6, w7⟩ := hw
  obtain ⟨_, _, t1, t2, t3, t4, gf, gs, t5, t6, t7, t8, t9, t10⟩ := ht
  have hFw : FrO own [] [] [i] [] S (wI i x S) := ⟨rfl, rfl, fun q hq => rIn _ _ (fun e => hq (List.mem_singleton.mpr e)), fun _ _ => rfl, ⟨[], (List.append_nil _).symm⟩, fun _ _ _ => rfl, fun _ _ _ => rfl⟩
  refine ⟨⟨own, N, Nw, Nt, ⟨m1, m2, (rIn _ _ (by omega)).trans s1, s2, s3, s4, g, s5, isK_S rfl s6, s7⟩, ⟨m1, m2, (rIn _ _ (by omega)).trans w1, w2, w3, w4, gw, w5, isK_S rfl w6, w7⟩, ⟨m1, m2, (rIn _ _ (by omega)).trans t1, t2, t3, t4, gf, gs, t5, t6, isK_S rfl t7, isK_S rfl t8, t9, t10⟩, hO, hc, FrO_go hF hFw ho (fun x hx => by cases hx) (fun x hx => by cases hx) (fun x hx => ?_) (fun x hx => by cases hx), ho, hmu, hlen⟩, fun _ _ => rfl, fun _ _ => rfl, fun _ _ => ⟨rfl, rfl⟩⟩
  rw [List.mem_singleton.mp hx]
  unfold rIl
  rcases hi with rfl | rfl | rfl | rfl <;> simp only [List.mem_cons, true_or, or_true]
/-- one more number -/
theorem rE_whole (h : rE own0 m u S0 k w t S) (hw' : w < 2 ^ 17) (h86 : ∀ p t, p < 1500 → sQ S0 86 p = some t → t ≠ m) (x : Int64) : ∃ S1, Ans (d + 3) 320 [.ref m, .long x] S (some (.int (nI w))) S1 ∧ rE own0 m u S0 k (w + 1) t S1 ∧ kR m k w t S S1 ∧ cWh S1 m w = x ∧ (∀ i, i ≠ 100 * m + 5 → sI S1 i = sI S i) := by
  obtain ⟨own, N, Nw, Nt, hs, hw, ht, hO, hc, hF, ho, hmu, hlen⟩ := h
  obtain ⟨S1, own1, N1, hA, hs1, hcw, hx, hF1, ho1, hmu1, hlen1⟩ := cwhole_T (d := d) (w := x) hw (by omega)
  obtain ⟨l, hS⟩ := id hF.2.2.2.2.1
  have hl : 108 + (sS S0).length ≤ 108 + (sS S).length := by rw [hS, List.length_append]; omega
  obtain ⟨l1, hSS⟩ := id hF1.2.2.2.2.1
  obtain ⟨m1, m2, w1, w2, w3, w4, gw, w5, w6, w7⟩ := hs
  obtain ⟨_, _, t1, t2, t3, t4, gf, gs, t5, t6, t7, t8, t9, t10⟩ := ht
  have eV : ∀ j, j < 100 → j ≠ 2 → sV S1 (100 * m + j) = sV S (100 * m + j) := fun j h1 h2 => hF1.2.2.2.1 _ (fun e => by have := List.mem_singleton.mp e; omega)
  have eI : ∀ i, i ≠ 100 * m + 5 → sI S1 i = sI S i := fun i hi => hF1.2.2.1 i (fun e => hi (List.mem_singleton.mp e))
  have eA : ∀ a, a < 108 + (sS S).length → sA S1 a = sA S a := fun a ha => hF1.2.2.2.2.2.1 a ha (fun e => by cases e)
  have eL : ∀ a, a < 108 + (sS S).length → (own a).1 ≠ 27 → sL S1 a = sL S a := fun a ha hn => hF1.2.2.2.2.2.2 a ha (fun e => hn (List.mem_singleton.mp e))
  have lw := isK_lt w6
  have lf := isK_lt t7
  have ls := isK_lt t8
  refine ⟨S1, hA, ⟨own1, N, N1, Nt, ⟨m1, hs1.2.1, by rw [eI _ (by omega)]; exact w1, w2, w3, w4, gw, by rw [eV 0 (by omega) (by omega)]; exact w5, isK_K (l := l1) hSS w6, by rw [ho1 gw lw]; exact w7⟩, hs1, ⟨m1, hs1.2.1, by rw [eI _ (by omega)]; exact t1, t2, t3, t4, gf, gs, by rw [eV 3 (by omega) (by omega)]; exact t5, by rw [eV 4 (by omega) (by omega)]; exact t6, isK_K (l := l1) hSS t7, isK_K (l := l1) hSS t8, by rw [ho1 gf lf]; exact t9, by rw [ho1 gs ls]; exact t10⟩, OW_m hO hF1 (fun i hi => ⟨2, by omega, List.mem_singleton.mp hi⟩) m1 ho1 (by rw [hF.2.1]; exact h86), (hF1.2.2.2.1 6114 (fun e => by have := List.mem_singleton.mp e; omega)).trans hc, FrO_go hF hF1 ho (fun x hx => by cases hx) (fun x hx => by rw [List.mem_singleton.mp hx]; decide) (fun x hx => by rw [List.mem_singleton.mp hx]; unfold rIl; simp only [List.mem_cons, true_or, or_true]) (fun x hx => by rw [List.mem_singleton.mp hx]; unfold rVl; simp only [List.mem_cons, true_or, or_true]), fun a ha => (ho1 a (by omega)).trans (ho a ha), by omega, by omega⟩, ⟨fun i hi => ?_, hcw, fun i hi => ⟨?_, ?_⟩⟩, hx, eI⟩
  · rw [cw_eq w5, cw_eq ((eV 0 (by omega) (by omega)).trans w5), eA _ lw]
  · unfold cFi
    rw [vR_eq t5, vR_eq ((eV 3 (by omega) (by omega)).trans t5), eL _ lf (by rw [t9]; decide)]
  · unfold cSe
    rw [vR_eq t6, vR_eq ((eV 4 (by omega) (by omega)).trans t6), eL _ ls (by rw [t10]; decide)]
/-- one more text -/
theorem rE_str (h : rE own0 m u S0 k w t S) (ht' : t < 2 ^ 17) (h86 : ∀ p t, p < 1500 → sQ S0 86 p = some t → t ≠ m) (x y : Int64) : ∃ S1, Ans (d + 3) 321 [.ref m, .long x, .long y] S (some (.int (nI t))) S1 ∧ rE own0 m u S0 k w (t + 1) S1 ∧ kR m k w t S S1 ∧ cFi S1 m t = x ∧ cSe S1 m t = y ∧ (∀ i, i ≠ 100 * m + 6 → sI S1 i = sI S i) := by
  obtain ⟨own, N, Nw, Nt, hs, hw, ht, hO, hc, hF, ho, hmu, hlen⟩ := h
  obtain ⟨S1, own1, N1, hA, hs1, hcw, hx, hy, hF1, ho1, hmu1, hlen1⟩ := cstr_T (d := d) (a := x) (b := y) ht (by omega)
  obtain ⟨l, hS⟩ := id hF.2.2.2.2.1
  have hl : 108 + (sS S0).length ≤ 108 + (sS S).length := by rw [hS, List.length_append]; omega
  obtain ⟨l1, hSS⟩ := id hF1.2.2.2.2.1
  obtain ⟨m1, m2, w1, w2, w3, w4, gw, w5, w6, w7⟩ := hs
  obtain ⟨_, _, t1, t2, t3, t4, gf, t5, t7, t9⟩ := hw
  have eV : ∀ j, j < 100 → j ≠ 3 → j ≠ 4 → sV S1 (100 * m + j) = sV S (100 * m + j) := fun j h1 h2 h3 => hF1.2.2.2.1 _ (fun e => by
    simp only [List.mem_cons, List.not_mem_nil, or_false] at e
    omega)
  have eI : ∀ i, i ≠ 100 * m + 6 → sI S1 i = sI S i := fun i hi => hF1.2.2.1 i (fun e => hi (List.mem_singleton.mp e))
  have eA : ∀ a, a < 108 + (sS S).length → sA S1 a = sA S a := fun a ha => hF1.2.2.2.2.2.1 a ha (fun e => by cases e)
  have eL : ∀ a, a < 108 + (sS S).length → (own a).1 = 27 → sL S1 a = sL S a := fun a ha hn => hF1.2.2.2.2.2.2 a ha (by rw [hn]; decide)
  have lw := isK_lt w6
  have lf := isK_lt t7
  refine ⟨S1, hA, ⟨own1, N, Nw, N1, ⟨m1, hs1.2.1, by rw [eI _ (by omega)]; exact w1, w2, w3, w4, gw, by rw [eV 0 (by omega) (by omega) (by omega)]; exact w5, isK_K (l := l1) hSS w6, by rw [ho1 gw lw]; exact w7⟩, ⟨m1, hs1.2.1, by rw [eI _ (by omega)]; exact t1, t2, t3, t4, gf, by rw [eV 2 (by omega) (by omega) (by omega)]; exact t5, isK_K (l := l1) hSS t7, by rw [ho1 gf lf]; exact t9⟩, hs1, OW_m hO hF1 (fun i hi => by
    simp only [List.mem_cons, List.not_mem_nil, or_false] at hi
    rcases hi with e | e
    · exact ⟨3, by omega, e⟩
    · exact ⟨4, by omega, e⟩) m1 ho1 (by rw [hF.2.1]; exact h86), (hF1.2.2.2.1 6114 (fun e => by
    simp only [List.mem_cons, List.not_mem_nil, or_false] at e
    omega)).trans hc, FrO_go hF hF1 ho (fun x hx => by cases hx) (fun x hx => by
    simp only [List.mem_cons, List.not_mem_nil, or_false] at hx
    rcases hx with rfl | rfl <;> decide) (fun x hx => by rw [List.mem_singleton.mp hx]; unfold rIl; simp only [List.mem_cons, true_or, or_true]) (fun x hx => by
    simp only [List.mem_cons, List.not_mem_nil, or_false] at hx
    unfold rVl
    rcases hx with rfl | rfl <;> simp only [List.mem_cons, true_or, or_true]), fun a ha => (ho1 a (by omega)).trans (ho a ha), by omega, by omega⟩, ⟨fun i hi => ?_, fun i hi => ?_, hcw⟩, hx, hy, eI⟩
  · rw [cw_eq w5, cw_eq ((eV 0 (by omega) (by omega) (by omega)).trans w5), eA _ lw]
  · unfold cWh
    rw [vR_eq t5, vR_eq ((eV 2 (by omega) (by omega) (by omega)).trans t5), eL _ lf t9]
end
