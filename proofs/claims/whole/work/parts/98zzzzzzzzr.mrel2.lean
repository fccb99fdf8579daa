/-! THE MACHINES' HEAPS IN STEP: the reference's thing is as it was -/
/-- thing r of the reference is as it was -/
def thE (Sr Sr' : cS) (r : Nat) : Prop := sA Sr' 87 r = sA Sr 87 r ∧ sQ Sr' 86 r = sQ Sr 86 r ∧ (∃ l, sS Sr' = sS Sr ++ l) ∧ ∀ t, sQ Sr 86 r = some t → (∀ i, i ≤ 12 → sI Sr' (100 * t + i) = sI Sr (100 * t + i) ∧ sV Sr' (100 * t + i) = sV Sr (100 * t + i)) ∧ ∀ f v, 2 ≤ f → f ≤ 7 → sV Sr (100 * t + f) = .ref v → sA Sr' v = sA Sr v ∧ sL Sr' v = sL Sr v
/-- both tables of names are as they were -/
def tnE (Sr Sr' : cS) (g0 g1 : Nat) : Prop := sA Sr' g0 = sA Sr g0 ∧ sA Sr' g1 = sA Sr g1 ∧ sL Sr' 17 = sL Sr 17 ∧ sL Sr' 18 = sL Sr 18
theorem thE.refl (Sr : cS) (r : Nat) : thE Sr Sr r := ⟨rfl, rfl, ⟨[], (List.append_nil _).symm⟩, fun _ _ => ⟨fun _ _ => ⟨rfl, rfl⟩, fun _ _ _ _ _ => ⟨rfl, rfl⟩⟩⟩
theorem isK_ext {S S' : cS} {a t N : Nat} (h : isK S a t N) (e : ∃ l, sS S' = sS S ++ l) : isK S' a t N := by
  obtain ⟨l, e⟩ := e
  rcases h with h | h
  · exact Or.inl h
  · exact Or.inr ⟨h.1, sS_old e h.2⟩
section
variable {β : Nat → Nat} {F : Nat → Nat → Nat → Prop} {Sc Sr Sr' : cS} {g0 g1 nn k r t v2 v3 v4 v5 v6 v7 n m : Nat}
theorem thE.trans {S1 : cS} (h : thE Sr S1 r) (h' : thE S1 Sr' r) : thE Sr Sr' r := by
  obtain ⟨a1, a2, ⟨l, a3⟩, a4⟩ := h
  obtain ⟨b1, b2, ⟨l', b3⟩, b4⟩ := h'
  refine ⟨b1.trans a1, b2.trans a2, ⟨l ++ l', by rw [b3, a3, List.append_assoc]⟩, fun t ht => ?_⟩
  obtain ⟨c1, c2⟩ := a4 t ht
  obtain ⟨d1, d2⟩ := b4 t (by rw [a2]; exact ht)
  refine ⟨fun i hi => ⟨(d1 i hi).1.trans (c1 i hi).1, (d1 i hi).2.trans (c1 i hi).2⟩, fun f v f2 f7 hv => ?_⟩
  have e := c2 f v f2 f7 hv
  have e' := d2 f v f2 f7 (by rw [(c1 f (by omega)).2]; exact hv)
  exact ⟨e'.1.trans e.1, e'.2.trans e.2⟩
theorem tRef_E (h : tRef Sr r t v2 v3 v4 v5 v6 v7 n m) (e : thE Sr Sr' r) : tRef Sr' r t v2 v3 v4 v5 v6 v7 n m ∧ (∀ i, i ≤ 12 → sI Sr' (100 * t + i) = sI Sr (100 * t + i)) ∧ (∀ i, i ≤ 12 → sV Sr' (100 * t + i) = sV Sr (100 * t + i)) ∧ sA Sr' v2 = sA Sr v2 ∧ sA Sr' v3 = sA Sr v3 ∧ sL Sr' v4 = sL Sr v4 ∧ sL Sr' v5 = sL Sr v5 ∧ sL Sr' v6 = sL Sr v6 ∧ sL Sr' v7 = sL Sr v7 := by
  obtain ⟨h1, h2, ⟨N, h3⟩, h4, h5, h6, h7, h8, h9, k1, k2, k3, k4, k5, k6, hr⟩ := h
  obtain ⟨e1, e2, e3, e4⟩ := e
  obtain ⟨c1, c2⟩ := e4 t h1
  obtain ⟨l, el⟩ := e3
  refine ⟨⟨e2.trans h1, h2, ⟨N, sS_old el h3⟩, by rw [(c1 2 (by omega)).2]; exact h4, by rw [(c1 3 (by omega)).2]; exact h5, by rw [(c1 4 (by omega)).2]; exact h6, by rw [(c1 5 (by omega)).2]; exact h7, by rw [(c1 6 (by omega)).2]; exact h8, by rw [(c1 7 (by omega)).2]; exact h9, isK_ext k1 ⟨l, el⟩, isK_ext k2 ⟨l, el⟩, isK_ext k3 ⟨l, el⟩, isK_ext k4 ⟨l, el⟩, isK_ext k5 ⟨l, el⟩, isK_ext k6 ⟨l, el⟩, hr⟩, fun i hi => (c1 i hi).1, fun i hi => (c1 i hi).2, (c2 2 v2 (by omega) (by omega) h4).1, (c2 3 v3 (by omega) (by omega) h5).1, (c2 4 v4 (by omega) (by omega) h6).2, (c2 5 v5 (by omega) (by omega) h7).2, (c2 6 v6 (by omega) (by omega) h8).2, (c2 7 v7 (by omega) (by omega) h9).2⟩
theorem rnE (h : tnE Sr Sr' g0 g1) (r : Nat) : rnH Sr' g0 g1 r = rnH Sr g0 g1 r ∧ rnL Sr' g0 g1 r = rnL Sr g0 g1 r := by
  unfold rnH rnL rnm
  rw [h.1, h.2.1]
  exact ⟨rfl, rfl⟩
theorem nrelE (h : tnE Sr Sr' g0 g1) (q r : Nat) : nrel Sr' g0 g1 q r ↔ nrel Sr g0 g1 q r := by
  unfold nrel c_is
  rw [(rnE h r).1, (rnE h r).2, h.2.2.1, h.2.2.2]
theorem keyRE (h : tnE Sr Sr' g0 g1) {kd : Nat} {kh kl ka kb : Int64} {kk : Int32} (hk : keyR β Sr g0 g1 nn kd kh kl kk ka kb) : keyR β Sr' g0 g1 nn kd kh kl kk ka kb := by
  unfold keyR at hk ⊢
  split at hk
  · rename_i h2
    rw [if_pos h2]
    exact hk
  · rename_i h2
    rw [if_neg h2]
    obtain ⟨a1, a2, r, a3, a4, a5, a6⟩ := hk
    exact ⟨a1, a2, r, a3, a4, by rw [(rnE h r).1]; exact a5, by rw [(rnE h r).2]; exact a6⟩
/-- the reference's thing is as it was -/
theorem obR_r (h : obR β F Sc Sr g0 g1 nn k) (e : thE Sr Sr' (β k)) (hn : tnE Sr Sr' g0 g1) : obR β F Sc Sr' g0 g1 nn k := by
  obtain ⟨b1, b2, t, v2, v3, v4, v5, v6, v7, n, m, c1, c2, c3, c4, c5, c6, c7, c8, c9⟩ := h
  obtain ⟨d1, d2, d3, x2, x3, x4, x5, x6, x7⟩ := tRef_E c1 e
  refine ⟨b1, by rw [e.1]; exact b2, t, v2, v3, v4, v5, v6, v7, n, m, d1, by rw [d2 0 (by omega)]; exact c2, by rw [d2 1 (by omega)]; exact c3, c4, fun i hi => by rw [x2, x4, x5]; exact c5 i hi, fun hw => ⟨(c6 hw).1, fun i hi => by rw [x3, x6, x7]; exact keyRE hn ((c6 hw).2 i hi)⟩, by rw [d2 11 (by omega)]; exact c7, by rw [d2 12 (by omega)]; exact c8, fun h3 => ?_, fun h4 => ?_⟩
  · obtain ⟨f, m', j, rr, f1, f2, f3, f4, f5, f6, f7⟩ := c9.1 h3
    exact ⟨f, m', j, rr, f1, by rw [d3 8 (by omega)]; exact f2, by rw [d2 9 (by omega)]; exact f3, f4, f5, by rw [d2 10 (by omega)]; exact f6, f7⟩
  · obtain ⟨q, r, f1, f2, f3, f4⟩ := c9.2 h4
    exact ⟨q, r, f1, by rw [d2 10 (by omega)]; exact f2, f3, (nrelE hn q r).mpr f4⟩
end
