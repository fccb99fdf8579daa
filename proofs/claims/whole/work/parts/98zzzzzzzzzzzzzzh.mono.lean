/-! CALLS OF CLASSES: more names are told to both (for the name init) -/
section
variable {P : Nat → Prop} {T : cS} {gT : Nat} {Q : Nat → Prop} {β : Nat → Nat} {F F' : Nat → Nat → Nat → Prop} {loc par : Nat → Nat → Nat} {ty : Nat → Nat × Nat} {G : Nat → Nat → Nat → Nat × Nat × LL → Prop} {D : List Nat} {z nn g0 g1 g3 g4 g5 gn k t xm : Nat} {g : Nat → Nat} {tq : Nat → Nat × Nat} {C : List Lv} {S Sc Sr : cS}
theorem tyO_mo (h : tyO F loc par ty S k) (hF : ∀ f m j, F f m j → F' f m j) : tyO F' loc par ty S k := by
  obtain ⟨a1, a2, a3⟩ := h
  refine ⟨a1, fun c => ?_, a3⟩
  obtain ⟨b1, f, m, j, a, b2, ⟨b3, b4⟩, b5⟩ := a2 c
  exact ⟨b1, f, m, j, a, b2, ⟨hF _ _ _ b3, b4⟩, b5⟩
theorem CIg_mo (h : CIg xm g F loc par ty G tq C S) (hF : ∀ f m j, F f m j → F' f m j) : CIg xm g F' loc par ty G tq C S := by
  obtain ⟨a1, a2, a3, a4, a5⟩ := h
  exact ⟨a1, a2, a3, fun k hk => ⟨tyO_mo (a4 k hk).1 hF, (a4 k hk).2⟩, a5⟩
theorem CI_mo (h : CI F loc par ty G tq C S) (hF : ∀ f m j, F f m j → F' f m j) : CI F' loc par ty G tq C S := CIg_mo (xm := 0) (g := gC C) h hF
theorem obR_mo (h : obR β F Sc Sr g0 g1 nn k) (hF : ∀ f m j, F f m j → F' f m j) : obR β F' Sc Sr g0 g1 nn k := by
  obtain ⟨b1, b2, t, v2, v3, v4, v5, v6, v7, n, m, c1, c2, c3, c4, c5, c6, c7, c8, c9⟩ := h
  refine ⟨b1, b2, t, v2, v3, v4, v5, v6, v7, n, m, c1, c2, c3, c4, c5, c6, c7, c8, fun h3 => ?_, c9.2⟩
  obtain ⟨f, m', j, rr, f1, f2, f3, f4, f5, f6, f7⟩ := c9.1 h3
  exact ⟨f, m', j, rr, f1, f2, f3, hF _ _ _ f4, f5, f6, hF _ _ _ f7⟩
theorem XR_mo (h : XR P T gT Q β F D z nn g0 g1 g3 g4 g5 gn tq C Sc Sr) (hF : ∀ f m j, F f m j → F' f m j) (hN : ∀ q r, F' q 0 r → q < z ∧ r < nn ∧ nrel Sr g0 g1 q r) : XR P T gT Q β F' D z nn g0 g1 g3 g4 g5 gn tq C Sc Sr := by
  obtain ⟨a1, ⟨k1, k2, k3, k4, _⟩, a3⟩ := h
  exact ⟨⟨fun k hk => obR_mo (a1.1 k hk) hF, a1.2⟩, ⟨k1, k2, k3, k4, hN⟩, a3⟩
/-- F and that name q of the class is r -/
def Fnm (F : Nat → Nat → Nat → Prop) (q r : Nat) : Nat → Nat → Nat → Prop := fun a b c => F a b c ∨ (a = q ∧ b = 0 ∧ c = r)
theorem XR_nmF {q r : Nat} (h : XR P T gT Q β F D z nn g0 g1 g3 g4 g5 gn tq C Sc Sr) (hq : q < z) (hr : r < nn) (hn : nrel Sr g0 g1 q r) : XR P T gT Q β (Fnm F q r) D z nn g0 g1 g3 g4 g5 gn tq C Sc Sr := by
  have hk := h.2.1.2.2.2.2
  refine XR_mo h (fun f m j c => Or.inl c) (fun q' r' c => ?_)
  rcases c with c | ⟨c1, _, c3⟩
  · exact hk q' r' c
  · rw [c1, c3]
    exact ⟨hq, hr, hn⟩
end
