/-! CALLS OF CLASSES: both sides when the reference's names grow -/
section
variable {P : Nat → Prop} {T : cS} {gT : Nat} {Q Q' : Nat → Prop} {β β' : Nat → Nat} {F : Nat → Nat → Nat → Prop} {D : List Nat} {z nn nn' g0 g1 g3 g4 g5 gn h0 h1 h3 h4 h5 hn n m p q k i t kd a : Nat} {tq : Nat → Nat × Nat} {C : List Lv} {S S' W Sc Sr : cS}
theorem XR_nx (hX : XR P T gT Q β F D z nn g0 g1 g3 g4 g5 gn tq C Sc Sr) (hF : nmF g0 g1 g3 g4 g5 Sr W) (hK : nmK Sr W g0 g1 nn h0 h1 nn') (hNM : NMv β W (sL Sc 21) (sL Sc 22) z nn' h0 h1 h3 h4 h5) (hfit : ∀ i, fits .byte (.int (sA W h0 i)) = true) (hT : sI W 6102 = nI nn' ∧ (sV W 6100 = .ref h0 ∧ sV W 6101 = .ref h1 ∧ sV W 6103 = .ref h3 ∧ sV W 6104 = .ref h4 ∧ sV W 6105 = .ref h5) ∧ (isK W h0 2 (12 * hn) ∧ isK W h1 0 hn ∧ isK W h3 0 hn ∧ isK W h4 1 hn ∧ isK W h5 1 hn) ∧ nn' ≤ hn ∧ 64 ≤ hn ∧ hn < 2 ^ 16) (hd : h0 ≠ h1 ∧ h0 ≠ h3 ∧ h1 ≠ h3 ∧ h4 ≠ h5) (hh : (h0 = g0 ∨ 108 + (sS Sr).length ≤ h0) ∧ (h1 = g1 ∨ 108 + (sS Sr).length ≤ h1) ∧ (h3 = g3 ∨ 108 + (sS Sr).length ≤ h3) ∧ (h4 = g4 ∨ 108 + (sS Sr).length ≤ h4) ∧ (h5 = g5 ∨ 108 + (sS Sr).length ≤ h5)) (hmu : mu W + 32 * gn = mu Sr + 32 * hn) (hlen : (sS W).length + gn ≤ (sS Sr).length + hn) : XR P T gT (fun a => Q a ∨ a = h0 ∨ a = h1 ∨ a = h3 ∨ a = h4 ∨ a = h5) β F D z nn' h0 h1 h3 h4 h5 hn tq C Sc W := by
  obtain ⟨a1, a2, a3, a4, a5, a6, a7, a8, a9, a10, a11⟩ := hX
  obtain ⟨t1, t2, t3, t4, t5, t6, ⟨q0, q1, q3, q4, q5⟩, ⟨n0, n1, n3, n4, n5⟩, d1, d2, d3, d4⟩ := a3
  have hQ := a1.wf
  have ng : ∀ {g : Nat}, nG g → g ≠ 87 := fun h => nG_ne h (by omega)
  have hE := nmF_th hF hQ ⟨q0, q1, q3, q4, q5⟩ ⟨ng n0, ng n1, ng n3⟩
  obtain ⟨f1, f2, f3, f4, ⟨l, f5⟩, f6, f7⟩ := hF
  have hll : 108 + (sS Sr).length ≤ 108 + (sS W).length := by rw [f5, List.length_append]; omega
  have Qlt : ∀ a, Q a → a < 108 + (sS Sr).length := hQ.2.2.2.2.2
  have Q108 : ∀ a, a < 108 → Q a := hQ.2.2.2.2.1
  have nGh : ∀ {h g : Nat}, nG g → (h = g ∨ 108 + (sS Sr).length ≤ h) → nG h := fun hg hh => by
    rcases hh with c | c
    · rw [c]; exact hg
    · exact Or.inl (by omega)
  have m0 := nGh n0 hh.1
  have m1 := nGh n1 hh.2.1
  have m3 := nGh n3 hh.2.2.1
  have m4 := nGh n4 hh.2.2.2.1
  have m5 := nGh n5 hh.2.2.2.2
  -- an array that is no name's
  have eA : ∀ {a : Nat}, a < 108 → ¬ nG a → sA W a = sA Sr a := fun {a} ha hn => f6 a (by omega) (fun c => hn (c ▸ n0)) (fun c => hn (c ▸ n1)) (fun c => hn (c ▸ n3))
  have eL : ∀ {a : Nat}, a < 108 → ¬ nG a → sL W a = sL Sr a := fun {a} ha hn => f7 a (by omega) (fun c => hn (c ▸ n4)) (fun c => hn (c ▸ n5))
  have nn1 : ∀ {a : Nat}, (a < 62 ∨ (67 ≤ a ∧ a < 108 ∧ a ≠ 79 ∧ a ≠ 80)) → ¬ nG a := fun ha c => by
    unfold nG at c
    omega
  have hqn : ∀ p t f (v : Nat), p < 1500 → sQ Sr 86 p = some t → 2 ≤ f → f ≤ 7 → sV Sr (100 * t + f) = .ref v → v < 108 + (sS Sr).length ∧ ¬ Q v := fun p t f v hp ht h2 h7 hv => by
    refine ⟨?_, hQ.2.2.2.1 p t f v hp ht h2 h7 hv⟩
    obtain ⟨v2, v3, v4, v5, v6, v7, n, m, c1, _⟩ := hQ.1 p t hp ht
    obtain ⟨_, _, _, e2, e3, e4, e5, e6, e7, k2, k3, k4, k5, k6, k7, _⟩ := c1
    have hf : f = 2 ∨ f = 3 ∨ f = 4 ∨ f = 5 ∨ f = 6 ∨ f = 7 := by omega
    rcases hf with c | c | c | c | c | c
    · subst c; rw [e2] at hv; injection hv with hv; subst hv; exact isK_lim k2
    · subst c; rw [e3] at hv; injection hv with hv; subst hv; exact isK_lim k3
    · subst c; rw [e4] at hv; injection hv with hv; subst hv; exact isK_lim k4
    · subst c; rw [e5] at hv; injection hv with hv; subst hv; exact isK_lim k5
    · subst c; rw [e6] at hv; injection hv with hv; subst hv; exact isK_lim k6
    · subst c; rw [e7] at hv; injection hv with hv; subst hv; exact isK_lim k7
  have eVt : ∀ p t f, p < 1500 → sQ Sr 86 p = some t → f ≤ 12 → sV W (100 * t + f) = sV Sr (100 * t + f) := fun p t f hp ht hf => by
    obtain ⟨t1, _⟩ := tOk_t (hQ.1 p t hp ht)
    exact f4 _ (by simp only [List.mem_cons, List.not_mem_nil, or_false, not_or]; omega)
  have hWf : tWf (fun a => Q a ∨ a = h0 ∨ a = h1 ∨ a = h3 ∨ a = h4 ∨ a = h5) W := by
    refine ⟨fun p t hp ht => ?_, fun p q t hp hq ht ht' => ?_, fun p q t t' f f' v hp hq hne ht ht' u1 u2 u3 u4 hv hv' => ?_, fun p t f v hp ht u1 u2 hv hqv => ?_, fun a ha => Or.inl (Q108 a ha), fun a ha => ?_⟩
    · rw [f2] at ht
      exact tOk_nx (hQ.1 p t hp ht) (hE p hp)
    · rw [f2] at ht ht'
      exact hQ.2.1 p q t hp hq ht ht'
    · rw [f2] at ht ht'
      rw [eVt p t f hp ht (by omega)] at hv
      rw [eVt q t' f' hq ht' (by omega)] at hv'
      exact hQ.2.2.1 p q t t' f f' v hp hq hne ht ht' u1 u2 u3 u4 hv hv'
    · rw [f2] at ht
      rw [eVt p t f hp ht (by omega)] at hv
      obtain ⟨v1, v2⟩ := hqn p t f v hp ht u1 u2 hv
      have ne : ∀ {h g : Nat}, Q g → (h = g ∨ 108 + (sS Sr).length ≤ h) → v ≠ h := fun hg hh c => by
        rcases hh with c2 | c2
        · exact v2 (by rw [c, c2]; exact hg)
        · omega
      rcases hqv with c | c | c | c | c | c
      · exact v2 c
      · exact ne q0 hh.1 c
      · exact ne q1 hh.2.1 c
      · exact ne q3 hh.2.2.1 c
      · exact ne q4 hh.2.2.2.1 c
      · exact ne q5 hh.2.2.2.2 c
    · rcases ha with c | c | c | c | c | c
      · have := Qlt a c; omega
      · rw [c]; exact isK_lim hT.2.2.1.1
      · rw [c]; exact isK_lim hT.2.2.1.2.1
      · rw [c]; exact isK_lim hT.2.2.1.2.2.1
      · rw [c]; exact isK_lim hT.2.2.1.2.2.2.1
      · rw [c]; exact isK_lim hT.2.2.1.2.2.2.2
  have h3n : ∀ {h : Nat}, nG h → h ∉ [87, 89, 90] := fun h c => by
    simp only [List.mem_cons, List.not_mem_nil, or_false] at c
    unfold nG at h
    omega
  obtain ⟨r1, r2⟩ := rt_nx hQ hE f2
  obtain ⟨k1, k2, ⟨k3, k4⟩, ⟨k5, _⟩, k6⟩ := a2
  refine ⟨HR_nx a1 hE hK hWf ⟨Or.inr (Or.inl rfl), h3n m0, Or.inr (Or.inr (Or.inl rfl)), h3n m1⟩, ⟨hNM, k2, ⟨hK.2.2.1.trans k3, hK.2.2.2.trans k4⟩, ⟨k5, hfit⟩, fun q r hF => ⟨(k6 q r hF).1, by have := (k6 q r hF).2.1; have := hK.1; omega, nrel_nx hK (k6 q r hF).2.1 (k6 q r hF).2.2⟩⟩, ⟨hT.1, hT.2.1, hT.2.2.1, hT.2.2.2.1, hT.2.2.2.2.1, hT.2.2.2.2.2, ⟨Or.inr (Or.inl rfl), Or.inr (Or.inr (Or.inl rfl)), Or.inr (Or.inr (Or.inr (Or.inl rfl))), Or.inr (Or.inr (Or.inr (Or.inr (Or.inl rfl)))), Or.inr (Or.inr (Or.inr (Or.inr (Or.inr rfl))))⟩, ⟨m0, m1, m3, m4, m5⟩, hd⟩, stkR_s a4 rfl rfl (eA (by omega) (nn1 (by omega))) (eL (by omega) (nn1 (by omega))) (eL (by omega) (nn1 (by omega))), rCal_E a5 (by rw [f2]) (fun a ha => eA (by simp only [List.mem_cons, List.not_mem_nil, or_false] at ha; omega) (nn1 (by simp only [List.mem_cons, List.not_mem_nil, or_false] at ha; omega))), ?_, triX_E a7 (fun a ha => eA (by simp only [List.mem_cons, List.not_mem_nil, or_false] at ha; omega) (nn1 (by simp only [List.mem_cons, List.not_mem_nil, or_false] at ha; omega))), lnC_E a8 rfl rfl (eA (by omega) (nn1 (by omega))), ?_, ?_, ?_⟩
  · cases C with
    | nil => exact a6
    | cons x r =>
      obtain ⟨b1, b2, b3⟩ := a6
      exact ⟨by rw [f3 _ (by omega)]; exact b1, by rw [f3 _ (by omega)]; exact b2, by rw [f3 _ (by omega)]; exact b3⟩
  · obtain ⟨⟨b1, b2⟩, ⟨o, o1, o2, o3, o4⟩, u, u1, u2⟩ := a9
    exact ⟨⟨by rw [f3 _ (by omega)]; exact b1, by rw [f3 _ (by omega)]; exact b2⟩, ⟨o, o1, o2, by rw [f3 _ (by omega)]; exact o3, fun i hi => by rw [eA (by omega) (nn1 (by omega))]; exact o4 i hi⟩, u, u1, by rw [f3 _ (by omega)]; exact u2⟩
  · obtain ⟨b1, b2, b3, ⟨l0, b4⟩, b5, b6, b7, b8, b9⟩ := a10
    refine ⟨f1.trans b1, fun i hi => by rw [f3 i (by omega)]; exact b2 i hi, fun i hi hn => by rw [f4 i (by simp only [List.mem_cons, List.not_mem_nil, or_false, not_or]; omega)]; exact b3 i hi hn, ⟨l0 ++ l, by rw [f5, b4, List.append_assoc]⟩, fun a ha => ?_, fun b c1 c2 => by rw [f2]; exact b6 b c1 c2, fun m zm hm hs j hj => ?_, by rw [r1]; omega, by rw [r2]; omega⟩
    · obtain ⟨p1, p2⟩ := a11.1 a ha
      have hlt := Qlt a p1
      obtain ⟨_, p3, p4, p5, p6, p7⟩ := a11
      exact ⟨by rw [f6 a hlt (fun c => p3 (c ▸ ha)) (fun c => p4 (c ▸ ha)) (fun c => p5 (c ▸ ha))]; exact (b5 a ha).1, by rw [f7 a hlt (fun c => p6 (c ▸ ha)) (fun c => p7 (c ▸ ha))]; exact (b5 a ha).2⟩
    · obtain ⟨c1, c2⟩ := b7 m zm hm hs j hj
      exact ⟨by rw [f3 _ (by omega)]; exact c1, by rw [f4 _ (by simp only [List.mem_cons, List.not_mem_nil, or_false, not_or]; omega)]; exact c2⟩
  · obtain ⟨p1, p3, p4, p5, p6, p7⟩ := a11
    have np : ∀ {h g : Nat}, ¬ P g → (h = g ∨ 108 + (sS Sr).length ≤ h) → ¬ P h := fun hg hh c => by
      rcases hh with c2 | c2
      · exact hg (c2 ▸ c)
      · have := Qlt _ (p1 _ c).1
        omega
    exact ⟨fun a ha => ⟨Or.inl (p1 a ha).1, (p1 a ha).2⟩, np p3 hh.1, np p4 hh.2.1, np p5 hh.2.2.1, np p6 hh.2.2.2.1, np p7 hh.2.2.2.2⟩
end
