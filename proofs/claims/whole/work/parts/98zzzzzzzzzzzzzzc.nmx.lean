/-! CALLS OF CLASSES: the reference's names grow: what stands of its things -/
section
variable {Q Q' : Nat → Prop} {β β' : Nat → Nat} {F : Nat → Nat → Nat → Prop} {D : List Nat} {nn nn' g0 g1 h0 h1 n m p q k i t kd : Nat} {S S' W Sc Sr : cS} {kh kl ka kb : Int64} {kk : Int32}
/-- the names that were there are there -/
def nmK (S W : cS) (g0 g1 nn h0 h1 nn' : Nat) : Prop := nn ≤ nn' ∧ (∀ r, r < nn → rnH W h0 h1 r = rnH S g0 g1 r ∧ rnL W h0 h1 r = rnL S g0 g1 r) ∧ sL W 17 = sL S 17 ∧ sL W 18 = sL S 18
theorem nrel_nx (hn : nmK Sr W g0 g1 nn h0 h1 nn') {q r : Nat} (hr : r < nn) (h : nrel Sr g0 g1 q r) : nrel W h0 h1 q r := by
  obtain ⟨_, e, e17, e18⟩ := hn
  obtain ⟨e1, e2⟩ := e r hr
  obtain ⟨a1, a2⟩ := h
  exact ⟨by rw [e17, e1]; exact a1, by rw [e18, e2]; exact a2⟩
theorem keyR_nx (hn : nmK Sr W g0 g1 nn h0 h1 nn') (h : keyR β Sr g0 g1 nn kd kh kl kk ka kb) : keyR β W h0 h1 nn' kd kh kl kk ka kb := by
  unfold keyR at h ⊢
  by_cases c : kd = 2
  · rw [if_pos c] at h ⊢
    exact h
  · rw [if_neg c] at h ⊢
    obtain ⟨a1, a2, r, a3, a4, a5, a6⟩ := h
    obtain ⟨e1, e2⟩ := hn.2.1 r a3
    exact ⟨a1, a2, r, by have := hn.1; omega, a4, by rw [e1]; exact a5, by rw [e2]; exact a6⟩
theorem obR_nx (h : obR β F Sc Sr g0 g1 nn k) (e : thE Sr W (β k)) (hn : nmK Sr W g0 g1 nn h0 h1 nn') : obR β F Sc W h0 h1 nn' k := by
  obtain ⟨b1, b2, t, v2, v3, v4, v5, v6, v7, n, m, c1, c2, c3, c4, c5, c6, c7, c8, c9⟩ := h
  obtain ⟨d1, d2, d3, x2, x3, x4, x5, x6, x7⟩ := tRef_E c1 e
  refine ⟨b1, by rw [e.1]; exact b2, t, v2, v3, v4, v5, v6, v7, n, m, d1, by rw [d2 0 (by omega)]; exact c2, by rw [d2 1 (by omega)]; exact c3, c4, fun i hi => by rw [x2, x4, x5]; exact c5 i hi, fun hw => ⟨(c6 hw).1, fun i hi => by rw [x3, x6, x7]; exact keyR_nx hn ((c6 hw).2 i hi)⟩, by rw [d2 11 (by omega)]; exact c7, by rw [d2 12 (by omega)]; exact c8, fun h3 => ?_, fun h4 => ?_⟩
  · obtain ⟨f, m', j, rr, f1, f2, f3, f4, f5, f6, f7⟩ := c9.1 h3
    exact ⟨f, m', j, rr, f1, by rw [d3 8 (by omega)]; exact f2, by rw [d2 9 (by omega)]; exact f3, f4, f5, by rw [d2 10 (by omega)]; exact f6, f7⟩
  · obtain ⟨q, r, f1, f2, f3, f4⟩ := c9.2 h4
    exact ⟨q, r, f1, by rw [d2 10 (by omega)]; exact f2, by have := hn.1; omega, nrel_nx hn f3 f4⟩
theorem HR_nx (h : HR Q β F D Sc Sr g0 g1 nn) (hT : ∀ p, p < 1500 → thE Sr W p) (hn : nmK Sr W g0 g1 nn h0 h1 nn') (hWf : tWf Q' W) (hg : Q' h0 ∧ h0 ∉ [87, 89, 90] ∧ Q' h1 ∧ h1 ∉ [87, 89, 90]) : HR Q' β F D Sc W h0 h1 nn' := by
  obtain ⟨a1, a2, a3, a4, a5, a6, a7, a8, a9, a10, a11⟩ := h
  have e87 : ∀ p, p < 1500 → sA W 87 p = sA Sr 87 p := fun p hp => (hT p hp).1
  have hx : ∀ p, p < 1500 → sA Sr 87 p ≠ 0 → r_ok W p ∧ rtgs W p = rtgs Sr p := fun p hp h => r_ok_E (a8 p hp h).1 (hT p hp)
  refine ⟨fun k hk => obR_nx (a1 k hk) (hT _ (a1 k hk).1) hn, a2, fun p hp hp0 => a3 p hp (by rw [← e87 p hp]; exact hp0), a4, fun x hx' => ?_, List.Pairwise.imp_of_mem (fun {a b} ha hb' hab => ?_) a6, fun x hx' => ?_, fun p hp hp0 => ?_, hWf, hg, fun p hp => ?_⟩
  · obtain ⟨b1, b2, b3⟩ := a5 x hx'
    exact ⟨b1, by rw [e87 x b1]; exact b2, b3⟩
  · obtain ⟨b1, b2, b3⟩ := a5 b hb'
    rw [(hx b b1 b2).2]
    exact hab
  · obtain ⟨b1, b2, b3⟩ := a5 x hx'
    rw [(hx x b1 b2).2]
    exact a7 x hx'
  · rw [e87 p hp] at hp0
    obtain ⟨c1, c2⟩ := hx p hp hp0
    exact ⟨c1, by rw [c2]; exact (a8 p hp hp0).2⟩
  · rw [e87 p hp]
    exact a11 p hp
end
/-- the reference's names alone have grown -/
def nmF (g0 g1 g3 g4 g5 : Nat) (S W : cS) : Prop := sJ W = sJ S ∧ sQ W = sQ S ∧ (∀ i, i ≠ 6102 → sI W i = sI S i) ∧ (∀ i, i ∉ [6100, 6101, 6103, 6104, 6105] → sV W i = sV S i) ∧ (∃ l, sS W = sS S ++ l) ∧ (∀ a, a < 108 + (sS S).length → a ≠ g0 → a ≠ g1 → a ≠ g3 → sA W a = sA S a) ∧ ∀ a, a < 108 + (sS S).length → a ≠ g4 → a ≠ g5 → sL W a = sL S a
section
variable {P : Nat → Prop} {T : cS} {gT : Nat} {Q Q' : Nat → Prop} {β β' : Nat → Nat} {F : Nat → Nat → Nat → Prop} {D : List Nat} {z nn nn' g0 g1 g3 g4 g5 gn h0 h1 h3 h4 h5 hn n m p q k i t kd a : Nat} {tq : Nat → Nat × Nat} {C : List Lv} {S S' W Sc Sr : cS}
theorem isK_lim {t N : Nat} (h : isK S a t N) : a < 108 + (sS S).length := by
  rcases h with ⟨c, _⟩ | ⟨c, d⟩
  · omega
  · have := (List.getElem?_eq_some_iff.mp d).1
    omega
theorem nmF_th (hF : nmF g0 g1 g3 g4 g5 Sr W) (hQ : tWf Q Sr) (hq : Q g0 ∧ Q g1 ∧ Q g3 ∧ Q g4 ∧ Q g5) (h87 : g0 ≠ 87 ∧ g1 ≠ 87 ∧ g3 ≠ 87) : ∀ p, p < 1500 → thE Sr W p := by
  obtain ⟨f1, f2, f3, f4, f5, f6, f7⟩ := hF
  intro p hp
  refine ⟨by rw [f6 87 (by omega) (by omega) (by omega) (by omega)], by rw [f2], f5, fun t ht => ?_⟩
  have hok := hQ.1 p t hp ht
  obtain ⟨t1, t2, _⟩ := tOk_t hok
  have hnq := hQ.2.2.2.1
  refine ⟨fun i hi => ⟨f3 _ (by omega), f4 _ (by simp only [List.mem_cons, List.not_mem_nil, or_false, not_or]; omega)⟩, fun f v h2 h7 hv => ?_⟩
  have hv' := hnq p t f v hp ht h2 h7 hv
  have hlt : v < 108 + (sS Sr).length := by
    obtain ⟨v2, v3, v4, v5, v6, v7, n, m, c1, _⟩ := hok
    obtain ⟨d1, d2, d3, e2, e3, e4, e5, e6, e7, k2, k3, k4, k5, k6, k7, _⟩ := c1
    have hf : f = 2 ∨ f = 3 ∨ f = 4 ∨ f = 5 ∨ f = 6 ∨ f = 7 := by omega
    rcases hf with c | c | c | c | c | c
    · subst c; rw [e2] at hv; injection hv with hv; subst hv; exact isK_lim k2
    · subst c; rw [e3] at hv; injection hv with hv; subst hv; exact isK_lim k3
    · subst c; rw [e4] at hv; injection hv with hv; subst hv; exact isK_lim k4
    · subst c; rw [e5] at hv; injection hv with hv; subst hv; exact isK_lim k5
    · subst c; rw [e6] at hv; injection hv with hv; subst hv; exact isK_lim k6
    · subst c; rw [e7] at hv; injection hv with hv; subst hv; exact isK_lim k7
  have ne : ∀ g, Q g → v ≠ g := fun g hg c => hv' (c ▸ hg)
  exact ⟨f6 v hlt (ne _ hq.1) (ne _ hq.2.1) (ne _ hq.2.2.1), f7 v hlt (ne _ hq.2.2.2.1) (ne _ hq.2.2.2.2)⟩
theorem tOk_nx {p t : Nat} (h : tOk Sr p t) (e : thE Sr W p) : tOk W p t := by
  obtain ⟨v2, v3, v4, v5, v6, v7, n, m, c1, c2, c3, c4⟩ := h
  obtain ⟨d1, d2, d3, x2, x3, x4, x5, x6, x7⟩ := tRef_E c1 e
  exact ⟨v2, v3, v4, v5, v6, v7, n, m, d1, c2, c3, fun j hj => by rw [x3]; exact c4 j hj⟩
theorem tc_nx {p t : Nat} (h : tOk Sr p t) (e : thE Sr W p) : tcC W p = tcC Sr p ∧ tcN W p = tcN Sr p := by
  obtain ⟨v2, v3, v4, v5, v6, v7, n, m, c1, c2, c3, c4⟩ := h
  obtain ⟨d1, _⟩ := tRef_E c1 e
  have a1 := tc_ref c1
  have a2 := tc_ref d1
  exact ⟨a2.1.trans a1.1.symm, a2.2.trans a1.2.symm⟩
theorem rt_nx (hQ : tWf Q Sr) (hE : ∀ p, p < 1500 → thE Sr W p) (f2 : sQ W = sQ Sr) : rtC W = rtC Sr ∧ rtN W = rtN Sr := by
  have key : ∀ p, p < 1500 → tcC W p = tcC Sr p ∧ tcN W p = tcN Sr p := fun p hp => by
    cases ht : sQ Sr 86 p with
    | some t => exact tc_nx (hQ.1 p t hp ht) (hE p hp)
    | none =>
      have ht' : sQ W 86 p = none := by rw [f2]; exact ht
      unfold tcC tcN
      rw [ht, ht']
      exact ⟨rfl, rfl⟩
  exact ⟨sumN_congr (fun p hp => (key p hp).1), sumN_congr (fun p hp => (key p hp).2)⟩
end
