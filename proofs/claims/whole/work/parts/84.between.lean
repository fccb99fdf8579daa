/-! BETWEEN CALLS: names, objects and tapes of both in step -/
/-- a name's object exists -/
def nmLv (S : cS) : Prop := ∀ q, q < 4096 → ∃ o, o ≤ 1500 ∧ c_obj (sL S 21 q) (sL S 22 q) = nI o ∧ (o = 0 ∨ lv S o)
theorem GR_b {β : Nat → Nat} {D : List Nat} {S : cS} {k : Nat} (hG : GR β D S) (hk : lv S k) : β k < 1500 := (hG.1 k hk).1
theorem r_o_n {kd : Int32} {a : Int64} {o : Nat} (h : kd = nI 3) (ha : a = lN o) (ho : o < 1500) : r_o kd a = o + 1 := by
  unfold r_o
  rw [if_pos h, ha, lN_i, gN_nI (by omega)]
/-- what a name of the reference holds -/
theorem NM_o {β : Nat → Nat} {D : List Nat} {S : cS} {z nn g0 g1 g3 g4 g5 r : Nat} (h : NM β S z nn g0 g1 g3 g4 g5) (hz : z ≤ 4096) (hG : GR β D S) (hL : nmLv S) (hr : r < nn) : r_obj (sA S g3 r) (sL S g4 r) ∧ (r_o (sA S g3 r) (sL S g4 r) = 0 ∨ ∃ k, lv S k ∧ r_o (sA S g3 r) (sL S g4 r) = β k + 1) := by
  obtain ⟨n1, n2, n3, n4, n5, n6⟩ := h
  by_cases hex : ∃ q, q < z ∧ nrel S g0 g1 q r
  · obtain ⟨q, hq, hqr⟩ := hex
    obtain ⟨o, o1, o2, o3⟩ := vrel_ob (n3 r q hr hq hqr)
    obtain ⟨o', p1, p2, p3⟩ := hL q (by omega)
    rw [o2] at p2
    have eo : o = o' := by
      have := congrArg gN p2
      rw [gN_nI (by omega), gN_nI (by omega)] at this
      exact this
    subst eo
    rcases o3 with ⟨c1, c2⟩ | ⟨c1, c2, c3⟩
    · exact ⟨fun c => absurd c c2, Or.inl (if_neg c2)⟩
    · have hl := p3.resolve_left (by omega)
      have hb := GR_b hG hl
      exact ⟨fun _ => ⟨β o, hb, by rw [c3, lN_i]⟩, Or.inr ⟨o, hl, r_o_n c2 c3 hb⟩⟩
  · have := n4 r hr (fun q hq hqr => hex ⟨q, hq, hqr⟩)
    rw [this]
    exact ⟨fun c => absurd c (by decide), Or.inl (if_neg (by decide))⟩
theorem seqN_in {f : Nat → Nat} {j : Nat} : ∀ {r i : Nat}, i ≤ j → j < i + r → f j ∈ seqN f i r := by
  intro r
  induction r with
  | zero => intro i h1 h2; omega
  | succ r ih =>
    intro i h1 h2
    by_cases e : i = j
    · subst e; exact List.mem_cons_self
    · exact List.mem_cons_of_mem _ (ih (by omega) (by omega))
def bw (own : Nat → Nat × Nat) (β : Nat → Nat) (D : List Nat) (z nn g0 g1 g3 g4 g5 gn : Nat) (S : cS) : Prop := c_NT S z ∧ 35 ≤ z ∧ Wd S ∧ RN own S nn g0 g1 g3 g4 g5 gn ∧ (∀ i, fits .byte (.int (sA S g0 i)) = true) ∧ NM β S z nn g0 g1 g3 g4 g5 ∧ OW own S ∧ GR β D S ∧ Hp no_e (nmE S) no_e S ∧ Hd no_e (nmE S) no_e S ∧ sI S 1608 = nI (nmB S) ∧ nmLv S ∧ sI S 6151 = nI 0 ∧ sI S 6159 = nI 0 ∧ (∀ j, j < 1500 → sA S 87 j ≠ 0 → (rtgs S j).length ≤ 1000) ∧ (∀ p t, p < 1500 → sQ S 86 p = some t → 108 ≤ t)
theorem bw_wk {S : cS} (h1 : sI S 6151 = nI 0) (h2 : sI S 6159 = nI 0) : wkL S = [] ∧ r_wk S := by
  unfold wkL
  rw [h1, h2, gN_nI (by decide)]
  exact ⟨rfl, 0, 0, h1, by omega, fun i hi => by omega, h2, by omega, fun i hi => by omega⟩
theorem bw_nmL {own : Nat → Nat × Nat} {S : cS} {nn g0 g1 g3 g4 g5 gn : Nat} (h : RN own S nn g0 g1 g3 g4 g5 gn) (hgn : gn < 2 ^ 18) : nmL S = seqN (fun i => r_o (sA S g3 i) (sL S g4 i)) 0 nn := by
  obtain ⟨q1, q2, q3, q4, q5, q6, k0, k1, k3, k4, k5, qn, _⟩ := h
  unfold nmL
  rw [r_ref_e q4, r_ref_e q5, q1, gN_nI (by omega)]
theorem bw_W {own : Nat → Nat × Nat} {β : Nat → Nat} {D : List Nat} {S : cS} {z nn g0 g1 g3 g4 g5 gn : Nat} (h : bw own β D z nn g0 g1 g3 g4 g5 gn S) (hgn : gn < 2 ^ 18) : r_W S ∧ RR β (nmE S) no_e S ∧ rSm S := by
  obtain ⟨hN, h35, hWd, hR, hft, hNM, hO, hG, hH, hD, hB, hL, hs, hc, hln, hth⟩ := h
  obtain ⟨wk1, wk2⟩ := bw_wk hs hc
  have hnl := bw_nmL hR hgn
  have hz := hN.2.1
  have ho := fun r hr => NM_o hNM hz hG hL (r := r) hr
  obtain ⟨q1, q2, q3, q4, q5, q6, k0, k1, k3, k4, k5, qn, q64, o0, o1, o3, o4, o5⟩ := hR
  refine ⟨⟨hG.2.2.2.2.2.2.2.2, ⟨nn, g3, g4, gn, q1, q4, q5, k3, k4, qn, by omega, fun hm => ?_, fun i hi => (ho i hi).1⟩, wk2⟩, ⟨fun o hm => ?_, fun k hk hp => ?_⟩, hln, fun k hk => ?_⟩
  · have : (own g3).1 = 0 := hO.2.1 g3 (by
      rcases List.mem_cons.mp hm with e | hm
      · omega
      · rcases List.mem_cons.mp hm with e | hm
        · omega
        · rcases List.mem_cons.mp hm with e | hm
          · omega
          · have := List.mem_singleton.mp hm; omega) (by
      rcases List.mem_cons.mp hm with e | hm
      · omega
      · rcases List.mem_cons.mp hm with e | hm
        · omega
        · rcases List.mem_cons.mp hm with e | hm
          · omega
          · have := List.mem_singleton.mp hm; omega) (fun e => by rw [e] at hm; exact absurd hm (by decide)) (fun e => by rw [e] at hm; exact absurd hm (by decide))
    omega
  · rw [wk1, hnl] at hm
    rcases hm with hm | hm
    · obtain ⟨i, _, hi, e⟩ := seqN_mem hm
      rcases (ho i (by omega)).2 with h | ⟨k, hk, h⟩
      · exact Or.inl (e.trans h)
      · exact Or.inr ⟨k, hk, e.trans h⟩
    · cases hm
  · refine Or.inl ?_
    rw [hnl]
    have hp' : 0 < nmE S k := by unfold no_e at hp; omega
    obtain ⟨q, hq, hq2⟩ := sumN_ex hp'
    by_cases hob : ob (sL S 21 q) (sL S 22 q) = k
    · have hk0 := hk.1
      have hne : ¬ (sL S 21 q = 0 ∧ sL S 22 q = 0) := fun e => by
        rw [e.1, e.2] at hob
        have : ob 0 0 = 0 := by decide
        omega
      have hqz : q < z := by
        rcases Nat.lt_or_ge q z with c | c
        · exact c
        · exact absurd (hNM.2.2.2.2.2 q c hq) hne
      by_cases hex : ∃ r, r < nn ∧ nrel S g0 g1 q r
      · obtain ⟨r, hr, hqr⟩ := hex
        obtain ⟨o, c1, c2, c3⟩ := vrel_ob (hNM.2.2.1 r q hr hqz hqr)
        rw [ob_n c2 c1] at hob
        subst hob
        rcases c3 with ⟨d1, _⟩ | ⟨d1, d2, d3⟩
        · omega
        · have e := r_o_n d2 d3 (GR_b hG hk)
          rw [← e]
          exact seqN_in (f := fun i => r_o (sA S g3 i) (sL S g4 i)) (Nat.zero_le r) (by omega)
      · exact absurd (hNM.2.2.2.2.1 q hqz (fun r hr hqr => hex ⟨r, hr, hqr⟩)) hne
    · rw [if_neg hob] at hq2; omega
  · unfold rRoot
    rw [wk1, hnl, List.count_nil]
    have := List.count_le_length (a := k + 1) (l := seqN (fun i => r_o (sA S g3 i) (sL S g4 i)) 0 nn)
    rw [seqN_len] at this
    omega
/-- as many names are bound in both -/
theorem bw_bound {own : Nat → Nat × Nat} {β : Nat → Nat} {D : List Nat} {S : cS} {z nn g0 g1 g3 g4 g5 gn : Nat} (h : bw own β D z nn g0 g1 g3 g4 g5 gn S) : rBound S g3 nn = nmB S := by
  obtain ⟨hN, h35, hWd, hR, hft, hNM, hO, hG, hH, hD, hB, hL, hs, hc, hln, hth⟩ := h
  obtain ⟨n1, n2, n3, n4, n5, n6⟩ := hNM
  have hz := hN.2.1
  have hq : ∀ r, r < nn → sA S g3 r ≠ Int32.ofInt (-1) → ∃ q, q < z ∧ nrel S g0 g1 q r := fun r hr hne => by
    apply Classical.byContradiction
    intro hc
    exact hne (n4 r hr (fun q hq hqr => hc ⟨q, hq, hqr⟩))
  have e1 : rBound S g3 nn = sumN (fun r => if decide (sA S g3 r ≠ Int32.ofInt (-1)) = true then 1 else 0) nn := sumN_congr (fun r _ => by
    show (if sA S g3 r = Int32.ofInt (-1) then 0 else 1) = if decide (sA S g3 r ≠ Int32.ofInt (-1)) = true then 1 else 0
    rw [← if_dec]
    by_cases h : sA S g3 r = Int32.ofInt (-1)
    · rw [if_pos h, if_neg (fun c => c h)]
    · rw [if_neg h, if_pos h])
  have e2 : nmB S = sumN (fun q => if decide (c_kind (sL S 21 q) ≠ 0) = true then 1 else 0) 4096 := sumN_congr (fun q _ => by
    show (if c_kind (sL S 21 q) = 0 then 0 else 1) = if decide (c_kind (sL S 21 q) ≠ 0) = true then 1 else 0
    rw [← if_dec]
    by_cases h : c_kind (sL S 21 q) = 0
    · rw [if_pos h, if_neg (fun c => c h)]
    · rw [if_neg h, if_pos h])
  rw [e1, e2]
  have key : ∀ r, ∃ q, r < nn → sA S g3 r ≠ Int32.ofInt (-1) → q < z ∧ nrel S g0 g1 q r := fun r => by
    by_cases hr : r < nn ∧ sA S g3 r ≠ Int32.ofInt (-1)
    · obtain ⟨q, h1, h2⟩ := hq r hr.1 hr.2
      exact ⟨q, fun _ _ => ⟨h1, h2⟩⟩
    · exact ⟨0, fun a b => absurd ⟨a, b⟩ hr⟩
  refine same_count (β := fun r => Classical.choose (key r)) ?_ ?_ ?_
  · intro r hr hP
    have hP := of_decide_eq_true hP
    obtain ⟨a1, a2⟩ := Classical.choose_spec (key r) hr hP
    exact ⟨by show Classical.choose (key r) < 4096; omega, decide_eq_true (fun c => hP ((vrel_kind (n3 r _ hr a1 a2)).1.mp c))⟩
  · intro r s hr hs hP hQ e
    have hP := of_decide_eq_true hP
    have hQ := of_decide_eq_true hQ
    obtain ⟨a1, a2⟩ := Classical.choose_spec (key r) hr hP
    obtain ⟨b1, b2⟩ := Classical.choose_spec (key s) hs hQ
    have e' : Classical.choose (key r) = Classical.choose (key s) := e
    rw [e'] at a2
    exact n2 r s hr hs (a2.1.symm.trans b2.1) (a2.2.symm.trans b2.2)
  · intro q hq hQ
    have hQ := of_decide_eq_true hQ
    have hqz : q < z := by
      rcases Nat.lt_or_ge q z with c | c
      · exact c
      · rw [(n6 q c hq).1] at hQ; exact absurd (by decide) hQ
    have hex : ∃ r, r < nn ∧ nrel S g0 g1 q r := by
      apply Classical.byContradiction
      intro hc
      rw [(n5 q hqz (fun r hr hqr => hc ⟨r, hr, hqr⟩)).1] at hQ
      exact absurd (by decide) hQ
    obtain ⟨r, hr, hqr⟩ := hex
    have hne : sA S g3 r ≠ Int32.ofInt (-1) := fun c => hQ ((vrel_kind (n3 r q hr hqz hqr)).1.mpr c)
    obtain ⟨a1, a2⟩ := Classical.choose_spec (key r) hr hne
    exact ⟨r, hr, decide_eq_true hne, hN.2.2.1 _ q a1 hqz (a2.1.trans hqr.1.symm) (a2.2.trans hqr.2.symm)⟩
