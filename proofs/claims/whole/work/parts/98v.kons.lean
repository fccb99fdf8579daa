/-! THE REFERENCE'S CODE: its numbers and texts grow one at a time -/
def vR (S : cS) (i : Nat) : Nat := match sV S i with
  | .ref g => g
  | _ => 0
theorem vR_eq {S : cS} {i g : Nat} (h : sV S i = .ref g) : vR S i = g := by
  unfold vR
  rw [h]
/-- number i, the halves of text i -/
def cWh (S : cS) (m i : Nat) : Int64 := sL S (vR S (100 * m + 2)) i
def cFi (S : cS) (m i : Nat) : Int64 := sL S (vR S (100 * m + 3)) i
def cSe (S : cS) (m i : Nat) : Int64 := sL S (vR S (100 * m + 4)) i
def RCw (own : Nat → Nat × Nat) (m u k N : Nat) (S : cS) : Prop := 108 ≤ m ∧ (sS S)[m - 108]? = some (12, u) ∧ sI S (100 * m + 5) = nI k ∧ k ≤ N ∧ 8 ≤ N ∧ N ≤ 8 + 2 * k ∧ ∃ g : Nat, sV S (100 * m + 2) = .ref g ∧ isK S g 1 N ∧ (own g).1 = 27
def RCt (own : Nat → Nat × Nat) (m u k N : Nat) (S : cS) : Prop := 108 ≤ m ∧ (sS S)[m - 108]? = some (12, u) ∧ sI S (100 * m + 6) = nI k ∧ k ≤ N ∧ 8 ≤ N ∧ N ≤ 8 + 2 * k ∧ ∃ g f : Nat, sV S (100 * m + 3) = .ref g ∧ sV S (100 * m + 4) = .ref f ∧ isK S g 1 N ∧ isK S f 1 N ∧ (own g).1 = 28 ∧ (own f).1 = 29
theorem cwhole_T {own : Nat → Nat × Nat} {d m u k N : Nat} {w : Int64} {S : cS} (h : RCw own m u k N S) (hk : k < 2 ^ 18) : ∃ S' own' N', Ans (d + 3) 320 [.ref m, .long w] S (some (.int (nI k))) S' ∧ RCw own' m u (k + 1) N' S' ∧ (∀ i, i < k → cWh S' m i = cWh S m i) ∧ cWh S' m k = w ∧ FrO own [] [27] [100 * m + 5] [100 * m + 2] S S' ∧ (∀ a, a < 108 + (sS S).length → own' a = own a) ∧ mu S' + 2 * N = mu S + 2 * N' ∧ (sS S').length + N ≤ (sS S).length + N' := by
  obtain ⟨hm, hs, hk1, hkN, h64, hN2, g, hv, hg, ho⟩ := h
  by_cases hlt : k < N
  · refine ⟨_, own, N, Ans.up (by omega) (cwhole_fit (d := 0) (w := w) hm hs hv hg hk1 hlt (by omega) (cwhole_tail hm hs hv hg hk1 hlt (by omega))), ⟨hm, hs, rIe _ _ _, by omega, h64, by omega, g, hv, isK_S rfl hg, ho⟩, fun i hi => ?_, ?_, ⟨rfl, rfl, fun i hi => ?_, fun _ _ => rfl, ⟨[], (List.append_nil _).symm⟩, fun _ _ _ => rfl, fun a _ h2 => ?_⟩, fun _ _ => rfl, rfl, Nat.le_refl _⟩
    · unfold cWh
      rw [vR_eq hv, vR_eq (by exact hv)]
      show sL (wL g k w S) g i = _
      rw [rLe, vp_at, if_neg (by omega)]
    · unfold cWh
      rw [vR_eq (by exact hv)]
      show sL (wL g k w S) g k = _
      rw [rLe, vp_at, if_pos rfl]
    · have hi2 : i ≠ 100 * m + 5 := fun e => hi (by rw [e]; exact List.mem_singleton.mpr rfl)
      exact rIn _ _ hi2
    · have h3 : a ≠ g := fun e => h2 (by rw [e, ho]; decide)
      exact rLn _ _ _ h3
  · obtain rfl : k = N := by omega
    have hC := copyOfL (d := d) (n := 2 * k) hg (by omega) (by omega)
    have hs1 : (sS (newL (2 * k) (cpL (sL S g) k) S))[m - 108]? = some (12, u) := sS_old (l := [(1, 2 * k)]) rfl hs
    have hv2 : sV (wV (100 * m + 2) (.ref (108 + (sS S).length)) (newL (2 * k) (cpL (sL S g) k) S)) (100 * m + 2) = .ref (108 + (sS S).length) := by rw [rV, if_pos rfl]
    have hk2 : isK (grL (100 * m + 2) (2 * k) g k S) (108 + (sS S).length) 1 (2 * k) := grL_k
    have hlen : (sS (grL (100 * m + 2) (2 * k) g k S)).length = (sS S).length + 1 := by rw [grL_S, List.length_append]; rfl
    have hmo : m < 108 + (sS S).length := by
      have := List.getElem?_eq_some_iff.mp hs
      obtain ⟨h1, _⟩ := this
      omega
    have hgl : g < 108 + (sS S).length := isK_lt hg
    have hB := cwhole_tail (d := d + 2) (w := w) (S := wV (100 * m + 2) (.ref (108 + (sS S).length)) (newL (2 * k) (cpL (sL S g) k) S)) (u := u) (N := 2 * k) (k := k) hm hs1 hv2 hk2 hk1 (by omega) (by omega)
    refine ⟨_, fun a => if a = 108 + (sS S).length then (27, 0) else own a, 2 * k, cwhole_more hm hs hs1 hv hg hk1 (by omega) hC hB, ⟨hm, hs1, rIe _ _ _, by omega, by omega, by omega, 108 + (sS S).length, hv2, isK_S rfl hk2, by
      show (if 108 + (sS S).length = 108 + (sS S).length then (27, 0) else own (108 + (sS S).length)).1 = 27
      rw [if_pos rfl]⟩, fun i hi => ?_, ?_, ⟨rfl, rfl, fun i hi => ?_, fun i hi => ?_, ⟨[(1, 2 * k)], rfl⟩, fun _ _ _ => rfl, fun a h1 h2 => ?_⟩, fun a ha => if_neg (by omega), ?_, ?_⟩
    · unfold cWh
      rw [vR_eq (g := 108 + (sS S).length) (by exact hv2), vR_eq hv]
      show sL (wL (108 + (sS S).length) k w (grL (100 * m + 2) (2 * k) g k S)) (108 + (sS S).length) i = _
      rw [rLe, vp_at, if_neg (by omega), grL_L, if_pos rfl, cpL_at hi]
    · unfold cWh
      rw [vR_eq (g := 108 + (sS S).length) (by exact hv2)]
      show sL (wL (108 + (sS S).length) k w (grL (100 * m + 2) (2 * k) g k S)) (108 + (sS S).length) k = _
      rw [rLe, vp_at, if_pos rfl]
    · have hi2 : i ≠ 100 * m + 5 := fun e => hi (by rw [e]; exact List.mem_singleton.mpr rfl)
      exact rIn _ _ hi2
    · have hi2 : i ≠ 100 * m + 2 := fun e => hi (by rw [e]; exact List.mem_singleton.mpr rfl)
      show sV (grL (100 * m + 2) (2 * k) g k S) i = _
      rw [grL_V, if_neg hi2]
    · show sL (wL (108 + (sS S).length) k w (grL (100 * m + 2) (2 * k) g k S)) a = _
      rw [rLn _ _ _ (show a ≠ 108 + (sS S).length by omega), grL_L, if_neg (by omega)]
    · show mu (grL (100 * m + 2) (2 * k) g k S) + 2 * k = _
      rw [grL_m]
      omega
    · show (sS (grL (100 * m + 2) (2 * k) g k S)).length + k ≤ _
      rw [hlen]
      omega
theorem cstr_T {own : Nat → Nat × Nat} {d m u k N : Nat} {a b : Int64} {S : cS} (h : RCt own m u k N S) (hk : k < 2 ^ 18) : ∃ S' own' N', Ans (d + 3) 321 [.ref m, .long a, .long b] S (some (.int (nI k))) S' ∧ RCt own' m u (k + 1) N' S' ∧ (∀ i, i < k → cFi S' m i = cFi S m i ∧ cSe S' m i = cSe S m i) ∧ cFi S' m k = a ∧ cSe S' m k = b ∧ FrO own [] [28, 29] [100 * m + 6] [100 * m + 3, 100 * m + 4] S S' ∧ (∀ a, a < 108 + (sS S).length → own' a = own a) ∧ mu S' + 4 * N = mu S + 4 * N' ∧ (sS S').length + N ≤ (sS S).length + N' := by
  obtain ⟨hm, hs, hk1, hkN, h64, hN2, g, f, hv, hvf, hg, hf, ho, hof⟩ := h
  have hgf : g ≠ f := fun e => by rw [e, hof] at ho; cases ho
  by_cases hlt : k < N
  · refine ⟨_, own, N, Ans.up (by omega) (cstr_fit (d := 0) (a := a) (b := b) hm hs hv hvf hg hf hk1 hlt (by omega) (cstr_tail hm hs hv hvf hg hf hk1 hlt (by omega))), ⟨hm, hs, rIe _ _ _, by omega, h64, by omega, g, f, hv, hvf, isK_S rfl hg, isK_S rfl hf, ho, hof⟩, fun i hi => ?_, ?_, ?_, ⟨rfl, rfl, fun i hi => ?_, fun _ _ => rfl, ⟨[], (List.append_nil _).symm⟩, fun _ _ _ => rfl, fun c _ h2 => ?_⟩, fun _ _ => rfl, rfl, Nat.le_refl _⟩
    · unfold cFi cSe
      rw [vR_eq hv, vR_eq hvf, vR_eq (by exact hv), vR_eq (by exact hvf)]
      constructor
      · show sL (wL f k b (wL g k a S)) g i = _
        rw [rLn _ _ _ hgf, rLe, vp_at, if_neg (by omega)]
      · show sL (wL f k b (wL g k a S)) f i = _
        rw [rLe, vp_at, if_neg (by omega), rLn _ _ _ (Ne.symm hgf)]
    · unfold cFi
      rw [vR_eq (by exact hv)]
      show sL (wL f k b (wL g k a S)) g k = _
      rw [rLn _ _ _ hgf, rLe, vp_at, if_pos rfl]
    · unfold cSe
      rw [vR_eq (by exact hvf)]
      show sL (wL f k b (wL g k a S)) f k = _
      rw [rLe, vp_at, if_pos rfl]
    · have hi2 : i ≠ 100 * m + 6 := fun e => hi (by rw [e]; exact List.mem_singleton.mpr rfl)
      exact rIn _ _ hi2
    · have h3 : c ≠ g := fun e => h2 (by rw [e, ho]; decide)
      have h4 : c ≠ f := fun e => h2 (by rw [e, hof]; decide)
      show sL (wL f k b (wL g k a S)) c = _
      rw [rLn _ _ _ h4, rLn _ _ _ h3]
  · obtain rfl : k = N := by omega
    have hC := copyOfL (d := d) (n := 2 * k) hg (by omega) (by omega)
    have hs1 : (sS (newL (2 * k) (cpL (sL S g) k) S))[m - 108]? = some (12, u) := sS_old (l := [(1, 2 * k)]) rfl hs
    obtain ⟨S1, hS1⟩ : ∃ S1, S1 = grL (100 * m + 3) (2 * k) g k S := ⟨_, rfl⟩
    have hlen1 : (sS S1).length = (sS S).length + 1 := by rw [hS1, grL_S, List.length_append]; rfl
    have hsS1 : (sS S1)[m - 108]? = some (12, u) := by rw [hS1]; exact hs1
    have hf1 : isK S1 f 1 k := by rw [hS1]; exact grL_o hf
    have hvf1 : sV S1 (100 * m + 4) = .ref f := by rw [hS1, grL_V, if_neg (by omega)]; exact hvf
    have hv1 : sV S1 (100 * m + 3) = .ref (108 + (sS S).length) := by rw [hS1, grL_V, if_pos rfl]
    have hk11 : sI S1 (100 * m + 6) = nI k := by rw [hS1]; exact hk1
    have hg1 : isK S1 (108 + (sS S).length) 1 (2 * k) := by rw [hS1]; exact grL_k
    have hC2 := copyOfL (d := d) (n := 2 * k) hf1 (by omega) (by omega)
    have hs2 : (sS (newL (2 * k) (cpL (sL S1 f) k) S1))[m - 108]? = some (12, u) := sS_old (l := [(1, 2 * k)]) rfl hsS1
    obtain ⟨S2, hS2⟩ : ∃ S2, S2 = grL (100 * m + 4) (2 * k) f k S1 := ⟨_, rfl⟩
    have hlen2 : (sS S2).length = (sS S).length + 2 := by rw [hS2, grL_S, List.length_append, hlen1]; rfl
    have hsS2 : (sS S2)[m - 108]? = some (12, u) := by rw [hS2]; exact hs2
    have hv2 : sV S2 (100 * m + 3) = .ref (108 + (sS S).length) := by rw [hS2, grL_V, if_neg (by omega)]; exact hv1
    have hvf2 : sV S2 (100 * m + 4) = .ref (108 + (sS S1).length) := by rw [hS2, grL_V, if_pos rfl]
    have hg2 : isK S2 (108 + (sS S).length) 1 (2 * k) := by rw [hS2]; exact grL_o hg1
    have hf2 : isK S2 (108 + (sS S1).length) 1 (2 * k) := by rw [hS2]; exact grL_k
    have hk12 : sI S2 (100 * m + 6) = nI k := by rw [hS2]; exact hk11
    have hB := cstr_tail (d := d + 2) (a := a) (b := b) (N := 2 * k) hm hsS2 hv2 hvf2 hg2 hf2 hk12 (by omega) (by omega)
    have hB1 := cstr_more2 (a := a) (b := b) hm hsS1 hs2 hvf1 hf1 hk11 (by omega) hC2 (by rw [hS2] at hB; exact hB)
    have hB0 := cstr_more (a := a) (b := b) hm hs hs1 hv hg hk1 (by omega) hC (by rw [hS1] at hB1; exact hB1)
    have hmo : m < 108 + (sS S).length := by
      have := List.getElem?_eq_some_iff.mp hs
      obtain ⟨h1, _⟩ := this
      omega
    have hgl : g < 108 + (sS S).length := isK_lt hg
    have hfl : f < 108 + (sS S).length := isK_lt hf
    have e2 : grL (100 * m + 4) (2 * k) f k (grL (100 * m + 3) (2 * k) g k S) = S2 := by rw [hS2, hS1]
    have e1 : grL (100 * m + 3) (2 * k) g k S = S1 := hS1.symm
    have hL2 : ∀ c, sL S2 c = if c = 108 + (sS S1).length then cpL (sL S1 f) k else if c = 108 + (sS S).length then cpL (sL S g) k else sL S c := fun c => by
      rw [hS2, grL_L]
      by_cases h1 : c = 108 + (sS S1).length
      · rw [if_pos h1, if_pos h1]
      · rw [if_neg h1, if_neg h1, hS1, grL_L]
    have hL1f : sL S1 f = sL S f := by rw [hS1, grL_L, if_neg (show ¬ f = 108 + (sS S).length by omega)]
    have ne12 : 108 + (sS S).length ≠ 108 + (sS S1).length := by omega
    have hw3 : vR (wI (100 * m + 6) (nI (k + 1)) (wL (108 + (sS S1).length) k b (wL (108 + (sS S).length) k a S2))) (100 * m + 3) = 108 + (sS S).length := vR_eq (show sV S2 (100 * m + 3) = _ from hv2)
    have hw4 : vR (wI (100 * m + 6) (nI (k + 1)) (wL (108 + (sS S1).length) k b (wL (108 + (sS S).length) k a S2))) (100 * m + 4) = 108 + (sS S1).length := vR_eq (show sV S2 (100 * m + 4) = _ from hvf2)
    refine ⟨wI (100 * m + 6) (nI (k + 1)) (wL (108 + (sS S1).length) k b (wL (108 + (sS S).length) k a S2)), fun c => if c = 108 + (sS S).length then (28, 0) else if c = 108 + (sS S1).length then (29, 0) else own c, 2 * k, by rw [hS2, hS1]; exact hB0, ⟨hm, hsS2, rIe _ _ _, by omega, by omega, by omega, 108 + (sS S).length, 108 + (sS S1).length, hv2, hvf2, isK_S rfl hg2, isK_S rfl hf2, ?_, ?_⟩, fun i hi => ?_, ?_, ?_, ⟨?_, ?_, fun i hi => ?_, fun i hi => ?_, ⟨[(1, 2 * k), (1, 2 * k)], ?_⟩, fun c _ _ => ?_, fun c h1 h2 => ?_⟩, fun c hc => ?_, ?_, ?_⟩
    · show (if 108 + (sS S).length = 108 + (sS S).length then (28, 0) else if 108 + (sS S).length = 108 + (sS S1).length then (29, 0) else own (108 + (sS S).length)).1 = 28
      rw [if_pos rfl]
    · show (if 108 + (sS S1).length = 108 + (sS S).length then (28, 0) else if 108 + (sS S1).length = 108 + (sS S1).length then (29, 0) else own (108 + (sS S1).length)).1 = 29
      rw [if_neg (Ne.symm ne12), if_pos rfl]
    · unfold cFi cSe
      rw [hw3, hw4, vR_eq hv, vR_eq hvf]
      constructor
      · show sL (wL (108 + (sS S1).length) k b (wL (108 + (sS S).length) k a S2)) (108 + (sS S).length) i = _
        rw [rLn _ _ _ ne12, rLe, vp_at, if_neg (by omega), hL2, if_neg ne12, if_pos rfl, cpL_at hi]
      · show sL (wL (108 + (sS S1).length) k b (wL (108 + (sS S).length) k a S2)) (108 + (sS S1).length) i = _
        rw [rLe, vp_at, if_neg (by omega), rLn _ _ _ (Ne.symm ne12), hL2, if_pos rfl, cpL_at hi, hL1f]
    · unfold cFi
      rw [hw3]
      show sL (wL (108 + (sS S1).length) k b (wL (108 + (sS S).length) k a S2)) (108 + (sS S).length) k = _
      rw [rLn _ _ _ ne12, rLe, vp_at, if_pos rfl]
    · unfold cSe
      rw [hw4]
      show sL (wL (108 + (sS S1).length) k b (wL (108 + (sS S).length) k a S2)) (108 + (sS S1).length) k = _
      rw [rLe, vp_at, if_pos rfl]
    · show sJ S2 = _
      rw [hS2, grL_J, hS1, grL_J]
    · show sQ S2 = _
      rw [hS2, grL_Q, hS1, grL_Q]
    · have hi2 : i ≠ 100 * m + 6 := fun e => hi (by rw [e]; exact List.mem_singleton.mpr rfl)
      refine (rIn _ _ hi2).trans ?_
      show sI S2 i = _
      rw [hS2, grL_I, hS1, grL_I]
    · have hi3 : i ≠ 100 * m + 3 ∧ i ≠ 100 * m + 4 := ⟨fun e => hi (by rw [e]; exact List.mem_cons_self), fun e => hi (by rw [e]; exact List.mem_cons_of_mem _ List.mem_cons_self)⟩
      show sV S2 i = _
      rw [hS2, grL_V, if_neg hi3.2, hS1, grL_V, if_neg hi3.1]
    · show sS S2 = _
      rw [hS2, grL_S, hS1, grL_S, List.append_assoc]
      rfl
    · show sA S2 c = _
      rw [hS2, grL_A, hS1, grL_A]
    · show sL (wL (108 + (sS S1).length) k b (wL (108 + (sS S).length) k a S2)) c = _
      rw [rLn _ _ _ (show c ≠ 108 + (sS S1).length by omega), rLn _ _ _ (show c ≠ 108 + (sS S).length by omega), hL2, if_neg (by omega), if_neg (by omega)]
    · show (if c = 108 + (sS S).length then (28, 0) else if c = 108 + (sS S1).length then (29, 0) else own c) = _
      rw [if_neg (by omega), if_neg (by omega)]
    · show mu S2 + 4 * k = _
      rw [hS2, grL_m, hS1, grL_m]
      omega
    · show (sS S2).length + k ≤ _
      rw [hlen2]
      omega
