/-! THE CLASS'S HEAP: a new object -/
def newS (kd n k : Nat) (T : cS) : cS := wA 12 kd ((sA (wI 213 (nI (n + 1)) (wA 10 k (nI 0) (wA 9 k (nI 0) (wA 8 k (nI 0) (wA 7 k (nI 0) (wA 3 k (nI kd) T)))))) 12 kd) + (nI 1)) (wI 213 (nI (n + 1)) (wA 10 k (nI 0) (wA 9 k (nI 0) (wA 8 k (nI 0) (wA 7 k (nI 0) (wA 3 k (nI kd) T))))))
theorem newS_A (kd n k : Nat) (T : cS) (j : Nat) : sA (newS kd n k T) 3 j = (if j = k then nI kd else sA T 3 j) ∧ sA (newS kd n k T) 7 j = (if j = k then nI 0 else sA T 7 j) ∧ sA (newS kd n k T) 8 j = (if j = k then nI 0 else sA T 8 j) ∧ sA (newS kd n k T) 9 j = (if j = k then nI 0 else sA T 9 j) ∧ sA (newS kd n k T) 10 j = (if j = k then nI 0 else sA T 10 j) ∧ sA (newS kd n k T) 12 j = (if j = kd then sA T 12 kd + nI 1 else sA T 12 j) := ⟨rfl, rfl, rfl, rfl, rfl, rfl⟩
theorem newS_F (kd n k : Nat) (T : cS) : FrL [213] [3, 7, 8, 9, 10, 12] [] T (newS kd n k T) := FrL_wA (by decide) (FrL_wI (by decide) (FrL_wA (by decide) (FrL_wA (by decide) (FrL_wA (by decide) (FrL_wA (by decide) (FrL_wA (by decide) (FrL.refl _ _ _ _)))))))
theorem newS_n (kd n k : Nat) (T : cS) : sI (newS kd n k T) 213 = nI (n + 1) := rfl
/-- object k is the same -/
def obE (S S' : cS) (k : Nat) : Prop := sA S' 3 k = sA S 3 k ∧ sA S' 7 k = sA S 7 k ∧ sA S' 8 k = sA S 8 k ∧ sA S' 9 k = sA S 9 k ∧ sA S' 10 k = sA S 10 k ∧ ∀ i, i < c_width (h_kd S k) * h_z S k → sL S' (h_row S' k) i = sL S (h_row S k) i
theorem obE.refl (S : cS) (k : Nat) : obE S S k := ⟨rfl, rfl, rfl, rfl, rfl, fun _ _ => rfl⟩
theorem obE_kd {S S' : cS} {k : Nat} (h : obE S S' k) : h_kd S' k = h_kd S k ∧ h_z S' k = h_z S k := by
  unfold h_kd h_z
  rw [h.1, h.2.2.2.2.1]
  exact ⟨rfl, rfl⟩
theorem obE.trans {S S1 S2 : cS} {k : Nat} (h : obE S S1 k) (g : obE S1 S2 k) : obE S S2 k := by
  refine ⟨g.1.trans h.1, g.2.1.trans h.2.1, g.2.2.1.trans h.2.2.1, g.2.2.2.1.trans h.2.2.2.1, g.2.2.2.2.1.trans h.2.2.2.2.1, fun i hi => ?_⟩
  have e := obE_kd h
  rw [g.2.2.2.2.2 i (by rw [e.1, e.2]; exact hi), h.2.2.2.2.2 i hi]
theorem obE_of {S S' : cS} {k : Nat} (h3 : sA S' 3 k = sA S 3 k) (h7 : sA S' 7 k = sA S 7 k) (h8 : sA S' 8 k = sA S 8 k) (h9 : sA S' 9 k = sA S 9 k) (h10 : sA S' 10 k = sA S 10 k) (hr : h_row S' k = h_row S k) (hL : sL S' (h_row S k) = sL S (h_row S k)) : obE S S' k :=
  ⟨h3, h7, h8, h9, h10, fun i _ => by rw [hr, hL]⟩
/-- places of an entry -/
theorem h_at_lt {w e z : Nat} (hw : w = 2 ∨ w = 4) (he : e < z) : h_at w e + 1 < w * z ∧ h_at w e < w * z := by
  unfold h_at
  rcases hw with rfl | rfl <;> omega
theorem obE_ent {S S' : cS} {k e : Nat} (h : obE S S' k) (hw : c_width (h_kd S k) ≠ 0) (he : e < h_z S k) : h_hi S' k e = h_hi S k e ∧ h_lo S' k e = h_lo S k e := by
  have hw' : c_width (h_kd S k) = 2 ∨ c_width (h_kd S k) = 4 := by
    rcases c_width_or (h_kd S k) with c | c | c
    · exact absurd c hw
    · exact Or.inl c
    · exact Or.inr c
  obtain ⟨a1, a2⟩ := h_at_lt hw' he
  unfold h_hi h_lo
  rw [(obE_kd h).1]
  exact ⟨h.2.2.2.2.2 _ a2, h.2.2.2.2.2 _ a1⟩
theorem obE_tgs {S S' : cS} {k : Nat} (h : obE S S' k) : tgs S' k = tgs S k := by
  obtain ⟨e1, e2⟩ := obE_kd h
  have en : h_n S' k = h_n S k := by unfold h_n; rw [e1, e2]
  have es : seqN (h_ent S' k) 0 (h_n S k) = seqN (h_ent S k) 0 (h_n S k) := seqN_congr (fun j _ hj => by
    by_cases hw : c_width (h_kd S k) = 0
    · unfold h_n at hj
      rw [if_pos hw] at hj
      omega
    · unfold h_n at hj
      rw [if_neg hw] at hj
      have := obE_ent h hw (e := j) (by omega)
      unfold h_ent
      rw [this.1, this.2])
  unfold tgs
  rw [h.2.1, h.2.2.1, en, es]
theorem obE_KX {K : List Nat} {S S' : cS} {k : Nat} (h : KX K S S') (hok : h_ok S k) (hk : k ∉ K) : obE S S' k := by
  obtain ⟨r1, r2⟩ := FrL_row h.1 (by decide) hok
  exact obE_of (by rw [h.2.1 k, if_neg hk]) (by rw [h.1.A (by decide)]) (by rw [h.1.A (by decide)]) (by rw [h.1.A (by decide)]) (by rw [h.2.2.1 k, if_neg hk]) r1 r2
theorem sumN_1 {f g : Nat → Nat} {k n : Nat} (hk : k < n) (h0 : f k = 0) (hg : ∀ i, i ≠ k → g i = f i) : sumN g n = sumN f n + g k := by
  have := sumN_upd (f := f) (g := g) (k := k) hg hk
  omega
section
variable {d t x kd n k p f : Nat} {S T : cS} {g : Nat → Nat} {e4 e5 e6 : Nat → Nat}
/-- T: the spares told anew -/
def spT (k : Nat) (S T : cS) : Prop := (∃ p f, p < 1500 ∧ sI S 214 = nI (p + 1) ∧ sI S 215 = nI f ∧ sA S 13 p = nI k ∧ T = wI 214 (nI p) S) ∨ (∃ f, sI S 214 = nI 0 ∧ sI S 215 = nI f ∧ k = f + 1 ∧ f < 1500 ∧ T = wI 215 (nI (f + 1)) S)
theorem spT_F (h : spT k S T) : FrL [214, 215] [] [] S T := by
  rcases h with ⟨p, f, _, _, _, _, e⟩ | ⟨f, _, _, _, _, e⟩
  · rw [e]; exact FrL_wI (by decide) (FrL.refl _ _ _ _)
  · rw [e]; exact FrL_wI (by decide) (FrL.refl _ _ _ _)
theorem new_Hp (hP : Hp e4 e5 e6 S) (h1 : 1 ≤ kd) (h7 : kd ≤ 7) (h0 : 1 ≤ k) (hk : k ≤ 1500) (hn : sA S 3 k = 0) (hT : spT k S T) (hN : nLive S < 1500) : Hp e4 e5 e6 (newS kd (nLive S) k T) ∧ (∀ q, 1 ≤ q → heldBy (newS kd (nLive S) k T) q = heldBy S q) ∧ heldBy S k = 0 ∧ (∀ j, j ≠ k → obE S (newS kd (nLive S) k T) j) ∧ FrL [213, 214, 215] [3, 7, 8, 9, 10, 12] [] S (newS kd (nLive S) k T) := by
  have hF : FrL [213, 214, 215] [3, 7, 8, 9, 10, 12] [] S (newS kd (nLive S) k T) := ((spT_F hT).mono (by decide) (by decide) (fun _ h => h)).trans ((newS_F kd (nLive S) k T).mono (by decide) (by decide) (fun _ h => h))
  have hA := newS_A kd (nLive S) k T
  have hTA : ∀ a, sA T a = sA S a := fun a => (spT_F hT).A List.not_mem_nil
  simp only [hTA] at hA
  have hI13 := newS_n kd (nLive S) k T
  have hI14 : ∀ i, i ≠ 213 → sI (newS kd (nLive S) k T) i = sI T i := fun i hi => (newS_F kd (nLive S) k T).I (by simpa using hi)
  generalize newS kd (nLive S) k T = W at hF hA hI13 hI14 ⊢
  obtain ⟨hok, hsp, hcn, hcl, hds, hct⟩ := hP
  have eL : sL W = sL S := funext fun a => hF.2.1 a List.not_mem_nil
  have eQ : sQ W = sQ S := hF.2.2.2.1
  have eS : sS W = sS S := hF.2.2.2.2.1
  have hob : ∀ j, j ≠ k → obE S W j := fun j hj => by
    obtain ⟨b3, b7, b8, b9, b10, _⟩ := hA j
    rw [if_neg hj] at b3 b7 b8 b9 b10
    exact obE_of b3 b7 b8 b9 b10 (by unfold h_row; rw [eQ]) (by rw [eL])
  have htk : tgs W k = [0, 0] := by
    obtain ⟨_, b7, b8, _, b10, _⟩ := hA k
    rw [if_pos rfl] at b7 b8 b10
    have e0 : h_n W k = 0 := by
      unfold h_n h_z
      rw [b10]
      split <;> rfl
    unfold tgs
    rw [e0, b7, b8]
    rfl
  have hne : nI kd ≠ 0 := fun e => by
    have := congrArg gN e
    rw [gN_nI (by omega), show (0 : Int32) = nI 0 from rfl, gN_nI (by omega)] at this
    omega
  have h3 : ∀ j, sA W 3 j = if j = k then nI kd else sA S 3 j := fun j => (hA j).1
  have hheld : ∀ q, 1 ≤ q → heldBy W q = heldBy S q := fun q hq => by
    have := sumN_1 (f := fun j => if sA S 3 j = 0 then 0 else (tgs S j).count q) (g := fun j => if sA W 3 j = 0 then 0 else (tgs W j).count q) (k := k) (n := 1501) (by omega) (if_pos hn) (fun j hj => by
      show (if sA W 3 j = 0 then 0 else (tgs W j).count q) = if sA S 3 j = 0 then 0 else (tgs S j).count q
      rw [h3 j, if_neg hj, obE_tgs (hob j hj)])
    have e0 : (if sA W 3 k = 0 then 0 else (tgs W k).count q) = 0 := by
      rw [htk]
      split
      · rfl
      · exact List.count_eq_zero.mpr (fun hm => by
          rcases List.mem_cons.mp hm with e | hm
          · omega
          · have := List.mem_singleton.mp hm; omega)
    simp only [e0] at this
    show sumN _ 1501 = sumN _ 1501
    omega
  have hk0 : heldBy S k = 0 := by
    rcases Nat.eq_zero_or_pos (heldBy S k) with e | e
    · exact e
    · obtain ⟨j, hj1, hj2⟩ := sumN_ex e
      by_cases hc : sA S 3 j = 0
      · rw [if_pos hc] at hj2; omega
      · rw [if_neg hc] at hj2
        have hj0 : 1 ≤ j := by
          rcases Nat.eq_zero_or_pos j with e | e
          · subst e
            obtain ⟨_, _, _, _, _, _, _, _, _, _, q⟩ := hsp
            exact absurd q hc
          · exact e
        rcases hcl j hj0 (by omega) hc k (List.count_pos_iff.mp hj2) with c | c
        · omega
        · exact absurd hn c.2.2
  have hnl : nLive W = nLive S + 1 := by
    have := sumN_1 (f := fun j => if sA S 3 j = 0 then 0 else 1) (g := fun j => if sA W 3 j = 0 then 0 else 1) (k := k) (n := 1501) (by omega) (if_pos hn) (fun j hj => by
      show (if sA W 3 j = 0 then 0 else 1) = if sA S 3 j = 0 then 0 else 1
      rw [h3 j, if_neg hj])
    have e1 : (if sA W 3 k = 0 then 0 else 1) = 1 := by
      rw [h3 k, if_pos rfl]
      exact if_neg hne
    simp only [e1] at this
    show sumN _ 1501 = sumN _ 1501 + 1
    omega
  refine ⟨⟨fun j j1 j2 => ?_, ?_, fun q q1 q7 => ?_, fun j j1 j2 hl q hq => ?_, ?_, fun q q1 q2 => ?_⟩, hheld, hk0, hob, hF⟩
  · obtain ⟨kd', z', x', y', b1, b2, b3, b4, b5, b6, b7, b8, b9, b10, b11⟩ := hok j j1 j2
    by_cases hj : j = k
    · subst hj
      obtain ⟨_, c7, c8, _, c10, _⟩ := hA j
      rw [if_pos rfl] at c7 c8 c10
      refine ⟨kd, 0, 0, 0, h7, by rw [h3 j, if_pos rfl], c10, c7, c8, Nat.zero_le _, Nat.zero_le _, Nat.zero_le _, fun _ => rfl, fun _ => rfl, ?_⟩
      rw [eQ, eS]
      intro a ha
      obtain ⟨N, m1, m2, m3, m4, m5⟩ := b11 a ha
      exact ⟨N, m1, m2, Nat.zero_le _, m4, fun e he => absurd he (Nat.not_lt_zero _)⟩
    · obtain ⟨c3, c7, c8, _, c10, _⟩ := hob j hj
      refine ⟨kd', z', x', y', b1, c3.trans b2, c10.trans b3, c7.trans b4, c8.trans b5, b6, b7, b8, b9, by rw [eQ]; exact b10, ?_⟩
      rw [eQ, eS, eL]
      exact b11
  · obtain ⟨p, f, q1, q2, q3, q4, q5, q6, q7, q8, q9⟩ := hsp
    have a13 : sA W 13 = sA S 13 := hF.A (by decide)
    rcases hT with ⟨p', f', u0, u1, u2, u3, e⟩ | ⟨f', u1, u2, u3, u4, e⟩
    · have hp2 : nI p = nI (p' + 1) := q2.symm.trans u1
      have hp3 : p = p' + 1 := by
        have h2 := congrArg gN hp2
        rw [gN_nI (by omega), gN_nI (by omega)] at h2
        exact h2
      subst hp3
      refine ⟨p', f, by rw [hnl]; exact hI13, ?_, ?_, by omega, q5, fun i hi => ?_, fun i j hi hj => ?_, fun j j1 j2 => ?_, ?_⟩
      · rw [hI14 214 (by decide), e]
        exact rIe _ _ _
      · rw [hI14 215 (by decide), e]
        exact (rIn _ _ (by decide)).trans q3
      · obtain ⟨m, m1, m2, m3, m4⟩ := q6 i (by omega)
        refine ⟨m, by rw [a13]; exact m1, m2, m3, ?_⟩
        rw [h3 m, if_neg (fun c => q7 i p' hi (by omega) (by rw [m1, u3, c]))]
        exact m4
      · rw [a13]
        exact q7 i j hi (by omega)
      · rw [h3 j, if_neg (fun c => ?_)]
        · exact q8 j j1 j2
        · obtain ⟨m, m1, m2, m3, m4⟩ := q6 p' (by omega)
          rw [u3] at m1
          have h2 := congrArg gN m1
          rw [gN_nI (by omega), gN_nI (by omega)] at h2
          omega
      · rw [h3 0, if_neg (by omega)]
        exact q9
    · have hp3 : p = 0 := by
        have h2 := congrArg gN (q2.symm.trans u1)
        rw [gN_nI (by omega), gN_nI (by omega)] at h2
        exact h2
      have hf3 : f = f' := by
        have h2 := congrArg gN (q3.symm.trans u2)
        rw [gN_nI (by omega), gN_nI (by omega)] at h2
        exact h2
      subst hp3
      subst hf3
      refine ⟨0, f + 1, by rw [hnl]; exact hI13, ?_, ?_, by omega, by omega, fun i hi => absurd hi (Nat.not_lt_zero _), fun i j hi hj => absurd hj (Nat.not_lt_zero _), fun j j1 j2 => ?_, ?_⟩
      · rw [hI14 214 (by decide), e]
        exact (rIn _ _ (by decide)).trans u1
      · rw [hI14 215 (by decide), e]
        exact rIe _ _ _
      · rw [h3 j, if_neg (by omega)]
        exact q8 j (by omega) j2
      · rw [h3 0, if_neg (by omega)]
        exact q9
  · have := sumN_1 (f := fun j => if sA S 3 j = nI q then 1 else 0) (g := fun j => if sA W 3 j = nI q then 1 else 0) (k := k) (n := 1501) (by omega) (if_neg (fun c => by
      rw [hn, show (0 : Int32) = nI 0 from rfl] at c
      have := congrArg gN c
      rw [gN_nI (by omega), gN_nI (by omega)] at this
      omega)) (fun j hj => by
      show (if sA W 3 j = nI q then 1 else 0) = if sA S 3 j = nI q then 1 else 0
      rw [h3 j, if_neg hj])
    have hs : nKind W q = nKind S q + (if sA W 3 k = nI q then 1 else 0) := by
      unfold nKind
      exact this
    rw [hs, h3 k, if_pos rfl, (hA q).2.2.2.2.2]
    by_cases e : q = kd
    · rw [if_pos e, e, if_pos rfl, hcn kd h1 h7, nI_add]
    · rw [if_neg e, if_neg (fun c => e (by
        have := congrArg gN c
        rw [gN_nI (by omega), gN_nI (by omega)] at this
        exact this.symm)), hcn q q1 q7, Nat.add_zero]
  · have hcl' : ∀ j, 1 ≤ j → j ≤ 1500 → sA S 3 j ≠ 0 → ∀ q, q ∈ tgs S j → q = 0 ∨ 1 ≤ q ∧ q ≤ 1500 ∧ sA W 3 q ≠ 0 := fun j j1 j2 hl q hq => (hcl j j1 j2 hl q hq).imp id (fun c => ⟨c.1, c.2.1, by rw [h3 q]; split; exact hne; exact c.2.2⟩)
    by_cases hj : j = k
    · subst hj
      rw [htk] at hq
      rcases List.mem_cons.mp hq with e | hq
      · exact Or.inl e
      · exact Or.inl (List.mem_singleton.mp hq)
    · rw [h3 j, if_neg hj] at hl
      rw [obE_tgs (hob j hj)] at hq
      exact hcl' j j1 j2 hl q hq
  · unfold h_ds
    rw [eQ]
    exact hds
  · rw [hheld q q1, hF.A (a := 4) (by decide), hF.A (a := 5) (by decide), hF.A (a := 6) (by decide)]
    exact hct q q1 q2
end
