/-! THE CLASS'S HEAP: create; what one object holds changes; link -/
section
variable {d t x kd n k p f : Nat} {S T W : cS} {g : Nat → Nat} {e4 e5 e6 f4 f5 f6 : Nat → Nat}
theorem lv_ne {k : Nat} (h1 : 1 ≤ kd) (h7 : kd ≤ 7) (h : sA S 3 k = nI kd) : sA S 3 k ≠ 0 := fun e => by
  rw [h, show (0 : Int32) = nI 0 from rfl] at e
  have := congrArg gN e
  rw [gN_nI (by omega), gN_nI (by omega)] at this
  omega
theorem mcreate_T (h : mHS 0 g t S) (h1 : 1 ≤ kd) (h7 : kd ≤ 7) : (nLive S = 1500 ∧ Ans (d + 2) 178 [.ref 2, .int (nI kd)] S (some (.int (nI 0))) S) ∨ (nLive S < 1500 ∧ ∃ k S', 1 ≤ k ∧ k ≤ 1500 ∧ sA S 3 k = 0 ∧ Ans (d + 2) 178 [.ref 2, .int (nI kd)] S (some (.int (nI k))) S' ∧ mHS k g t S' ∧ sA S' 3 k = nI kd ∧ sA S' 7 k = nI 0 ∧ sA S' 8 k = nI 0 ∧ sA S' 9 k = nI 0 ∧ sA S' 10 k = nI 0 ∧ (∀ j, j ≠ k → obE S S' j) ∧ FrL [213, 214, 215] [3, 7, 8, 9, 10, 12] [] S S' ∧ heldBy S' k = 0 ∧ nmE S k = 0 ∧ stE t S k = 0 ∧ g k = 0) := by
  obtain ⟨hP, hD, hT, hM, hL, hN, hG, hB, hg⟩ := h
  obtain ⟨p, f, q1, q2, q3, q4, q5, q6, q7, q8, q9⟩ := id hP.2.1
  by_cases hl : nLive S = 1500
  · left
    refine ⟨hl, ?_⟩
    have := create_none (d := d + 1) (S := S) (kd := kd) q1 (by omega) (by omega)
    exact this
  · right
    have hlt : nLive S < 1500 := by omega
    have main : ∀ k T, 1 ≤ k → k ≤ 1500 → sA S 3 k = 0 → spT k S T → Ans (d + 2) 178 [.ref 2, .int (nI kd)] S (some (.int (nI k))) (newS kd (nLive S) k T) → ∃ k S', 1 ≤ k ∧ k ≤ 1500 ∧ sA S 3 k = 0 ∧ Ans (d + 2) 178 [.ref 2, .int (nI kd)] S (some (.int (nI k))) S' ∧ mHS k g t S' ∧ sA S' 3 k = nI kd ∧ sA S' 7 k = nI 0 ∧ sA S' 8 k = nI 0 ∧ sA S' 9 k = nI 0 ∧ sA S' 10 k = nI 0 ∧ (∀ j, j ≠ k → obE S S' j) ∧ FrL [213, 214, 215] [3, 7, 8, 9, 10, 12] [] S S' ∧ heldBy S' k = 0 ∧ nmE S k = 0 ∧ stE t S k = 0 ∧ g k = 0 := by
      intro k T k1 k2 k3 hsT hA
      obtain ⟨a1, a2, a3, a4, a5⟩ := new_Hp hP h1 h7 k1 k2 k3 hsT hlt
      have hAk := newS_A kd (nLive S) k T k
      simp only [if_true] at hAk
      obtain ⟨b3, b7, b8, b9, b10, _⟩ := hAk
      generalize newS kd (nLive S) k T = W at a1 a2 a4 a5 b3 b7 b8 b9 b10 hA
      have eL : sL W = sL S := funext fun a => a5.2.1 a List.not_mem_nil
      have eS : stE t W = stE t S := stE_L (fun i _ => by rw [eL]; exact ⟨rfl, rfl⟩)
      have hlv : ∀ j, lv S j → lv W j ∧ j ≠ k := fun j hj => by
        have hne : j ≠ k := fun e => hj.2.2 (by rw [e]; exact k3)
        exact ⟨⟨hj.1, hj.2.1, by rw [(a4 j hne).1]; exact hj.2.2⟩, hne⟩
      have hnl : ¬ lv S k := fun c => c.2.2 k3
      have hn0 : nmE S k = 0 := by
        rcases Nat.eq_zero_or_pos (nmE S k) with e | e
        · exact e
        · obtain ⟨i, hi, hi2⟩ := sumN_ex e
          obtain ⟨o, o1, o2, o3⟩ := hN i hi
          by_cases hob : ob (sL S 21 i) (sL S 22 i) = k
          · rw [ob_n o2 o1] at hob
            subst hob
            exact absurd (o3.resolve_left (by omega)) hnl
          · rw [if_neg hob] at hi2; omega
      have hs0 : stE t S k = 0 := by
        rcases Nat.eq_zero_or_pos (stE t S k) with e | e
        · exact e
        · obtain ⟨i, hi, hi2⟩ := sumN_ex e
          obtain ⟨o, o1, o2, o3⟩ := hL i hi
          by_cases hob : ob (sL S 47 i) (sL S 48 i) = k
          · rw [ob_n o2 o1] at hob
            subst hob
            exact absurd (o3.resolve_left (by omega)) hnl
          · rw [if_neg hob] at hi2; omega
      have hg0 : g k = 0 := by
        rcases Nat.eq_zero_or_pos (g k) with e | e
        · exact e
        · exact absurd (hG k e) hnl
      refine ⟨k, W, k1, k2, k3, hA, ⟨by rw [nmE_L eL, eS]; exact a1, fun j hj hjk => ?_, by rw [a5.I (by decide)]; exact hT, hM, fun i hi => ?_, fun i hi => ?_, fun j hj => (hlv j (hG j hj)).1, by rw [a5.I (by decide), nmB_L eL]; exact hB, hg⟩, b3, b7, b8, b9, b10, a4, a5, by rw [a2 k k1]; exact a3, hn0, hs0, hg0⟩
      · rw [a2 j hj.1, nmE_L eL, eS]
        exact hD j ⟨hj.1, hj.2.1, by rw [← (a4 j hjk).1]; exact hj.2.2⟩ (by have := hj.1; omega)
      · obtain ⟨o, o1, o2, o3⟩ := hL i hi
        exact ⟨o, o1, by rw [eL]; exact o2, o3.imp id (fun c => (hlv o c).1)⟩
      · obtain ⟨o, o1, o2, o3⟩ := hN i hi
        exact ⟨o, o1, by rw [eL]; exact o2, o3.imp id (fun c => (hlv o c).1)⟩
    refine ⟨hlt, ?_⟩
    rcases Nat.eq_zero_or_pos p with e | e
    · subst e
      exact main (f + 1) (wI 215 (nI (f + 1)) S) (by omega) (by omega) (q8 _ (by omega) (by omega)) (Or.inr ⟨f, q2, q3, rfl, by omega, rfl⟩) (create_new h1 h7 q1 q2 q3 hlt rfl (by omega))
    · obtain ⟨k, m1, m2, m3, m4⟩ := q6 (p - 1) (by omega)
      exact main k (wI 214 (nI (p - 1)) S) m2 (by omega) m4 (Or.inl ⟨p - 1, f, by omega, by rw [Nat.sub_add_cancel e]; exact q2, q3, m1, rfl⟩) (create_old h1 h7 q1 q2 q3 hlt e (by omega) m1 m2 (by omega))
/-- one object holds others than before -/
theorem held_ch (hk1 : 1 ≤ k) (hk : k ≤ 1500) (h0 : sA S 3 0 = 0) (hl : sA S 3 k ≠ 0) (h3 : sA W 3 = sA S 3) (hob : ∀ j, 1 ≤ j → j ≤ 1500 → j ≠ k → obE S W j) (q : Nat) : heldBy W q + (tgs S k).count q = heldBy S q + (tgs W k).count q := by
  have := sumN_upd (f := fun j => if sA S 3 j = 0 then 0 else (tgs S j).count q) (g := fun j => if 1 ≤ j ∧ j ≤ 1500 then (if sA W 3 j = 0 then 0 else (tgs W j).count q) else (if sA S 3 j = 0 then 0 else (tgs S j).count q)) (k := k) (fun j hj => by
    show (if 1 ≤ j ∧ j ≤ 1500 then (if sA W 3 j = 0 then 0 else (tgs W j).count q) else (if sA S 3 j = 0 then 0 else (tgs S j).count q)) = if sA S 3 j = 0 then 0 else (tgs S j).count q
    by_cases hc : 1 ≤ j ∧ j ≤ 1500
    · rw [if_pos hc, h3, obE_tgs (hob j hc.1 hc.2 hj)]
    · rw [if_neg hc]) (n := 1501) (by omega)
  simp only [h3, if_neg hl, if_pos (show 1 ≤ k ∧ k ≤ 1500 from ⟨hk1, hk⟩)] at this
  have e : heldBy W q = sumN (fun j => if 1 ≤ j ∧ j ≤ 1500 then (if sA S 3 j = 0 then 0 else (tgs W j).count q) else (if sA S 3 j = 0 then 0 else (tgs S j).count q)) 1501 := by
    unfold heldBy
    refine sumN_congr (fun j hj => ?_)
    by_cases hc : 1 ≤ j ∧ j ≤ 1500
    · rw [if_pos hc, h3]
    · have : j = 0 := by omega
      subst this
      rw [if_neg hc, h3, if_pos h0, if_pos h0]
  rw [e]
  unfold heldBy
  exact this
theorem Hp_0 (h : Hp e4 e5 e6 S) : sA S 3 0 = 0 := by
  obtain ⟨_, ⟨_, _, _, _, _, _, _, _, _, _, q⟩, _⟩ := h
  exact q
theorem Hp_ch (hP : Hp e4 e5 e6 S) (h3 : sA W 3 = sA S 3) (hob : ∀ j, 1 ≤ j → j ≤ 1500 → j ≠ k → obE S W j) (hI : ∀ i, i ∈ [213, 214, 215] → sI W i = sI S i) (h12 : sA W 12 = sA S 12) (h13 : sA W 13 = sA S 13) (hok : ∀ j, 1 ≤ j → j ≤ 1500 → h_ok W j) (hds : h_ds W) (hcl : sA S 3 k ≠ 0 → ∀ q, q ∈ tgs W k → q = 0 ∨ lv S q) (hct : ∀ q, 1 ≤ q → q ≤ 1500 → sA W 4 q = nI (heldBy W q + f4 q) ∧ sA W 5 q = nI (f5 q) ∧ sA W 6 q = nI (f6 q) ∧ f4 q < 2 ^ 20 ∧ f5 q < 2 ^ 20 ∧ f6 q < 2 ^ 20) : Hp f4 f5 f6 W := by
  obtain ⟨_, ⟨p, f, q1, q2, q3, q4, q5, q6, q7, q8, q9⟩, hcn, hcl0, _, _⟩ := hP
  have hn : nLive W = nLive S := sumN_congr (fun k _ => by
    show (if sA W 3 k = 0 then 0 else 1) = if sA S 3 k = 0 then 0 else 1
    rw [h3])
  refine ⟨hok, ⟨p, f, by rw [hI _ (by decide), hn]; exact q1, by rw [hI _ (by decide)]; exact q2, by rw [hI _ (by decide)]; exact q3, by rw [hn]; exact q4, q5, by rw [h3, h13]; exact q6, by rw [h13]; exact q7, by rw [h3]; exact q8, by rw [h3]; exact q9⟩, fun kd k1 k2 => ?_, fun j j1 j2 hl q hq => ?_, hds, hct⟩
  · have : nKind W kd = nKind S kd := sumN_congr (fun k _ => by
      show (if sA W 3 k = nI kd then 1 else 0) = if sA S 3 k = nI kd then 1 else 0
      rw [h3])
    rw [this, h12]
    exact hcn kd k1 k2
  · rw [h3] at hl ⊢
    by_cases hj : j = k
    · subst hj
      exact hcl hl q hq
    · rw [obE_tgs (hob j j1 j2 hj)] at hq
      exact hcl0 j j1 j2 hl q hq
theorem hold4_at (o : Nat) (S : cS) (t : Nat) : sA (c_hold 4 o S) 4 t = sA S 4 t + nI (dl o t) := by
  unfold c_hold dl
  by_cases h0 : o = 0
  · rw [if_pos h0, if_neg (fun c => c.1 h0)]
    exact (Int32.add_zero _).symm
  · rw [if_neg h0, rAe, upd_at]
    by_cases e : t = o
    · subst e
      rw [if_pos rfl, if_pos ⟨h0, rfl⟩]
    · rw [if_neg e, if_neg (fun c => e c.2)]
      exact (Int32.add_zero _).symm
theorem hold4_F (o : Nat) (S : cS) : FrL [] [4] [] S (c_hold 4 o S) := by
  unfold c_hold
  split
  · exact FrL.refl _ _ _ _
  · exact FrL_wA (by decide) (FrL.refl _ _ _ _)
theorem cnt_dl (o q : Nat) (hq : 1 ≤ q) : [o].count q = dl o q := by
  rw [count_cons', List.count_nil]
  unfold dl
  by_cases e : o = q
  · rw [if_pos e, if_pos ⟨by omega, e.symm⟩]
  · rw [if_neg e, if_neg (fun c => e c.2.symm)]
/-- what else mHS says goes on when holds by names and by work stay -/
theorem mHS_ch {W : cS} (h : mHS x g t S) (hF : ∀ i, i ∈ [4603, 1608] → sI W i = sI S i) (hL : ∀ a, a ∈ [21, 22, 47, 48] → sL W a = sL S a) (h3 : sA W 3 = sA S 3) (hP : Hp no_e (nmE S) (fun k => stE t S k + g k) W) (hD : ∀ k, lv S k → k ≠ x → heldBy S k ≤ heldBy W k) : mHS x g t W := by
  obtain ⟨_, hD0, hT, hM, hL0, hN, hG, hB, hg⟩ := h
  have eN : nmE W = nmE S ∧ nmB W = nmB S := by
    constructor
    · funext q
      unfold nmE
      rw [hL 21 (by decide), hL 22 (by decide)]
    · unfold nmB
      rw [hL 21 (by decide)]
  have eS : stE t W = stE t S := stE_L (fun i _ => by rw [hL 47 (by decide), hL 48 (by decide)]; exact ⟨rfl, rfl⟩)
  have hlv : ∀ j, lv W j ↔ lv S j := fun j => by unfold lv; rw [h3]
  refine ⟨by rw [eN.1, eS]; exact hP, fun k hk hkx => ?_, by rw [hF _ (by decide)]; exact hT, hM, fun i hi => ?_, fun i hi => ?_, fun k hk => (hlv k).mpr (hG k hk), by rw [hF _ (by decide), eN.2]; exact hB, hg⟩
  · have := hD0 k ((hlv k).mp hk) hkx
    have := hD k ((hlv k).mp hk) hkx
    rw [eN.1, eS]
    omega
  · obtain ⟨o, o1, o2, o3⟩ := hL0 i hi
    exact ⟨o, o1, by rw [hL 47 (by decide), hL 48 (by decide)]; exact o2, o3.imp id (fun c => (hlv o).mpr c)⟩
  · obtain ⟨o, o1, o2, o3⟩ := hN i hi
    exact ⟨o, o1, by rw [hL 21 (by decide), hL 22 (by decide)]; exact o2, o3.imp id (fun c => (hlv o).mpr c)⟩
/-- link: a new object is told what it is -/
theorem mlink_T {i : Int32} {y z : Nat} (h : mHS x g t S) (hk : lv S k) (h7 : sA S 7 k = nI 0) (h8 : sA S 8 k = nI 0) (hy : y = 0 ∨ lv S y) (hz : z = 0 ∨ lv S z) : ∃ W, Ans (d + 2) 179 [.ref 2, .int (nI k), .int i, .int (nI y), .int (nI z)] S none W ∧ mHS x g t W ∧ sA W 7 k = nI y ∧ sA W 8 k = nI z ∧ sA W 9 k = i ∧ sA W 10 k = sA S 10 k ∧ h_hi W k = h_hi S k ∧ h_lo W k = h_lo S k ∧ sL W = sL S ∧ sQ W = sQ S ∧ (∀ j, j ≠ k → obE S W j) ∧ FrL [] [4, 7, 8, 9] [] S W ∧ ∀ q, 1 ≤ q → heldBy W q = heldBy S q + dl y q + dl z q := by
  have hyb : y ≤ 1500 := by rcases hy with e | e; omega; exact e.2.1
  have hzb : z ≤ 1500 := by rcases hz with e | e; omega; exact e.2.1
  have hA := link_T (d := d) (S := S) (i := i) hk.1 hk.2.1 hyb hzb
  have hF : FrL [] [4, 7, 8, 9] [] S (c_hold 4 z (c_hold 4 y (wA 8 k (nI z) (wA 7 k (nI y) (wA 9 k i S))))) := ((FrL_wA (by decide) (FrL_wA (by decide) (FrL_wA (by decide) (FrL.refl _ _ _ _)))).trans ((hold4_F y _).mono (by decide) (by decide) (by decide))).trans ((hold4_F z _).mono (by decide) (by decide) (by decide))
  have h4 : ∀ q, sA (c_hold 4 z (c_hold 4 y (wA 8 k (nI z) (wA 7 k (nI y) (wA 9 k i S))))) 4 q = sA S 4 q + nI (dl y q) + nI (dl z q) := fun q => by
    rw [hold4_at, hold4_at]
    rfl
  have hg7 : ∀ a, a ≠ 4 → sA (c_hold 4 z (c_hold 4 y (wA 8 k (nI z) (wA 7 k (nI y) (wA 9 k i S))))) a = sA (wA 8 k (nI z) (wA 7 k (nI y) (wA 9 k i S))) a := fun a ha => by
    rw [(hold4_F z _).A (by simpa using ha), (hold4_F y _).A (by simpa using ha)]
  have e7 : ∀ j, sA (c_hold 4 z (c_hold 4 y (wA 8 k (nI z) (wA 7 k (nI y) (wA 9 k i S))))) 7 j = if j = k then nI y else sA S 7 j := fun j => by rw [hg7 7 (by decide)]; rfl
  have e8 : ∀ j, sA (c_hold 4 z (c_hold 4 y (wA 8 k (nI z) (wA 7 k (nI y) (wA 9 k i S))))) 8 j = if j = k then nI z else sA S 8 j := fun j => by rw [hg7 8 (by decide)]; rfl
  have e9 : ∀ j, sA (c_hold 4 z (c_hold 4 y (wA 8 k (nI z) (wA 7 k (nI y) (wA 9 k i S))))) 9 j = if j = k then i else sA S 9 j := fun j => by rw [hg7 9 (by decide)]; rfl
  generalize c_hold 4 z (c_hold 4 y (wA 8 k (nI z) (wA 7 k (nI y) (wA 9 k i S)))) = W at hA hF h4 e7 e8 e9
  have eL : sL W = sL S := funext fun a => hF.2.1 a List.not_mem_nil
  have eQ : sQ W = sQ S := hF.2.2.2.1
  have e3 : sA W 3 = sA S 3 := hF.A (by decide)
  have e10 : sA W 10 = sA S 10 := hF.A (by decide)
  have er : ∀ j, h_row W j = h_row S j := fun j => by unfold h_row; rw [eQ]
  have hob : ∀ j, j ≠ k → obE S W j := fun j hj => obE_of (by rw [e3]) (by rw [e7, if_neg hj]) (by rw [e8, if_neg hj]) (by rw [e9, if_neg hj]) (by rw [e10]) (er j) (by rw [eL])
  have ehi : h_hi W k = h_hi S k := by
    funext e
    unfold h_hi h_kd
    rw [er, eL, e3]
  have elo : h_lo W k = h_lo S k := by
    funext e
    unfold h_lo h_kd
    rw [er, eL, e3]
  have eent : h_ent W k = h_ent S k := by
    funext e
    unfold h_ent
    rw [ehi, elo]
  have en : h_n W k = h_n S k := by
    unfold h_n h_kd h_z
    rw [e3, e10]
  have ht0 : tgs S k = 0 :: 0 :: seqN (h_ent S k) 0 (h_n S k) := by
    unfold tgs
    rw [h7, h8]
    rfl
  have ht1 : tgs W k = y :: z :: seqN (h_ent S k) 0 (h_n S k) := by
    unfold tgs
    rw [e7, e8, if_pos rfl, if_pos rfl, gN_nI (by omega), gN_nI (by omega), eent, en]
  have hh : ∀ q, 1 ≤ q → heldBy W q = heldBy S q + dl y q + dl z q := fun q hq => by
    have := held_ch (q := q) hk.1 hk.2.1 (Hp_0 h.1) hk.2.2 e3 (fun j _ _ hj => hob j hj)
    rw [ht0, ht1, count_cons', count_cons', count_cons', count_cons', if_neg (by omega)] at this
    have c1 := cnt_dl y q hq
    have c2 := cnt_dl z q hq
    rw [count_cons', List.count_nil] at c1 c2
    omega
  have hP : Hp no_e (nmE S) (fun k => stE t S k + g k) W := Hp_ch (k := k) h.1 e3 (fun j _ _ hj => hob j hj) (fun i _ => hF.I List.not_mem_nil) (hF.A (by decide)) (hF.A (by decide)) (fun j j1 j2 => ?_) (by unfold h_ds; rw [eQ]; exact h.1.2.2.2.2.1) (fun _ q hq => ?_) (fun q q1 q2 => ?_)
  · refine ⟨W, hA, mHS_ch h (fun i _ => hF.I List.not_mem_nil) (fun a _ => by rw [eL]) e3 hP (fun q hq _ => by rw [hh q hq.1]; omega), by rw [e7, if_pos rfl], by rw [e8, if_pos rfl], by rw [e9, if_pos rfl], by rw [e10], ehi, elo, eL, eQ, hob, hF, hh⟩
  · obtain ⟨kd', z', x', y', b1, b2, b3, b4, b5, b6, b7, b8, b9, b10, b11⟩ := h.1.1 j j1 j2
    by_cases hj : j = k
    · subst hj
      refine ⟨kd', z', y, z, b1, by rw [e3]; exact b2, by rw [e10]; exact b3, by rw [e7, if_pos rfl], by rw [e8, if_pos rfl], hyb, hzb, b8, b9, by rw [eQ]; exact b10, ?_⟩
      rw [eQ, eL, hF.2.2.2.2.1]
      exact b11
    · refine ⟨kd', z', x', y', b1, by rw [e3]; exact b2, by rw [e10]; exact b3, by rw [e7, if_neg hj]; exact b4, by rw [e8, if_neg hj]; exact b5, b6, b7, b8, b9, by rw [eQ]; exact b10, ?_⟩
      rw [eQ, eL, hF.2.2.2.2.1]
      exact b11
  · rw [ht1] at hq
    rcases List.mem_cons.mp hq with e | hq
    · rw [e]; exact hy
    rcases List.mem_cons.mp hq with e | hq
    · rw [e]; exact hz
    · have hm : q ∈ tgs S k := by rw [ht0]; exact List.mem_cons_of_mem _ (List.mem_cons_of_mem _ hq)
      exact mHS_cl h k hk.1 hk.2.1 hk.2.2 q hm
  · obtain ⟨p4, p5, p6, p7, p8, p9⟩ := h.1.2.2.2.2.2 q q1 q2
    refine ⟨?_, by rw [hF.A (by decide)]; exact p5, by rw [hF.A (by decide)]; exact p6, p7, p8, p9⟩
    rw [h4 q, p4, hh q q1, nI_add, nI_add]
    exact congrArg nI (by unfold no_e; omega)
end
