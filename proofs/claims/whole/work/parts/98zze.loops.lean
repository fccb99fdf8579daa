/-! A LOOP of the class: its breaks are told where it ends -/
theorem rsv_bks {K : Nat → Nat} {ce re : Nat} : ∀ (os : List Op) (a c r : Nat), bks a (rsv K ce re c r os) = [] := by
  intro os
  induction os with
  | nil => intro a c r; rfl
  | cons o l ih =>
    intro a c r
    show (if (if o.1 = 60 then (4, [], (ce : Int) - c, (re : Int) - (r + 1)) else o : Op).1 = 60 then _ else _) = _
    rw [if_neg (by
      split
      · show ¬ ((4 : Nat) = 60)
        omega
      · assumption)]
    exact ih _ _ _
theorem rsv_fxS {K : Nat → Nat} {S S1 : cS} {ce re : Nat} (h41 : sA S1 41 = sA S 41) (h42 : sA S1 42 = sA S 42) : ∀ (os : List Op) (f a c r : Nat), fxS S f a os → fxS S1 f a (rsv K ce re c r os) := by
  intro os
  induction os with
  | nil => intro _ _ _ _ _; trivial
  | cons o l ih =>
    intro f a c r h
    by_cases h60 : o.1 = 60
    · have e0 : fxO o = 0 := by unfold fxO; exact if_neg (by omega)
      have e1 : fxO (4, [], (ce : Int) - c, (re : Int) - (r + 1)) = 0 := rfl
      have e2 : lC (4, [], (ce : Int) - c, (re : Int) - (r + 1)) = 2 := rfl
      show fxS S1 f a ((if o.1 = 60 then (4, [], (ce : Int) - c, (re : Int) - (r + 1)) else o) :: rsv K ce re (c + lC o) (r + lR K o) l)
      rw [if_pos h60]
      refine ⟨fun h => ?_, ?_⟩
      · rw [e1] at h; cases h
      · rw [e1, e2]
        have h2 := ih _ _ (c + lC o) (r + lR K o) h.2
        rw [e0, lC_60 h60] at h2
        rw [lC_60 h60]
        exact h2
    · show fxS S1 f a ((if o.1 = 60 then (4, [], (ce : Int) - c, (re : Int) - (r + 1)) else o) :: rsv K ce re (c + lC o) (r + lR K o) l)
      rw [if_neg h60]
      exact ⟨fun h1 => by rw [h41, h42]; exact h.1 h1, ih _ _ _ _ h.2⟩
section
variable {A : Nat → Int32} {n z0 fb a0 s ab d : Nat} {S0 B : cS}
theorem yG_I {a c f k : Nat} {sc : SCs} {at' : List Nat} {S S1 : cS} (h : yG A n S0 z0 fb a0 s ab k sc at' a c f S) (hF : FrT [4308, 4309, 4310, 4311] [] [] [] S S1) (ht : ∃ tr lt, sI S1 4308 = nI tr ∧ sI S1 4311 = nI lt ∧ tr ≤ 100 ∧ lt ≤ 100) : yG A n S0 z0 fb a0 s ab k sc at' a c f S1 := by
  obtain ⟨h1, h2, h3, h4, h5, h6, h7, h8, h9, h10, h11, h12, _, h14⟩ := h
  have hA : ∀ x, sA S1 x = sA S x := fun x => hF.2.2.1 x (fun h => by cases h)
  have hL : ∀ x, sL S1 x = sL S x := fun x => hF.2.2.2.1 x (fun h => by cases h)
  have e1 : ∀ i, i ∈ [3102, 3103, 3104, 3105, 3106, 3107, 3108, 3109, 3113, 1607] → i ∉ [4308, 4309, 4310, 4311] := by decide
  have hnK : nK S S1 := cP_nK h1 (hF.1 _ (by decide)) (fun a _ => hL a)
  exact ⟨cP_S h1 (fun i hi => hF.1 i (e1 i hi)) (fun i _ => hF.2.1 i (fun h => by cases h)) (fun a _ => hA a) (fun a _ => hL a), ⟨(hF.1 _ (by decide)).trans h2.1, (hF.1 _ (by decide)).trans h2.2.1, (hF.1 _ (by decide)).trans h2.2.2.1, (hF.1 _ (by decide)).trans h2.2.2.2.1, h2.2.2.2.2⟩, (hF.1 _ (by decide)).trans h3, (hF.1 _ (by decide)).trans h4, (hF.1 _ (by decide)).trans h5, yS_S h6 hnK (fun x _ => hA x), fun i i1 i2 => by rw [hA 28]; exact h7 i i1 i2, h8, h9, yAt_S h10 hnK (hF.1 _ (by decide)) (hA 45), (hF.1 _ (by decide)).trans h11, fun i hi => by rw [hA 41]; exact h12 i hi, ht, h14⟩
/-- what is kept of loops and tries is set anew, in the state before and in the one behind -/
theorem yOK_ints {a c f : Nat} {x : PT} {S B1 S1 : cS} (h : yOK A n S0 z0 fb a0 s ab B a c f x S) (hB : FrT [4308, 4309, 4311] [] [] [] B B1) (hS : FrT [4308, 4309, 4311] [] [] [] S S1) (he : ∀ i, i ∈ [4308, 4309, 4311] → sI S1 i = sI B1 i) (ht : ∃ tr lt, sI S1 4308 = nI tr ∧ sI S1 4311 = nI lt ∧ tr ≤ 100 ∧ lt ≤ 100) : yOK A n S0 z0 fb a0 s ab B1 a c f x S1 := by
  obtain ⟨h1, h2, h3, h4, h5, h6⟩ := h
  have hA : ∀ x, sA S1 x = sA S x := fun x => hS.2.2.1 x (fun h => by cases h)
  have hL : ∀ x, sL S1 x = sL S x := fun x => hS.2.2.2.1 x (fun h => by cases h)
  have gA : ∀ x, sA B1 x = sA B x := fun x => hB.2.2.1 x (fun h => by cases h)
  have gL : ∀ x, sL B1 x = sL B x := fun x => hB.2.2.2.1 x (fun h => by cases h)
  have hF : FrT [4308, 4309, 4311] [] [] [] B B1 := hB
  refine ⟨yG_I h1 (hS.mono (by decide) (fun _ h => h) (fun _ h => h) (fun _ h => h)) ht, ?_, fxS_mono (S := S) (S1 := S1) (hi := f + fxM x.2.1) _ _ _ (fun i _ => by rw [hA 41, hA 42]; exact ⟨rfl, rfl⟩) (Nat.le_refl _) h3, ⟨⟨fun i hi => ?_, ?_⟩, ?_, nK_S h4.2.2 (hB.1 _ (by decide)) (hS.1 _ (by decide)) (fun i _ => gL i) (fun i _ => hL i)⟩, ?_, h6⟩
  · obtain ⟨z, c', i1, i2, i3, i4, i5⟩ := h2
    exact ⟨z, c', (hS.1 _ (by decide)).trans i1, i2, (hS.1 _ (by decide)).trans i3, i4, lsC_mono x.2.1 a (hi := a + wC x.2.1) ⟨Nat.le_refl _, Nat.le_refl _, fun i _ _ => by rw [hA 24], fun i _ => by rw [hL 25, hL 26]; exact ⟨rfl, rfl⟩, fun i _ => by rw [hL 17, hL 18]; exact ⟨rfl, rfl⟩⟩ (Nat.le_refl _) i5⟩
  · by_cases hc : i ∈ [4308, 4309, 4311]
    · exact he i hc
    · exact (hS.1 i hc).trans ((h4.1.1 i hi).trans (hB.1 i hc).symm)
  · exact (((hB.mono (MI := yI ++ [4308, 4309, 4311]) (MJ := lxJ) (MA := yA) (ML := yL) (by decide) (fun _ h => by cases h) (fun _ h => by cases h) (fun _ h => by cases h)).symm.trans (h4.1.mono (by decide) (fun _ h => h) (fun _ h => h) (fun _ h => h))).trans (hS.mono (by decide) (fun _ h => by cases h) (fun _ h => by cases h) (fun _ h => by cases h))).2
  · obtain ⟨⟨q1, q2, q3⟩, q4, q5⟩ := h4.2.1
    refine ⟨⟨fun i hi => ?_, fun i hi => ?_, fun i hi => ?_⟩, fun i hi => ?_, fun i hi => ?_⟩
    · rw [hA, gA]; exact q1 i hi
    · rw [hL, hL, gL, gL]; exact q2 i hi
    · rw [hA, hA, gA, gA]; exact q3 i hi
    · rw [hA, gA]; exact q4 i hi
    · rw [hA, hA, hA, hA, gA, gA, gA, gA]; exact q5 i hi
  · rw [hS.1 4310 (by decide), hB.1 4310 (by decide)]
    exact chL_S _ _ (fun p _ => by rw [hA 24]) h5
/-- a loop's end: all that left it come here, and so does its exit -/
theorem come_K {a c f xt : Nat} {x : PT} {S : cS} (h : yOK A n S0 z0 fb a0 s ab B a c f x S) (hB : sI B 4310 = nI xt) (hx : sA B 24 (xt + 1) = Int32.ofInt (-1)) (hx2 : xt + 2 ≤ a) (hx3 : 2 ≤ xt) (hw : wC x.2.1 ≤ 11990) : ∃ S1, Ans (d + 9) 87 [.ref 43, .int (sI S 4310)] S none S1 ∧ FrT [] [] [24] [] S S1 ∧ ∀ (y : Int32) (K : Nat → Nat) (ce re c0 r0 : Nat), (ce : Int) - c0 = wC x.2.1 → yOK A n S0 z0 fb a0 s ab (wA 24 (xt + 1) (nI (a + wC x.2.1)) (wI 4310 y B)) a c f (x.1, rsv K ce re c0 r0 x.2.1, x.2.2.1, x.2.2.2) (wI 4310 y S1) := by
  obtain ⟨h1, h2, h3, h4, h5, h6⟩ := h
  have ht := h1.2.1.1
  have htM : a + wC x.2.1 ≤ 40960 := h1.2.2.2.2.2.2.2.2.2.2.2.2.2.2.1
  rw [hB] at h5
  have hx4 : sA S 24 (xt + 1) = Int32.ofInt (-1) := (h4.2.1.1.1 _ (by omega)).trans hx
  have h7 : chL S (Int32.ofInt (-1)) [xt] (nI xt) := ⟨rfl, hx4⟩
  have h8 : chL S (Int32.ofInt (-1)) ((bks a x.2.1).reverse ++ [xt]) (sI S 4310) := chL_app _ _ _ h5 h7
  have h9 : chD 2 (a + wC x.2.1) ((bks a x.2.1).reverse ++ [xt]) := chD_app (by omega) _ _ _ h6 ⟨hx2, hx3, hx3, trivial⟩ (by omega)
  have hlen := chD_len _ _ h6
  obtain ⟨S1, p1, p2, p3, p4⟩ := come_T (d := d) h8 h9 ht htM (by
    rw [List.length_append]
    show _ + 1 < 3000
    rcases hlen with h | h
    · rw [h]; show 0 + 1 < 3000; omega
    · omega)
  have hmem := chD_mem _ _ h6
  have p5 : sA S1 24 (xt + 1) = nI (a + wC x.2.1) := p4 xt (List.mem_append.mpr (Or.inr List.mem_cons_self))
  have p6 : ∀ i, (∀ p, p ∈ (bks a x.2.1).reverse → i ≠ p + 1) → i ≠ xt + 1 → sA S1 24 i = sA S 24 i := fun i i1 i2 => p3 i (fun p hp => by
    rcases List.mem_append.mp hp with hp | hp
    · exact i1 p hp
    · obtain rfl : p = xt := by
        rcases List.mem_cons.mp hp with hp | hp
        · exact hp
        · cases hp
      exact i2)
  have hlow : ∀ i, i < a → i ≠ xt + 1 → sA S1 24 i = sA S 24 i := fun i hi h => p6 i (fun p hp => by have := hmem p hp; omega) h
  refine ⟨S1, p1, p2, fun y K ce re c0 r0 hce => ?_⟩
  obtain ⟨w1, w2, w3, w4⟩ := rsv_w (K := K) (ce := ce) (re := re) x.2.1 c0 r0
  have hG : yG A n S0 z0 fb a0 s ab x.1 x.2.2.1 x.2.2.2 (a + wC x.2.1) (c + cnN x.2.1) (f + fxM x.2.1) (wI 4310 y S1) := yG_W h1 (FrT_wI (by decide) (p2.mono (fun _ h => by cases h) (fun _ h => h) (fun _ h => h) (fun _ h => h)))
  refine ⟨?_, ?_, rsv_fxS (S := S) (S1 := wI 4310 y S1) (p2.2.2.1 41 (by decide)) (p2.2.2.1 42 (by decide)) x.2.1 f a c0 r0 h3, ⟨?_, ?_, nK_S h4.2.2 ((rAI _ _ _ _ _).trans (rIn _ _ (by decide))) ((rIn _ _ (by decide)).trans (p2.1 _ (fun h => by cases h))) (fun _ _ => rfl) (fun i _ => p2.2.2.2.1 i (fun h => by cases h))⟩, ?_, ?_⟩
  · dsimp only
    rw [w1, w3, w4]
    exact hG
  · obtain ⟨z, c', i1, i2, i3, i4, i5⟩ := h2
    refine ⟨z, c', ((rIn _ _ (by decide)).trans (p2.1 _ (fun h => by cases h))).trans i1, i2, ((rIn _ _ (by decide)).trans (p2.1 _ (fun h => by cases h))).trans i3, i4, ?_⟩
    dsimp only
    have hlc := rsv_lC (β := by1 A) (m := n) (fb := fb) (K := K) (ce := ce) (re := re) (t := a + wC x.2.1) (S := S) (S1 := S1) (fun i _ => p2.2.2.2.1 i (fun h => by cases h)) x.2.1 a c0 r0 i5 (fun i i1 i2 => p6 i (fun p hp => i2 p (List.mem_reverse.mp hp)) (by omega)) (fun p hp => p4 p (List.mem_append.mpr (Or.inl (List.mem_reverse.mpr hp)))) (by rw [hce]; omega)
    exact lsC_mono (S := S1) (S1 := wI 4310 y S1) (z1 := z) (c1 := c') (hi := a + wC (rsv K ce re c0 r0 x.2.1)) _ a ⟨Nat.le_refl _, Nat.le_refl _, fun _ _ _ => rfl, fun _ _ => ⟨rfl, rfl⟩, fun _ _ => ⟨rfl, rfl⟩⟩ (Nat.le_refl _) hlc
  · exact ((FrT.symm (FrT_wA (by decide) (FrT_wI (by decide) (FrT.refl _ _ _ _ _)))).trans h4.1).trans (FrT_wI (by decide) (p2.mono (fun _ h => by cases h) (fun _ h => by cases h) (by decide) (fun _ h => by cases h)))
  · obtain ⟨⟨q1, q2, q3⟩, q4, q5⟩ := h4.2.1
    refine ⟨⟨fun i hi => ?_, fun i hi => ?_, fun i hi => ?_⟩, fun i hi => ?_, fun i hi => ?_⟩
    · show sA S1 24 i = upd (sA B 24) (xt + 1) (nI (a + wC x.2.1)) i
      rw [upd_at]
      by_cases hi2 : i = xt + 1
      · rw [if_pos hi2, hi2]; exact p5
      · rw [if_neg hi2]; exact (hlow i hi hi2).trans (q1 i hi)
    · have := q2 i hi
      show sL S1 25 i = sL B 25 i ∧ sL S1 26 i = sL B 26 i
      rw [p2.2.2.2.1 25 (fun h => by cases h), p2.2.2.2.1 26 (fun h => by cases h)]
      exact this
    · have := q3 i hi
      show sA S1 41 i = sA B 41 i ∧ sA S1 42 i = sA B 42 i
      rw [p2.2.2.1 41 (by decide), p2.2.2.1 42 (by decide)]
      exact this
    · have := q4 i hi
      show sA S1 45 i = sA B 45 i
      rw [p2.2.2.1 45 (by decide)]
      exact this
    · have := q5 i hi
      show sA S1 27 i = sA B 27 i ∧ sA S1 28 i = sA B 28 i ∧ sA S1 29 i = sA B 29 i ∧ sA S1 30 i = sA B 30 i
      rw [p2.2.2.1 27 (by decide), p2.2.2.1 28 (by decide), p2.2.2.1 29 (by decide), p2.2.2.1 30 (by decide)]
      exact this
  · dsimp only
    rw [rsv_bks]
    exact (rIe _ _ _).trans ((rAI _ _ _ _ _).trans (rIe _ _ _)).symm
  · dsimp only
    rw [rsv_bks]
    trivial
end
