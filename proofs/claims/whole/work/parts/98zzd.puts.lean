/-! STEPS PUT within a statement of the class: one step; a hole below; a loop's breaks told -/
theorem FrT.symm {LI LJ LA LL : List Nat} {S0 S : cS} (h : FrT LI LJ LA LL S0 S) : FrT LI LJ LA LL S S0 :=
  ⟨fun i hi => (h.1 i hi).symm, fun i hi => (h.2.1 i hi).symm, fun a ha => (h.2.2.1 a ha).symm, fun a ha => (h.2.2.2.1 a ha).symm, h.2.2.2.2.1.symm, h.2.2.2.2.2.1.symm, h.2.2.2.2.2.2.1.symm, h.2.2.2.2.2.2.2.symm⟩
theorem nK_S {S S1 T T1 : cS} (h : nK S S1) (e1 : sI T 1607 = sI S 1607) (e2 : sI T1 1607 = sI S1 1607) (a1 : ∀ x, x ∈ [17, 18] → sL T x = sL S x) (a2 : ∀ x, x ∈ [17, 18] → sL T1 x = sL S1 x) : nK T T1 := by
  obtain ⟨z, z1, h1, h2, h3, h4, h5⟩ := h
  exact ⟨z, z1, e1.trans h1, e2.trans h2, h3, h4, fun i hi => by rw [a1 17 (by decide), a1 18 (by decide), a2 17 (by decide), a2 18 (by decide)]; exact h5 i hi⟩
theorem bks_ge : ∀ (os : List Op) (a p : Nat), p ∈ bks a os → a ≤ p := by
  intro os
  induction os with
  | nil => intro a p h; cases h
  | cons o r ih =>
    intro a p h
    have e : bks a (o :: r) = if o.1 = 60 then a :: bks (a + lC o) r else bks (a + lC o) r := rfl
    rw [e] at h
    split at h
    · rcases List.mem_cons.mp h with rfl | h
      · exact Nat.le_refl _
      · have := ih _ _ h; omega
    · have := ih _ _ h; omega
section
variable {A : Nat → Int32} {n z0 fb a0 s ab : Nat} {S0 B : cS}
/-- a good state stays good: words of the code, the jumps out of the loop -/
theorem yG_W {a c f k : Nat} {sc : SCs} {at' : List Nat} {S S1 : cS} (h : yG A n S0 z0 fb a0 s ab k sc at' a c f S) (hF : FrT [4310, 4403, 4404] [] [24] [] S S1) : yG A n S0 z0 fb a0 s ab k sc at' a c f S1 := by
  obtain ⟨h1, h2, h3, h4, h5, h6, h7, h8, h9, h10, h11, h12, ⟨tr, lt, h13, h13b, h13c, h13d⟩, h14⟩ := h
  have a1 : ∀ x, x ∈ [27, 29, 30, 33, 34, 35, 36, 37, 38, 40] → x ∉ [24] := by decide
  have e1 : ∀ i, i ∈ [3102, 3103, 3104, 3105, 3106, 3107, 3108, 3109, 3113, 1607] → i ∉ [4310, 4403, 4404] := by decide
  have e2 : ∀ a, a ∈ [1, 19, 20] → a ∉ [24] := by decide
  have hnK : nK S S1 := cP_nK h1 (hF.1 _ (by decide)) (fun a _ => hF.2.2.2.1 a (fun h => by cases h))
  exact ⟨cP_S h1 (fun i hi => hF.1 i (e1 i hi)) (fun i _ => hF.2.1 i (fun h => by cases h)) (fun a ha => hF.2.2.1 a (e2 a ha)) (fun a _ => hF.2.2.2.1 a (fun h => by cases h)), ⟨(hF.1 _ (by decide)).trans h2.1, (hF.1 _ (by decide)).trans h2.2.1, (hF.1 _ (by decide)).trans h2.2.2.1, (hF.1 _ (by decide)).trans h2.2.2.2.1, h2.2.2.2.2⟩, (hF.1 _ (by decide)).trans h3, (hF.1 _ (by decide)).trans h4, (hF.1 _ (by decide)).trans h5, yS_S h6 hnK (fun x hx => hF.2.2.1 x (a1 x hx)), fun i i1 i2 => by rw [hF.2.2.1 28 (by decide)]; exact h7 i i1 i2, h8, h9, yAt_S h10 hnK (hF.1 _ (by decide)) (hF.2.2.1 45 (by decide)), (hF.1 _ (by decide)).trans h11, fun i hi => by rw [hF.2.2.1 41 (by decide)]; exact h12 i hi, ⟨tr, lt, (hF.1 _ (by decide)).trans h13, (hF.1 _ (by decide)).trans h13b, h13c, h13d⟩, h14⟩
/-- one step more -/
theorem yG_e {a c f k : Nat} {sc : SCs} {at' : List Nat} {S S1 : cS} {o : Op} (h : yG A n S0 z0 fb a0 s ab k sc at' a c f S) (hF : FrT [2307, 2308, 3214, 4310, 4403, 4404] [] [24, 41, 42] [25, 26] S S1) (hk : kP a c f S S1) (h7 : sI S1 2307 = nI (a + lC o)) (h8 : sI S1 2308 = nI (c + cnO o)) (h14 : sI S1 3214 = nI (f + fxO o)) (hc : c + cnO o ≤ 5200) (ha : a + lC o ≤ 40960) (hf : f + fxO o ≤ 1600) (hfx : fxO o = 1 → sA S1 41 f = nI a ∧ sA S1 42 f = nI (o.2.1.getD 1 0)) (ho : ∀ z, sI S 1607 = nI z → z ≤ 4096 → oC (by1 A) n S1 z (c + cnO o) fb a o) : yG A n S0 z0 fb a0 s ab k sc at' (a + lC o) (c + cnO o) (f + fxO o) S1 ∧ cd (by1 A) n S1 fb a [o] ∧ fxS S1 f a [o] ∧ yF fb a c f ab S S1 := by
  obtain ⟨g1, g2, g3, g4, g5, g6, g7, g8, g9, g10, g11, g12, ⟨tr, lt, g13, g13b, g13c, g13d⟩, g14, g15, g16, g17, g18, g19⟩ := h
  have a1 : ∀ x, x ∈ [27, 29, 30, 33, 34, 35, 36, 37, 38, 40] → x ∉ [24, 41, 42] := by decide
  have e1 : ∀ i, i ∈ [3102, 3103, 3104, 3105, 3106, 3107, 3108, 3109, 3113, 1607] → i ∉ [2307, 2308, 3214, 4310, 4403, 4404] := by decide
  have e2 : ∀ a, a ∈ [1, 19, 20] → a ∉ [24, 41, 42] := by decide
  have e3 : ∀ a, a ∈ [17, 18] → a ∉ [25, 26] := by decide
  have hnK : nK S S1 := cP_nK g1 (hF.1 _ (by decide)) (fun a ha => hF.2.2.2.1 a (e3 a ha))
  have hP1 : cP A n S0 z0 k S1 := cP_S g1 (fun i hi => hF.1 i (e1 i hi)) (fun i _ => hF.2.1 i (fun h => by cases h)) (fun a ha => hF.2.2.1 a (e2 a ha)) (fun a ha => hF.2.2.2.1 a (e3 a ha))
  obtain ⟨z, z1, z2, z3, z4⟩ := cP_NT g1
  refine ⟨⟨hP1, ⟨h7, h8, h14, (hF.1 _ (by decide)).trans g2.2.2.2.1, g2.2.2.2.2⟩, (hF.1 _ (by decide)).trans g3, (hF.1 _ (by decide)).trans g4, (hF.1 _ (by decide)).trans g5, yS_S g6 hnK (fun x hx => hF.2.2.1 x (a1 x hx)), fun i i1 i2 => by rw [hF.2.2.1 28 (by decide)]; exact g7 i i1 i2, g8, g9, yAt_S g10 hnK (hF.1 _ (by decide)) (hF.2.2.1 45 (by decide)), (hF.1 _ (by decide)).trans g11, fun i hi => ?_, ⟨tr, lt, (hF.1 _ (by decide)).trans g13, (hF.1 _ (by decide)).trans g13b, g13c, g13d⟩, hc, ha, hf, g17, g18, g19⟩, ⟨z, c + cnO o, (hF.1 _ (by decide)).trans z1, z2, h8, hc, ho z z1 z2, trivial⟩, ⟨hfx, trivial⟩, hF.mono (by decide) (fun _ h => by cases h) (by decide) (by decide), ⟨hk, fun i _ => by rw [hF.2.2.1 45 (by decide)], fun i _ => ⟨by rw [hF.2.2.1 27 (by decide)], by rw [hF.2.2.1 28 (by decide)], by rw [hF.2.2.1 29 (by decide)], by rw [hF.2.2.1 30 (by decide)]⟩⟩, hnK⟩
  rcases Nat.lt_or_ge i f with h20 | h20
  · obtain ⟨p, q1, q2⟩ := g12 i h20
    exact ⟨p, (hk.2.2 i h20).1.trans q1, by omega⟩
  · have h21 := fxO_le o
    have h22 : fxO o = 1 := by omega
    have h23 := fxO_l h22
    obtain rfl : i = f := by omega
    exact ⟨a, (hfx h22).1, by omega⟩
theorem yOK_e {a c f k : Nat} {sc : SCs} {at' : List Nat} {S S1 : cS} {o : Op} (h : yG A n S0 z0 fb a0 s ab k sc at' a c f S) (h60 : o.1 ≠ 60) (h10 : sI S1 4310 = sI S 4310) (hF : FrT [2307, 2308, 3214, 4310, 4403, 4404] [] [24, 41, 42] [25, 26] S S1) (hk : kP a c f S S1) (h7 : sI S1 2307 = nI (a + lC o)) (h8 : sI S1 2308 = nI (c + cnO o)) (h14 : sI S1 3214 = nI (f + fxO o)) (hc : c + cnO o ≤ 5200) (ha : a + lC o ≤ 40960) (hf : f + fxO o ≤ 1600) (hfx : fxO o = 1 → sA S1 41 f = nI a ∧ sA S1 42 f = nI (o.2.1.getD 1 0)) (ho : ∀ z, sI S 1607 = nI z → z ≤ 4096 → oC (by1 A) n S1 z (c + cnO o) fb a o) : yOK A n S0 z0 fb a0 s ab S a c f (k, [o], sc, at') S1 := by
  obtain ⟨g1, g2, g3, g4⟩ := yG_e h hF hk h7 h8 h14 hc ha hf hfx ho
  have e : bks a [o] = [] := if_neg h60
  have e2 : fxM [o] = fxO o := Nat.add_zero _
  refine ⟨?_, g2, g3, g4, ?_, ?_⟩
  · dsimp only
    rw [show wC [o] = lC o from Nat.add_zero _, show cnN [o] = cnO o from Nat.add_zero _, e2]
    exact g1
  · dsimp only
    rw [e]
    exact h10
  · dsimp only
    rw [e]
    trivial
/-- a word below is told anew, in the state before and in the one behind -/
theorem yOK_hole {a c f p : Nat} {v : Int32} {x : PT} {S S1 : cS} (h : yOK A n S0 z0 fb a0 s ab S a c f x S1) (hp : p < a) : yOK A n S0 z0 fb a0 s ab (wA 24 p v S) a c f x (wA 24 p v S1) := by
  obtain ⟨h1, h2, h3, h4, h5, h6⟩ := h
  have hu : ∀ i, i ≠ p → sA (wA 24 p v S1) 24 i = sA S1 24 i := fun i hi => by
    show upd (sA S1 24) p v i = _
    rw [upd_at, if_neg hi]
  refine ⟨yG_W h1 (FrT_wA (by decide) (FrT.refl _ _ _ _ _)), ?_, fxS_mono (S := S1) (S1 := wA 24 p v S1) (hi := f + fxM x.2.1) _ _ _ (fun i _ => ⟨rfl, rfl⟩) (Nat.le_refl _) h3, ⟨?_, ?_, nK_S h4.2.2 rfl rfl (fun _ _ => rfl) (fun _ _ => rfl)⟩, ?_, h6⟩
  · obtain ⟨z, c', i1, i2, i3, i4, i5⟩ := h2
    exact ⟨z, c', i1, i2, i3, i4, lsC_mono x.2.1 a (hi := a + wC x.2.1) ⟨Nat.le_refl _, Nat.le_refl _, fun i h6 h7 => hu i (by omega), fun _ _ => ⟨rfl, rfl⟩, fun _ _ => ⟨rfl, rfl⟩⟩ (Nat.le_refl _) i5⟩
  · exact (FrT.trans (FrT.symm (FrT_wA (by decide) (FrT.refl _ _ _ _ _))) h4.1).trans (FrT_wA (by decide) (FrT.refl _ _ _ _ _))
  · obtain ⟨⟨q1, q2, q3⟩, q4, q5⟩ := h4.2.1
    refine ⟨⟨fun i hi => ?_, q2, q3⟩, q4, q5⟩
    show upd (sA S1 24) p v i = upd (sA S 24) p v i
    rw [upd_at, upd_at]
    split
    · rfl
    · exact q1 i hi
  · exact chL_S _ _ (fun q hq => hu _ (by have := chD_mem _ _ h6 q hq; omega)) h5
theorem rsv_lC {β : Nat → Nat} {m z cc t : Nat} {S S1 : cS} {K : Nat → Nat} {ce re : Nat} (hL : ∀ x, x ∈ [17, 18, 25, 26] → sL S1 x = sL S x) : ∀ (os : List Op) (a c r : Nat), lsC β m S z cc fb a os → (∀ i, a ≤ i → (∀ p, p ∈ bks a os → i ≠ p + 1) → sA S1 24 i = sA S 24 i) → (∀ p, p ∈ bks a os → sA S1 24 (p + 1) = nI t) → (t : Int) - a = (ce : Int) - c → lsC β m S1 z cc fb a (rsv K ce re c r os) := by
  intro os
  induction os with
  | nil => intro a c r _ _ _ _; trivial
  | cons o l ih =>
    intro a c r h h1 h2 h3
    have hb : ∀ p, p ∈ bks (a + lC o) l → a + lC o ≤ p := bks_ge l (a + lC o)
    have hl1 := fun h => lC_1 (o := o) h
    have hle : ∀ e : lC (if o.1 = 60 then (4, [], (ce : Int) - c, (re : Int) - (r + 1)) else o) = lC o, lsC β m S1 z cc fb a (rsv K ce re c r (o :: l)) ↔ oC β m S1 z cc fb a (if o.1 = 60 then (4, [], (ce : Int) - c, (re : Int) - (r + 1)) else o) ∧ lsC β m S1 z cc fb (a + lC o) (rsv K ce re (c + lC o) (r + lR K o) l) := fun e => by
      show oC β m S1 z cc fb a _ ∧ lsC β m S1 z cc fb (a + lC _) _ ↔ _
      rw [e]
    by_cases h60 : o.1 = 60
    · have hbk : bks a (o :: l) = a :: bks (a + lC o) l := if_pos h60
      rw [hbk] at h1 h2
      have hl := lC_60 h60
      rw [hle (by rw [if_pos h60, hl]; rfl)]
      refine ⟨?_, ih _ _ _ h.2 (fun i i1 i2 => h1 i (by omega) (fun p hp => ?_)) (fun p hp => h2 p (List.mem_cons_of_mem _ hp)) (by omega)⟩
      · rw [if_pos h60]
        refine ⟨fun _ => ?_, fun h => ?_, fun h => ?_, fun _ => ⟨t, h2 a List.mem_cons_self, by dsimp only; omega⟩, fun h => ?_, fun h => ?_, fun h => ?_, fun h => ?_⟩
        · rw [h1 a (Nat.le_refl _) (fun p hp => by
            rcases List.mem_cons.mp hp with rfl | hp
            · omega
            · have := hb p hp; omega)]
          have := h.1.1 (by omega)
          rw [h60] at this
          exact this
        all_goals (exfalso; dsimp only at h; omega)
      · rcases List.mem_cons.mp hp with rfl | hp
        · omega
        · exact i2 p hp
    · have hbk : bks a (o :: l) = bks (a + lC o) l := if_neg h60
      rw [hbk] at h1 h2
      rw [hle (by rw [if_neg h60])]
      refine ⟨?_, ih _ _ _ h.2 (fun i i1 i2 => h1 i (by omega) i2) h2 (by omega)⟩
      rw [if_neg h60]
      exact oC_mono (hi := a + lC o) ⟨Nat.le_refl _, Nat.le_refl _, fun i i1 i2 => h1 i i1 (fun p hp => by have := hb p hp; omega), fun i _ => by rw [hL 25 (by decide), hL 26 (by decide)]; exact ⟨rfl, rfl⟩, fun i _ => by rw [hL 17 (by decide), hL 18 (by decide)]; exact ⟨rfl, rfl⟩⟩ (Nat.le_refl _) h.1
end
