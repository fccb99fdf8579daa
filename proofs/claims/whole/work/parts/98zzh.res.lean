/-! WHAT A RULE OF STATEMENTS GIVES in the class: a fault or steps put; its parts one behind the other -/
/-- what is ahead finds room: W bytes are left -/
def yZ (W dp a c f e sn fn : Nat) : Prop := a + 3 * W ≤ 39000 ∧ 2 * c + W ≤ 10300 ∧ 2 * f + W ≤ 3015 ∧ 2 * e + W ≤ 3015 ∧ 23 * sn + 2 * W ≤ 6030 + 5 * dp ∧ 23 * fn + 2 * W ≤ 20480 + 5 * dp
def yRes (A : Nat → Int32) (n : Nat) (S0 : cS) (z0 fb a0 s ab : Nat) (B : cS) (a c f qa qc qf qe : Nat) (r : PSr) (S : cS) : Prop := (∀ x, r = .inr x → yOK A n S0 z0 fb a0 s ab B a c f x S) ∧ ∀ l, r = .inl l → yB A n S0 z0 fb l a c f ab (a + 2) [] qa qc qf qe 280 893 B S
def sbp (os : List Op) (r : PSr) : PSr := sb r fun x => .inr (x.1, os ++ x.2.1, x.2.2.1, x.2.2.2)
section
variable {A : Nat → Int32} {n z0 fb a0 s ab d : Nat} {S0 B : cS}
/-- a fault behind what need not be all told -/
theorem yB_base {a c f a2 c2 f2 lo lo2 l : Nat} {H H2 qs : List Nat} {qa qc qf qe qn qm : Nat} {S S2 S3 : cS} (hF : yF fb a c f ab S S2) (hq : chL S2 (sI S 4310) qs (sI S2 4310)) (hD : chD lo a2 qs) (hH : ∀ p, p ∈ H → p + 2 ≤ a2 ∧ p ∉ qs ∨ p ∈ H2 ∧ a2 ≤ p) (ha : a ≤ a2) (hc : c ≤ c2) (hf : f ≤ f2) (hlo : a2 + 2 ≤ lo2) (hlo1 : a ≤ lo) (hlo3 : lo ≤ a2 + 2) (g : yB A n S0 z0 fb l a2 c2 f2 ab lo2 H2 qa qc qf qe qn qm S2 S3) : yB A n S0 z0 fb l a c f ab lo H qa qc qf qe qn qm S S3 := by
  obtain ⟨g1, ⟨a', c', f', s', e, sn, fn, av, tv, lv, l', b1, b2, b3, b4, b5, b6, b7, b8, b9, bfl, blo, bb⟩, g3, ⟨ps, t, k1', k2, k3, k4, k5⟩, g5, g6⟩ := g
  have htop : a2 ≤ t := by
    have e1 := nI_inj (a := t) (b := a') (by omega) (by omega) (k1'.symm.trans b1.1)
    omega
  refine ⟨g1, ⟨a', c', f', s', e, sn, fn, av, tv, lv, l', b1, b2, b3, b4, b5, b6, b7, b8, b9, bfl, by omega, bb⟩, yF_trans hF g3 ha hc hf (Nat.le_refl _), ⟨ps ++ qs, t, k1', k2, chL_app _ _ _ k3 (chL_S _ _ (fun p hp => g3.2.1.1.1 _ (by have := chD_mem _ _ hD p hp; omega)) hq), chD_app hlo3 _ _ _ (chD_lo hlo _ _ k4) hD htop, fun p hp => ?_⟩, hlo1, g6⟩
  rcases hH p hp with ⟨h7, h8⟩ | ⟨h7, h8⟩
  · refine ⟨by omega, fun hc => ?_⟩
    rcases List.mem_append.mp hc with h9 | h9
    · have := chD_mem _ _ k4 p h9
      omega
    · exact h8 h9
  · obtain ⟨i1, i2⟩ := k5 p h7
    refine ⟨i1, fun hc => ?_⟩
    rcases List.mem_append.mp hc with h9 | h9
    · exact i2 h9
    · have := chD_mem _ _ hD p h9
      omega
theorem yRes_le {a c f qa qc qf qe pa pc pf pe : Nat} {r : PSr} {S : cS} (h : yRes A n S0 z0 fb a0 s ab B a c f qa qc qf qe r S) (h1 : qa ≤ pa) (h2 : qc ≤ pc) (h3 : qf ≤ pf) (h4 : qe ≤ pe) : yRes A n S0 z0 fb a0 s ab B a c f pa pc pf pe r S := ⟨h.1, fun l hl => yB_le (h.2 l hl) h1 h2 h3 h4 (Nat.le_refl _) (Nat.le_refl _)⟩
theorem yRes_pre {a c f k1 qa qc qf qe : Nat} {os : List Op} {sc1 : SCs} {at1 : List Nat} {r : PSr} {S S1 : cS} (h : yOK A n S0 z0 fb a0 s ab B a c f (k1, os, sc1, at1) S) (g : yRes A n S0 z0 fb a0 s ab S (a + wC os) (c + cnN os) (f + fxM os) qa qc qf qe r S1) : yRes A n S0 z0 fb a0 s ab B a c f qa qc qf qe (sbp os r) S1 := by
  refine ⟨fun x hx => ?_, fun l hl => ?_⟩
  · cases r with
    | inl l => cases hx
    | inr y =>
      have hx : (.inr (y.1, os ++ y.2.1, y.2.2.1, y.2.2.2) : PSr) = .inr x := hx
      injection hx with hx
      subst hx
      exact yOK_app h (g.1 y rfl)
  · cases r with
    | inr y => cases hl
    | inl l' =>
      have hl : (.inl l' : PSr) = .inl l := hl
      injection hl with hl
      subst hl
      exact yOK_bad h (g.2 l' rfl) (Nat.le_refl _) (fun p hp => by cases hp)
/-- at once a fault -/
theorem yRes_bad {a c f k l qa qc qf qe : Nat} {os : List Op} {sc : SCs} {at' : List Nat} {S S1 : cS} (hn : n ≤ 3000) (h : yOK A n S0 z0 fb a0 s ab B a c f (k, os, sc, at') S) (hB : cB A n S0 z0 l S1) (hF : FrT lxI lxJ [19, 20] [17, 18] S S1) (hnK : nK S S1) (ha : a + wC os ≤ qa) (hc : c + cnN os ≤ qc) (hf : f + fxM os ≤ qf) (he : sc.2.length ≤ qe) (hs : sc.1.length ≤ 280) (hfn : fb + sc.1.length ≤ 894) : yB A n S0 z0 fb l a c f ab (a + 2) [] qa qc qf qe 280 893 B S1 :=
  yOK_bad h (yB_le (yG_bad hn h.1 hB hF hnK (lo := a + wC os + 2) (by dsimp only; omega)) ha hc hf he hs (by dsimp only; omega)) (Nat.le_refl _) (fun p hp => by cases hp)
/-- the end of a line -/
theorem ln_T {a c f k l qa qc qf qe : Nat} {os : List Op} {sc : SCs} {at' : List Nat} {S : cS} (hX : pX A n S0 z0) (h0 : qK (by1 A) n 0 ≠ 1) (h : yOK A n S0 z0 fb a0 s ab B a c f (k, os, sc, at') S) (hl : qL (by1 A) n k = l) (ha : a + wC os ≤ qa) (hc : c + cnN os ≤ qc) (hf : f + fxM os ≤ qf) (he : sc.2.length ≤ qe) (hs : sc.1.length ≤ 280) (hfn : fb + sc.1.length ≤ 894) : ∃ S1, Ans (d + 8) 86 [.ref 31] S none S1 ∧ yRes A n S0 z0 fb a0 s ab B a c f qa qc qf qe (ln (qK (by1 A) n) l k os sc at') S1 := by
  have hP := h.1.1
  by_cases h2 : qK (by1 A) n k = 2
  · obtain ⟨S1, p1, p2, p3, p4⟩ := nextLine_T (d := d + 2) hX hP h2
    refine ⟨S1, p1, fun x hx => ?_, fun l' hl' => ?_⟩
    · unfold ln at hx
      rw [if_pos h2] at hx
      injection hx with hx
      subst hx
      exact yOK_lx h p2 p3 p4
    · unfold ln at hl'
      rw [if_pos h2] at hl'
      cases hl'
  · obtain ⟨S1, p1, p2, p3, p4⟩ := nextLine_F (d := d + 6) hX h0 hP h2
    refine ⟨S1, p1, fun x hx => ?_, fun l' hl' => ?_⟩
    · unfold ln at hx
      rw [if_neg h2] at hx
      cases hx
    · unfold ln at hl'
      rw [if_neg h2] at hl'
      injection hl' with hl'
      subst hl'
      rw [hl] at p2
      exact yRes_bad hX.1 h p2 p3 p4 ha hc hf he hs hfn
/-- a token that is there; a token that is not -/
theorem pass_O {a c f k t : Nat} {os : List Op} {sc : SCs} {at' : List Nat} {S : cS} (hX : pX A n S0 z0) (h : yOK A n S0 z0 fb a0 s ab B a c f (k, os, sc, at') S) (ht : qK (by1 A) n k = t) (ht3 : 3 ≤ t) : ∃ S1, Ans (d + 8) 75 [.ref 31, .int (nI t)] S none S1 ∧ yOK A n S0 z0 fb a0 s ab B a c f (k + 1, os, sc, at') S1 ∧ (∀ x, x ∈ [4310, 4403, 4404] → sI S1 x = sI S x) ∧ nK S S1 := by
  obtain ⟨S1, p1, p2, p3, p4⟩ := pass_T (d := d + 1) hX h.1.1 ht ht3
  exact ⟨S1, p1, yOK_lx h p2 (lxy p3) p4, fun x hx => p3.1 x (by
    have : ∀ x, x ∈ [4310, 4403, 4404] → x ∉ lxI := by decide
    exact this x hx), p4⟩
theorem read_O {a c f k : Nat} {os : List Op} {sc : SCs} {at' : List Nat} {S : cS} (hX : pX A n S0 z0) (h : yOK A n S0 z0 fb a0 s ab B a c f (k, os, sc, at') S) (ht : 3 ≤ qK (by1 A) n k) : ∃ S1, Ans (d + 8) 40 [.ref 31] S none S1 ∧ yOK A n S0 z0 fb a0 s ab B a c f (k + 1, os, sc, at') S1 ∧ (∀ x, x ∈ [4310, 4403, 4404] → sI S1 x = sI S x) ∧ nK S S1 := by
  obtain ⟨S1, p1, p2, p3, p4⟩ := read_T (d := d + 3) (k := k) hX h.1.1 (by omega) (by omega) (by omega)
  exact ⟨S1, p1, yOK_lx h p2 (lxy p3) p4, fun x hx => p3.1 x (by
    have : ∀ x, x ∈ [4310, 4403, 4404] → x ∉ lxI := by decide
    exact this x hx), p4⟩
theorem pass_X {a c f k t qa qc qf qe : Nat} {os : List Op} {sc : SCs} {at' : List Nat} {S : cS} (hX : pX A n S0 z0) (h0 : qK (by1 A) n 0 ≠ 1) (h : yOK A n S0 z0 fb a0 s ab B a c f (k, os, sc, at') S) (ht : qK (by1 A) n k ≠ t) (ht2 : t < 100) (ha : a + wC os ≤ qa) (hc : c + cnN os ≤ qc) (hf : f + fxM os ≤ qf) (he : sc.2.length ≤ qe) (hs : sc.1.length ≤ 280) (hfn : fb + sc.1.length ≤ 894) : ∃ S1, Ans (d + 8) 75 [.ref 31, .int (nI t)] S none S1 ∧ yB A n S0 z0 fb (qL (by1 A) n k) a c f ab (a + 2) [] qa qc qf qe 280 893 B S1 := by
  obtain ⟨S1, p1, p2, p3, p4⟩ := pass_F (d := d + 6) hX h0 h.1.1 ht (by omega)
  exact ⟨S1, p1, yRes_bad hX.1 h p2 p3 p4 ha hc hf he hs hfn⟩
theorem fail_X {a c f k qa qc qf qe : Nat} {os : List Op} {sc : SCs} {at' : List Nat} {S : cS} (hX : pX A n S0 z0) (h0 : qK (by1 A) n 0 ≠ 1) (h : yOK A n S0 z0 fb a0 s ab B a c f (k, os, sc, at') S) (ha : a + wC os ≤ qa) (hc : c + cnN os ≤ qc) (hf : f + fxM os ≤ qf) (he : sc.2.length ≤ qe) (hs : sc.1.length ≤ 280) (hfn : fb + sc.1.length ≤ 894) : ∃ S1, Ans (d + 8) 44 [.ref 31] S none S1 ∧ yB A n S0 z0 fb (qL (by1 A) n k) a c f ab (a + 2) [] qa qc qf qe 280 893 B S1 := by
  obtain ⟨S1, p1, p2, p3, p4⟩ := fail_T (d := d + 7) hX h0 h.1.1
  exact ⟨S1, p1, yRes_bad hX.1 h p2 p3 p4 ha hc hf he hs hfn⟩
/-- an expression behind some steps -/
theorem ex_O {a c f k W dp : Nat} {os : List Op} {sc : SCs} {at' : List Nat} {S : cS} (hX : pX A n S0 z0) (h0 : qK (by1 A) n 0 ≠ 1) (h : yOK A n S0 z0 fb a0 s ab B a c f (k, os, sc, at') S) (hW : n + 1 ≤ W + qP (by1 A) n k) (hdp : dp ≤ 12) (hz : yZ W dp (a + wC os) (c + cnN os) (f + fxM os) sc.2.length sc.1.length (fb + sc.1.length - 1)) (hD : 240 ≤ d) : ∃ S1, Ans d 57 [.ref 44, .int (nI 0)] S none S1 ∧ (∀ r, exs (qK (by1 A) n) s k = some r → yOK A n S0 z0 fb a0 s ab B a c f (r.1, os ++ r.2.2, sc, at') S1 ∧ sI S1 4403 = nI r.2.1 ∧ (r.2.1 ≠ 0 → sI S1 4404 = nI (a + wC os + wC r.2.2 - tl1 r.2.1))) ∧ (exs (qK (by1 A) n) s k = none → yB A n S0 z0 fb (qL (by1 A) n k) a c f ab (a + 2) [] 39560 5150 1508 1508 280 893 B S1 ∧ ∃ t, sI S1 2307 = nI t ∧ t ≤ 40960 ∧ tgA S1 (a + wC os) t) := by
  obtain ⟨z1, z2, z3, z4, z5, z6⟩ := hz
  have hq := q_lt (by1 A) n k
  obtain ⟨S1, p1, p2, p3, p4⟩ := ex_T (D := d) (qa := 39560) (qc := 5150) (qf := 1508) hX h0 h.1 (by dsimp only; omega) (by omega) (by dsimp only; omega) (by omega) (by dsimp only; omega) (by omega) hD
  refine ⟨S1, p1, fun r hr => ?_, fun hr => ?_⟩
  · obtain ⟨b1, b2, b3⟩ := p3 r hr
    exact ⟨yOK_app h b1, b2, b3⟩
  · obtain ⟨b1, b2⟩ := p4 hr
    refine ⟨yOK_bad h (yB_le (b1 (a + wC os + 2) (by dsimp only; omega)) (Nat.le_refl _) (Nat.le_refl _) (Nat.le_refl _) ?_ ?_ ?_) (Nat.le_refl _) (fun p hp => by cases hp), b2⟩
    · dsimp only; omega
    · dsimp only; omega
    · dsimp only; omega
end
