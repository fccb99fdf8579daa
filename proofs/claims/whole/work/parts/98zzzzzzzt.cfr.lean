/-! THE CLASS'S MACHINE: what it leaves as it was; a row has grown -/
def cfI : List Nat := [213, 214, 215, 216, 1608, 4603, 4906, 4907]
def cfA : List Nat := [3, 4, 5, 6, 7, 8, 9, 10, 12, 13, 14, 15, 50, 51]
def cfL : List Nat := [21, 22, 47, 48]
def CFg (I A : List Nat) (S W : cS) : Prop := sJ W = sJ S ∧ sV W = sV S ∧ (∀ i, i ∉ I → sI W i = sI S i) ∧ (∀ a, a ∉ A → sA W a = sA S a) ∧ (∀ a, a < 108 → a ∉ cfL → sL W a = sL S a) ∧ (∀ a, 108 ≤ a → a < 108 + (sS S).length → (∀ k, k ≤ 1500 → sQ S 11 k ≠ some a) → sL W a = sL S a) ∧ (∀ a, a ≠ 11 → sQ W a = sQ S a) ∧ (∃ l, sS W = sS S ++ l) ∧ (∀ k a, k ≤ 1500 → sQ W 11 k = some a → sQ S 11 k = some a ∨ 108 + (sS S).length ≤ a) ∧ mu W + rwC S ≤ mu S + rwC W ∧ (sS W).length + rwN S ≤ (sS S).length + rwN W
/-- what a call of the class's heap, stack and names leaves alone; what a deed (no call, no flow) leaves alone -/
def cfI0 : List Nat := [213, 214, 215, 216, 1608, 4603]
def cfA0 : List Nat := [3, 4, 5, 6, 7, 8, 9, 10, 12, 13, 14, 15]
def CFm (S W : cS) : Prop := CFg cfI0 cfA0 S W
def CFr (S W : cS) : Prop := CFg cfI cfA S W
theorem CFm.wide {S W : cS} (h : CFm S W) : CFr S W := by
  obtain ⟨a1, a2, a3, a4, a5⟩ := h
  have s1 : ∀ i, i ∈ cfI0 → i ∈ cfI := by decide
  have s2 : ∀ i, i ∈ cfA0 → i ∈ cfA := by decide
  exact ⟨a1, a2, fun i hi => a3 i (fun c => hi (s1 i c)), fun i hi => a4 i (fun c => hi (s2 i c)), a5⟩
theorem CFg.refl (I A : List Nat) (S : cS) : CFg I A S S := ⟨rfl, rfl, fun _ _ => rfl, fun _ _ => rfl, fun _ _ _ => rfl, fun _ _ _ _ => rfl, fun _ _ => rfl, ⟨[], (List.append_nil _).symm⟩, fun _ _ _ h => Or.inl h, Nat.le_refl _, Nat.le_refl _⟩
theorem CFg.trans {I A : List Nat} {S S1 S2 : cS} (h : CFg I A S S1) (g : CFg I A S1 S2) : CFg I A S S2 := by
  obtain ⟨a1, a2, a3, a4, a5, a6, a7, ⟨l, a8⟩, a9, a10, a11⟩ := h
  obtain ⟨b1, b2, b3, b4, b5, b6, b7, ⟨m, b8⟩, b9, b10, b11⟩ := g
  have hl : (sS S).length ≤ (sS S1).length := by rw [a8, List.length_append]; omega
  refine ⟨b1.trans a1, b2.trans a2, fun i hi => (b3 i hi).trans (a3 i hi), fun a ha => (b4 a ha).trans (a4 a ha), fun a h1 h2 => (b5 a h1 h2).trans (a5 a h1 h2), fun a h1 h2 h3 => (b6 a h1 (by omega) (fun k hk c => ?_)).trans (a6 a h1 h2 h3), fun a ha => (b7 a ha).trans (a7 a ha), ⟨l ++ m, by rw [b8, a8, List.append_assoc]⟩, fun k a hk hq => ?_, by omega, by omega⟩
  · rcases a9 k a hk c with e | e
    · exact h3 k hk e
    · omega
  · rcases b9 k a hk hq with e | e
    · exact a9 k a hk e
    · exact Or.inr (by omega)
theorem CFr.refl (S : cS) : CFr S S := CFg.refl _ _ S
theorem CFr.trans {S S1 S2 : cS} (h : CFr S S1) (g : CFr S1 S2) : CFr S S2 := CFg.trans h g
theorem CFm.refl (S : cS) : CFm S S := CFg.refl _ _ S
theorem CFm.trans {S S1 S2 : cS} (h : CFm S S1) (g : CFm S1 S2) : CFm S S2 := CFg.trans h g
theorem rlen_S {S W : cS} (hQ : sQ W = sQ S) (hS : sS W = sS S) (k : Nat) : rlen W k = rlen S k := by
  unfold rlen
  rw [hQ, hS]
theorem CFm_FrL {L1 L2 L3 : List Nat} {S W : cS} (h : FrL L1 L2 L3 S W) (h1 : ∀ i, i ∈ L1 → i ∈ cfI0) (h2 : ∀ a, a ∈ L2 → a ∈ cfA0) (h3 : ∀ a, a ∈ L3 → a ∈ cfL) : CFm S W := by
  have hb : ∀ a, a ∈ cfL → a < 108 := by decide
  have e1 : rwC W = rwC S := sumN_congr (fun k _ => by rw [rlen_S h.2.2.2.1 h.2.2.2.2.1])
  have e2 : rwN W = rwN S := sumN_congr (fun k _ => by rw [rlen_S h.2.2.2.1 h.2.2.2.2.1])
  refine ⟨h.1, h.2.2.1, fun i hi => h.I (fun c => hi (h1 i c)), fun a ha => h.A (fun c => ha (h2 a c)), fun a _ ha => h.2.1 a (fun c => ha (h3 a c)), fun a ha _ _ => h.2.1 a (fun c => by have := hb a (h3 a c); omega), fun a _ => by rw [h.2.2.2.1], ⟨[], by rw [h.2.2.2.2.1, List.append_nil]⟩, fun k a _ hq => Or.inl (by rw [← h.2.2.2.1]; exact hq), by rw [h.2.2.2.2.2.1, e1]; omega, by rw [h.2.2.2.2.1, e2]; omega⟩
theorem CFm_KX {K : List Nat} {S W : cS} (h : KX K S W) : CFm S W := CFm_FrL h.1 (by decide) (by decide) (by decide)
theorem CFr_KX {K : List Nat} {S W : cS} (h : KX K S W) : CFr S W := (CFm_KX h).wide
theorem rwL_FrL {L1 L2 L3 : List Nat} {S W : cS} (h : FrL L1 L2 L3 S W) (hR : rwL S) : rwL W := fun k a hk hq => by
  rw [h.2.2.2.1] at hq
  rw [h.2.2.2.2.1]
  exact hR k a hk hq
section
variable {d t x k q : Nat} {S W : cS} {g : Nat → Nat}
theorem gr_F (h : grS S W k q) : sJ W = sJ S ∧ sV W = sV S ∧ sI W = sI S ∧ sA W = sA S ∧ (∀ a, a ≠ 108 + (sS S).length → sL W a = sL S a) ∧ (∀ b, b ≠ 11 → sQ W b = sQ S b) ∧ (∀ j, j ≠ k → sQ W 11 j = sQ S 11 j) := by
  rcases h with ⟨e, _⟩ | ⟨_, f, e, _⟩
  · subst e
    exact ⟨rfl, rfl, rfl, rfl, fun _ _ => rfl, fun _ _ => rfl, fun _ _ => rfl⟩
  · subst e
    refine ⟨rfl, rfl, rfl, rfl, fun a ha => if_neg ha, fun b hb => if_neg hb, fun j hj => ?_⟩
    show (if (11 : Nat) = 11 then va_up (sQ S 11) k (some (108 + (sS S).length)) else sQ S 11) j = _
    rw [if_pos rfl]
    exact if_neg hj
/-- the row that k has then -/
theorem gr_row (h : grS S W k q) (hk : k ≤ 1500) (hq : q ≤ 600) (hR : rwL S) : (∃ a N, sQ W 11 k = some a ∧ 108 ≤ a ∧ (sS W)[a - 108]? = some (1, N) ∧ q ≤ N ∧ (N = 16 ∨ N = 64 ∨ N = 240 ∨ N = 600)) ∧ (∀ i, i < rlen S k → sL W (h_row W k) i = sL S (h_row S k) i) ∧ (∃ l, sS W = sS S ++ l) ∧ rwL W ∧ (∀ j a, j ≤ 1500 → sQ W 11 j = some a → sQ S 11 j = some a ∨ (j = k ∧ a = 108 + (sS S).length)) ∧ mu W + rcst (rlen S k) ≤ mu S + rcst (rlen W k) ∧ (sS W).length + rcel (rlen S k) ≤ (sS S).length + rcel (rlen W k) ∧ ∀ j, j ≤ 1500 → j ≠ k → rlen W j = rlen S j := by
  rcases h with ⟨e, ⟨a, ha⟩, hl⟩ | ⟨hl, f, e, hf⟩
  · subst e
    obtain ⟨a1, N, a2, a3⟩ := hR k a hk ha
    rw [rlen_e ha a2] at hl
    exact ⟨⟨a, N, ha, a1, a2, hl, a3⟩, fun _ _ => rfl, ⟨[], (List.append_nil _).symm⟩, hR, fun j a _ h => Or.inl h, Nat.le_refl _, Nat.le_refl _, fun _ _ _ => rfl⟩
  · have hQk : sQ W 11 k = some (108 + (sS S).length) := by
      rw [e]
      show (if (11 : Nat) = 11 then va_up (sQ S 11) k (some (108 + (sS S).length)) else sQ S 11) k = _
      rw [if_pos rfl]
      exact if_pos rfl
    have hQj : ∀ j, j ≠ k → sQ W 11 j = sQ S 11 j := (gr_F (Or.inr ⟨hl, f, e, hf⟩)).2.2.2.2.2.2
    have hS : sS W = sS S ++ [(1, lgr q)] := by rw [e]; rfl
    have hL : sL W (108 + (sS S).length) = f := by rw [e]; exact if_pos rfl
    have hat : (sS W)[108 + (sS S).length - 108]? = some (1, lgr q) := new_at hS
    have hmu : mu W = mu S + lgr q := by rw [e]; rfl
    obtain ⟨l1, l2, l3⟩ := lgr_le hq
    have hN4 : lgr q = 16 ∨ lgr q = 64 ∨ lgr q = 240 ∨ lgr q = 600 := by
      unfold lgr
      split
      · omega
      · split
        · omega
        · split <;> omega
    have hold : ∀ j a, j ≤ 1500 → sQ S 11 j = some a → a < 108 + (sS S).length ∧ (sS W)[a - 108]? = (sS S)[a - 108]? := fun j a hj ha => by
      obtain ⟨a1, N, a2, a3⟩ := hR j a hj ha
      have hlt := (List.getElem?_eq_some_iff.mp a2).1
      exact ⟨by omega, by rw [hS, List.getElem?_append_left hlt]⟩
    have hrl : rlen W k = lgr q := rlen_e hQk hat
    have hr0 : rlen S k = 0 ∨ rlen S k = 16 ∨ rlen S k = 64 ∨ rlen S k = 240 ∨ rlen S k = 600 := by
      cases hq0 : sQ S 11 k with
      | none => left; unfold rlen; rw [hq0]
      | some a =>
        obtain ⟨a1, N, a2, a3⟩ := hR k a hk hq0
        rw [rlen_e hq0 a2]
        omega
    obtain ⟨c1, c2⟩ := rcst_gr hr0 hl hq
    refine ⟨⟨_, lgr q, hQk, Nat.le_add_right _ _, hat, l1, hN4⟩, fun i hi => ?_, ⟨_, hS⟩, fun j a hj ha => ?_, fun j a hj ha => ?_, by rw [hrl, hmu]; omega, by rw [hrl, hS, List.length_append]; show _ + 1 + _ ≤ _; omega, fun j hj hjk => ?_⟩
    · have : h_row W k = 108 + (sS S).length := by unfold h_row; rw [hQk]; rfl
      rw [this, hL]
      exact hf i hi
    · by_cases hjk : j = k
      · rw [hjk, hQk] at ha
        injection ha with ha
        rw [← ha]
        exact ⟨Nat.le_add_right _ _, lgr q, hat, hN4⟩
      · rw [hQj j hjk] at ha
        rw [(hold j a hj ha).2]
        exact hR j a hj ha
    · by_cases hjk : j = k
      · rw [hjk, hQk] at ha
        injection ha with ha
        exact Or.inr ⟨hjk, ha.symm⟩
      · rw [hQj j hjk] at ha
        exact Or.inl ha
    · unfold rlen
      rw [hQj j hjk]
      cases hq0 : sQ S 11 j with
      | none => rfl
      | some a =>
        show ((sS W)[a - 108]?.getD (0, 0)).2 = ((sS S)[a - 108]?.getD (0, 0)).2
        rw [(hold j a hj hq0).2]
theorem gr_CFm (h : grS S W k q) (hk : k ≤ 1500) (hq : q ≤ 600) (hR : rwL S) : CFm S W := by
  obtain ⟨f1, f2, f3, f4, f5, f6, f7⟩ := gr_F h
  obtain ⟨_, _, r3, _, r5, r6, r7, r8⟩ := gr_row h hk hq hR
  have s1 := sumN_upd (f := fun j => rcst (rlen S j)) (g := fun j => rcst (rlen W j)) (k := k) (n := 1501)
  have h1 : rwC W + rcst (rlen S k) = rwC S + rcst (rlen W k) := by
    have : ∀ (n : Nat), n ≤ 1501 → k < n → sumN (fun j => rcst (rlen W j)) n + rcst (rlen S k) = sumN (fun j => rcst (rlen S j)) n + rcst (rlen W k) := fun n hn hkn => by
      have h2 := sumN_upd (f := fun j => rcst (rlen S j)) (g := fun j => if j ≤ 1500 then rcst (rlen W j) else rcst (rlen S j)) (k := k) (fun j hj => by
        show (if j ≤ 1500 then rcst (rlen W j) else rcst (rlen S j)) = rcst (rlen S j)
        split
        · rename_i hj2
          rw [r8 j hj2 hj]
        · rfl) hkn
      simp only [if_pos hk] at h2
      rw [sumN_congr (g := fun j => if j ≤ 1500 then rcst (rlen W j) else rcst (rlen S j)) (fun j hj => (if_pos (by omega)).symm)]
      exact h2
    unfold rwC
    exact this 1501 (Nat.le_refl _) (by omega)
  have h2 : rwN W + rcel (rlen S k) = rwN S + rcel (rlen W k) := by
    have : ∀ (n : Nat), n ≤ 1501 → k < n → sumN (fun j => rcel (rlen W j)) n + rcel (rlen S k) = sumN (fun j => rcel (rlen S j)) n + rcel (rlen W k) := fun n hn hkn => by
      have h2 := sumN_upd (f := fun j => rcel (rlen S j)) (g := fun j => if j ≤ 1500 then rcel (rlen W j) else rcel (rlen S j)) (k := k) (fun j hj => by
        show (if j ≤ 1500 then rcel (rlen W j) else rcel (rlen S j)) = rcel (rlen S j)
        split
        · rename_i hj2
          rw [r8 j hj2 hj]
        · rfl) hkn
      simp only [if_pos hk] at h2
      rw [sumN_congr (g := fun j => if j ≤ 1500 then rcel (rlen W j) else rcel (rlen S j)) (fun j hj => (if_pos (by omega)).symm)]
      exact h2
    unfold rwN
    exact this 1501 (Nat.le_refl _) (by omega)
  refine ⟨f1, f2, fun i _ => by rw [f3], fun a _ => by rw [f4], fun a ha _ => f5 a (by omega), fun a h1 h2 _ => f5 a (by omega), f6, r3, fun j a hj ha => (r5 j a hj ha).imp id (fun c => by rw [c.2]; exact Nat.le_refl _), by omega, by omega⟩
/-- a row that has grown: every object is the same -/
theorem gr_ob (h : grS S W k q) (hk : k ≤ 1500) (hq : q ≤ 600) (hR : rwL S) (hok : ∀ j, 1 ≤ j → j ≤ 1500 → h_ok S j) : (∀ j, 1 ≤ j → j ≤ 1500 → obE S W j) ∧ (∀ j, 1 ≤ j → j ≤ 1500 → h_ok W j) ∧ (h_ds S → h_ds W) := by
  obtain ⟨f1, f2, f3, f4, f5, f6, f7⟩ := gr_F h
  obtain ⟨⟨a0, N0, b1, b2, b3, b4, b5⟩, r2, ⟨l, r3⟩, r4, r5, _, _, _⟩ := gr_row h hk hq hR
  have hlt : ∀ j a, j ≤ 1500 → sQ S 11 j = some a → a < 108 + (sS S).length := fun j a hj ha => by
    obtain ⟨a1, N, a2, a3⟩ := hR j a hj ha
    have hlt := (List.getElem?_eq_some_iff.mp a2).1
    omega
  have hob : ∀ j, 1 ≤ j → j ≤ 1500 → obE S W j := fun j j1 j2 => by
    refine ⟨by rw [f4], by rw [f4], by rw [f4], by rw [f4], by rw [f4], fun i hi => ?_⟩
    by_cases hj : j = k
    · subst hj
      refine r2 i ?_
      obtain ⟨kd', z', x', y', c1, c2, c3, c4, c5, c6, c7, c8, c9, c10, c11⟩ := hok j j1 j2
      have e1 : h_kd S j = kd' := by unfold h_kd; rw [c2, gN_nI (by omega)]
      have e2 : h_z S j = z' := by unfold h_z; rw [c3, gN_nI (by have := c_most_le kd'; omega)]
      rw [e1, e2] at hi
      cases hq0 : sQ S 11 j with
      | none =>
        have := c10 hq0
        rw [this, Nat.mul_zero] at hi
        exact absurd hi (Nat.not_lt_zero _)
      | some a =>
        obtain ⟨N, m1, m2, m3, m4, m5⟩ := c11 a hq0
        rw [rlen_e hq0 m2]
        omega
    · have er : h_row W j = h_row S j := by unfold h_row; rw [f7 j hj]
      rw [er]
      cases hq0 : sQ S 11 j with
      | none =>
        have e0 : h_row S j = 0 := by unfold h_row; rw [hq0]; rfl
        rw [e0, f5 0 (by omega)]
      | some a =>
        have e0 : h_row S j = a := by unfold h_row; rw [hq0]; rfl
        rw [e0, f5 a (by have := hlt j a j2 hq0; omega)]
  refine ⟨hob, fun j j1 j2 => ?_, fun hds j i a hj hi ha1 ha2 => ?_⟩
  · obtain ⟨kd', z', x', y', c1, c2, c3, c4, c5, c6, c7, c8, c9, c10, c11⟩ := hok j j1 j2
    have e1 : h_kd S j = kd' := by unfold h_kd; rw [c2, gN_nI (by omega)]
    have e2 : h_z S j = z' := by unfold h_z; rw [c3, gN_nI (by have := c_most_le kd'; omega)]
    refine ⟨kd', z', x', y', c1, by rw [f4]; exact c2, by rw [f4]; exact c3, by rw [f4]; exact c4, by rw [f4]; exact c5, c6, c7, c8, c9, fun hn => ?_, fun a ha => ?_⟩
    · by_cases hj : j = k
      · subst hj
        rw [b1] at hn
        cases hn
      · rw [f7 j hj] at hn
        exact c10 hn
    · obtain ⟨n1, N, n2, n3⟩ := r4 j a j2 ha
      have hw : h_row W j = a := by unfold h_row; rw [ha]; rfl
      have hrow := (hob j j1 j2).2.2.2.2.2
      rw [e1, e2, hw] at hrow
      refine ⟨N, n1, n2, ?_, by omega, fun e he => ?_⟩
      · by_cases hj : j = k
        · subst hj
          rw [b1] at ha
          injection ha with ha
          subst ha
          rw [b3] at n2
          injection n2 with n2
          injection n2 with _ n2
          subst n2
          cases hq0 : sQ S 11 j with
          | none => rw [c10 hq0, Nat.mul_zero]; exact Nat.zero_le _
          | some a' =>
            obtain ⟨N', m1, m2, m3, m4, m5⟩ := c11 a' hq0
            rcases h with ⟨e, _, hl⟩ | ⟨hl, _⟩
            · subst e
              rw [hq0] at b1
              injection b1 with b1
              subst b1
              rw [m2] at b3
              injection b3 with b3
              injection b3 with _ b3
              omega
            · rw [rlen_e hq0 m2] at hl
              omega
        · rw [f7 j hj] at ha
          obtain ⟨N', m1, m2, m3, m4, m5⟩ := c11 a ha
          have hlt' := (List.getElem?_eq_some_iff.mp m2).1
          rw [r3, List.getElem?_append_left hlt', m2] at n2
          injection n2 with n2
          injection n2 with _ n2
          omega
      · have hw0 : c_width kd' = 2 ∨ c_width kd' = 4 := by
          rcases c_width_or kd' with c | c | c
          · have := c9 c; omega
          · exact Or.inl c
          · exact Or.inr c
        obtain ⟨p1, p2⟩ := h_at_lt hw0 he
        rw [hrow _ p1, hrow _ p2]
        cases hq0 : sQ S 11 j with
        | none => have := c10 hq0; omega
        | some a' =>
          obtain ⟨N', m1, m2, m3, m4, m5⟩ := c11 a' hq0
          have e0 : h_row S j = a' := by unfold h_row; rw [hq0]; rfl
          rw [e0]
          exact m5 e he
  · rcases r5 j a hj ha1 with c1 | ⟨c1, c2⟩
    · rcases r5 i a hi ha2 with d1 | ⟨d1, d2⟩
      · exact hds j i a hj hi c1 d1
      · have := hlt j a hj c1
        omega
    · rcases r5 i a hi ha2 with d1 | ⟨d1, d2⟩
      · have := hlt i a hi d1
        omega
      · rw [c1, d1]
end
