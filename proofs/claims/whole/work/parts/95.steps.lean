/-! THE CLASS ALONG THE ROW: begin, goTo, pass, fail; what is read no more; how many names there can be -/
theorem q_mono1 (β : Nat → Nat) (n k : Nat) : qE β n k ≤ qP β n (k + 1) := by
  obtain ⟨h1, h2, h3, h4, h5, h6, h7⟩ := tq_ok β n k
  show (tq β n k).2.2.1 ≤ (tq_nx β n (tq β n k)).2.1
  unfold tq_nx
  split
  · rename_i hk
    rw [(h6 hk).1, (h6 hk).2]
    exact Nat.le_refl _
  · rename_i hk
    split
    · rename_i hk2
      have h8 := (h7 hk).2.1
      have h9 := (tk_end (β := β) h1).2.2
      rw [← h8, ← (h7 hk).1] at h9
      obtain ⟨e1, e2, e3, e4⟩ := tk_eol_ok (β := β) h1
      split
      · rename_i he
        unfold tq_ln
        split
        · dsimp only; omega
        · rename_i q l2 i htl
          have := tl_ok _ _ _ _ _ _ (by omega) htl
          dsimp only
          omega
      · dsimp only
        omega
    · dsimp only
      exact (skip_at (β := β) h3).1
theorem q_mono (β : Nat → Nat) (n : Nat) {j k : Nat} (h : j < k) : qE β n j ≤ qP β n k := by
  induction k with
  | zero => omega
  | succ k ih =>
    rcases Nat.lt_or_ge j k with h1 | h1
    · have h2 := ih h1
      have h3 : qP β n k ≤ qE β n k := (tq_ok β n k).2.1
      have h4 := q_mono1 β n k
      omega
    · obtain rfl : j = k := by omega
      exact q_mono1 β n j
/-- the bytes of a name -/
theorem q_name {β : Nat → Nat} {n j : Nat} (h : qK β n j = 3) : qP β n j < n ∧ c_let (β (qP β n j)) = true ∧ (∀ x, x < qE β n j - qP β n j → tk_al (β (qP β n j + x)) = true) ∧ (qE β n j = n ∨ tk_al (β (qE β n j)) = false) ∧ qP β n j < qE β n j ∧ qE β n j - qP β n j ≤ 12 ∧ qE β n j ≤ n := by
  obtain ⟨p1, p2, p3, p4⟩ := q_parts (β := β) (n := n) (k := j) (by omega)
  rw [h] at p1
  obtain ⟨p, hp⟩ : ∃ p, qP β n j = p := ⟨_, rfl⟩
  obtain ⟨e, he⟩ : ∃ e, qE β n j = e := ⟨_, rfl⟩
  rw [hp, he] at p1 ⊢
  rw [hp] at p2 p3
  have hend := tk_end (β := β) p2
  rw [← p1] at hend
  unfold tk at p1
  split at p1
  · injection p1 with a b; cases a
  rename_i h0
  split at p1
  · rename_i hL
    obtain ⟨r1, r2, r3⟩ := t_run_end (P := tk_al) (β := β) p2
    have hMd : tk_nmN β n p = t_run tk_al β n (n - p) p := rfl
    rw [← hMd] at r1 r2 r3
    split at p1
    · injection p1 with a b; cases a
    rename_i h12
    split at p1
    · injection p1 with a b
      omega
    · injection p1 with a b
      subst b
      refine ⟨by omega, hL, fun x hx => r2 x (by omega), r3, by omega, by omega, r1⟩
  · exfalso
    split at p1
    · split at p1
      · injection p1 with a b; cases a
      · injection p1 with a b; cases a
    split at p1
    · split at p1
      · injection p1 with a b; cases a
      · injection p1 with a b; cases a
    have h3 : tk_sg (β p) (tk_at β n (p + 1)) ≠ 3 := by
      have := tk_sg_r (β p) (tk_at β n (p + 1))
      omega
    split at p1
    · injection p1 with a b; cases a
    split at p1
    · injection p1 with a b; exact h3 a.symm
    · injection p1 with a b; exact h3 a.symm
theorem q_sep {β : Nat → Nat} {n j k : Nat} (hj : qK β n j = 3) (hk : qK β n k = 3) (h : j < k) : qE β n j + 1 ≤ qP β n k := by
  have h1 := q_mono β n h
  rcases Nat.lt_or_ge (qE β n j) (qP β n k) with h2 | h2
  · exact h2
  · have h3 : qP β n k = qE β n j := by omega
    obtain ⟨a1, a2, a3, a4, a5, a6, a7⟩ := q_name hj
    obtain ⟨b1, b2, b3, b4, b5, b6, b7⟩ := q_name hk
    rw [h3] at b1 b2
    rcases a4 with a4 | a4
    · omega
    · unfold tk_al at a4
      rw [b2] at a4
      cases a4
/-- how many names: one-letter ones U, the others m -/
def NB (B : Nat) (S : cS) (z : Nat) : Prop := ∃ (U : List Nat) (m : Nat), U.Nodup ∧ (∀ b, b ∈ U → c_let b = true) ∧ (∀ b, b ∈ U → ∃ i, i < z ∧ c_is S (e_H (fun _ => b) 1) (e_L (fun _ => b) 1) i) ∧ z ≤ U.length + m ∧ 3 * m ≤ B
theorem let_lt {b : Nat} (h : c_let b = true) : 1 ≤ b ∧ b ≤ 122 := by
  unfold c_let at h
  simp only [Bool.or_eq_true, Bool.and_eq_true, Nat.ble_eq, Nat.beq_eq] at h
  omega
theorem NB_lt {B z : Nat} {S : cS} (h : NB B S z) (hB : B ≤ 11900) : z < 4096 := by
  obtain ⟨U, m, h1, h2, h3, h4, h5⟩ := h
  have := nodup_len h1 (fun b hb => let_lt (h2 b hb))
  omega
theorem cN_NB {β : Nat → Nat} {n z0 z B : Nat} {S0 S : cS} (h : cN β n S0 z0 S z) (hB : NB B S0 z0) : NB (B + n + 2) S z := by
  obtain ⟨U0, m0, u1, u2, u3, u4, u5⟩ := hB
  have key : ∀ y, z0 + y ≤ z → ∃ (U V : List Nat), U.Nodup ∧ (∀ b, b ∈ U → c_let b = true) ∧ (∀ b, b ∈ U → ∃ i, i < z0 + y ∧ c_is S (e_H (fun _ => b) 1) (e_L (fun _ => b) 1) i) ∧ z0 + y ≤ U.length + (m0 + V.length) ∧ V.Nodup ∧ (∀ v, v ∈ V → ∃ i j, i < z0 + y ∧ qK β n j = 3 ∧ nm_is S β (qP β n j) (qE β n j - qP β n j) i ∧ qP β n j + 2 ≤ qE β n j ∧ v = qP β n j / 3 + 1) := by
    intro y
    induction y with
    | zero =>
      intro _
      refine ⟨U0, [], u1, u2, fun b hb => ?_, by simpa using u4, List.nodup_nil, fun v hv => by cases hv⟩
      obtain ⟨i, i1, i2⟩ := u3 b hb
      exact ⟨i, i1, (h.1.2.2 i i1).1.trans i2.1, (h.1.2.2 i i1).2.trans i2.2⟩
    | succ y ih =>
      intro hy
      obtain ⟨U, V, a1, a2, a3, a4, a5, a6⟩ := ih (by omega)
      obtain ⟨j, j1, j2⟩ := h.2 (z0 + y) (by omega) (by omega)
      obtain ⟨b1, b2, b3, b4, b5, b6, b7⟩ := q_name j1
      have hdis := h.1.2.1.2.2.1
      by_cases hM : qE β n j - qP β n j = 1
      · have hj3 : c_is S (e_H (fun _ => β (qP β n j)) 1) (e_L (fun _ => β (qP β n j)) 1) (z0 + y) := by
          unfold nm_is at j2
          rw [hM] at j2
          exact j2
        refine ⟨β (qP β n j) :: U, V, List.nodup_cons.mpr ⟨fun hc => ?_, a1⟩, fun b hb => ?_, fun b hb => ?_, by simp only [List.length_cons]; omega, a5, fun v hv => ?_⟩
        · obtain ⟨i, i1, i2⟩ := a3 _ hc
          have := hdis i (z0 + y) (by omega) (by omega) (i2.1.trans hj3.1.symm) (i2.2.trans hj3.2.symm)
          omega
        · rcases List.mem_cons.mp hb with rfl | hb
          · exact b2
          · exact a2 b hb
        · rcases List.mem_cons.mp hb with rfl | hb
          · exact ⟨z0 + y, by omega, hj3⟩
          · obtain ⟨i, i1, i2⟩ := a3 b hb
            exact ⟨i, by omega, i2⟩
        · obtain ⟨i, j', i1, i2⟩ := a6 v hv
          exact ⟨i, j', by omega, i2⟩
      · refine ⟨U, (qP β n j / 3 + 1) :: V, a1, a2, fun b hb => ?_, by simp only [List.length_cons]; omega, List.nodup_cons.mpr ⟨fun hc => ?_, a5⟩, fun v hv => ?_⟩
        · obtain ⟨i, i1, i2⟩ := a3 b hb
          exact ⟨i, by omega, i2⟩
        · obtain ⟨i, j', i1, i2, i3, i4, i5⟩ := a6 _ hc
          rcases Nat.lt_trichotomy j j' with hlt | rfl | hlt
          · have := q_sep j1 i2 hlt
            omega
          · have := hdis i (z0 + y) (by omega) (by omega) (i3.1.trans j2.1.symm) (i3.2.trans j2.2.symm)
            omega
          · have := q_sep i2 j1 hlt
            omega
        · rcases List.mem_cons.mp hv with rfl | hv
          · exact ⟨z0 + y, j, by omega, j1, j2, by omega, rfl⟩
          · obtain ⟨i, j', i1, i2⟩ := a6 v hv
            exact ⟨i, j', by omega, i2⟩
  have hz0 := h.1.1
  obtain ⟨U, V, a1, a2, a3, a4, a5, a6⟩ := key (z - z0) (by omega)
  rw [show z0 + (z - z0) = z by omega] at a3 a4
  have hV : V.length ≤ (n + 2) / 3 := nodup_len a5 (fun v hv => by
    obtain ⟨i, j, i1, i2, i3, i4, rfl⟩ := a6 v hv
    have := (q_name i2).1
    omega)
  exact ⟨U, m0 + V.length, a1, a2, a3, a4, by omega⟩
theorem pX_of {A : Nat → Int32} {n z0 B : Nat} {S0 : cS} (hn : n ≤ 3000) (h35 : 35 ≤ z0) (hW : Wd S0) (hB : NB B S0 z0) (hb : B + n + 2 ≤ 11900) : pX A n S0 z0 := ⟨hn, h35, hW, fun _ _ h => NB_lt (cN_NB h hB) hb⟩
theorem q_L1 {β : Nat → Nat} {n : Nat} (h0 : qK β n 0 ≠ 1) (k : Nat) : 1 ≤ qL β n k := by
  induction k with
  | zero => exact (q_parts h0).2.2.2
  | succ k ih =>
    by_cases h1 : qK β n (k + 1) = 1
    · have h2 : tq β n (k + 1) = tq_nx β n (tq β n k) := rfl
      unfold qK at h1
      unfold qL
      rw [h2] at h1 ⊢
      unfold tq_nx at h1 ⊢
      split at h1
      · rename_i h3
        rw [if_pos h3]
        exact ih
      · rename_i h3
        rw [if_neg h3]
        split at h1
        · rename_i h4
          rw [if_pos h4]
          split at h1
          · rename_i h5
            rw [if_pos h5]
            unfold tq_ln at h1 ⊢
            split
            · exact ih
            · rename_i q l2 i htl
              rw [htl] at h1
              exact absurd h1 tk_kind.1
          · rename_i h5
            rw [if_neg h5]
            exact ih
        · exact absurd h1 tk_kind.1
    · exact (q_parts h1).2.2.2
/-- a fault: on line l -/
def cB (A : Nat → Int32) (n : Nat) (S0 : cS) (z0 l : Nat) (S : cS) : Prop := sI S 3105 = nI 0 ∧ sI S 3113 = nI l ∧ 1 ≤ l ∧ l ≤ 3001 ∧ sA S 1 = A ∧ ∃ z, cN (by1 A) n S0 z0 S z
theorem cB_S {A : Nat → Int32} {n z0 l : Nat} {S0 S S1 : cS} (h : cB A n S0 z0 l S) (h5 : sI S1 3105 = sI S 3105) (h13 : sI S1 3113 = sI S 3113) (h7 : sI S1 1607 = sI S 1607) (hA1 : ∀ a, a ∈ [1, 19, 20] → sA S1 a = sA S a) (hL : ∀ a, a ∈ [17, 18] → sL S1 a = sL S a) : cB A n S0 z0 l S1 := by
  obtain ⟨a1, a2, a3, a4, a5, z, a6⟩ := h
  exact ⟨h5.trans a1, h13.trans a2, a3, a4, (hA1 _ (by decide)).trans a5, z, cN_S a6 h7 (hL _ (by decide)) (hL _ (by decide)) (hA1 _ (by decide)) (hA1 _ (by decide))⟩
theorem cP_B {A : Nat → Int32} {n z0 k : Nat} {S0 S : cS} (hX : pX A n S0 z0) (h : cP A n S0 z0 k S) (hk : qK (by1 A) n k = 0) : cB A n S0 z0 (qL (by1 A) n k) S := by
  have h1 := cP_bad h hk
  obtain ⟨z, h2, h3, h4⟩ := h
  exact ⟨h1.1, h1.2, (q_parts (by omega)).2.2.2, by have := (q_lt (by1 A) n k).2.2.1; have := hX.1; omega, h2, z, h4⟩
theorem cB_nK {A : Nat → Int32} {n z0 l : Nat} {S0 S S1 : cS} (h : cB A n S0 z0 l S) (h7 : sI S1 1607 = sI S 1607) (hL : ∀ a, a ∈ [17, 18] → sL S1 a = sL S a) : nK S S1 := by
  obtain ⟨a1, a2, a3, a4, a5, z, a6⟩ := h
  have h8 := a6.1.2.1
  exact ⟨z, z, h8.1, h7.trans h8.1, Nat.le_refl _, h8.2.1, fun i _ => ⟨by rw [hL 17 (by decide)], by rw [hL 18 (by decide)]⟩⟩
theorem cP_nK {A : Nat → Int32} {n z0 k : Nat} {S0 S S1 : cS} (h : cP A n S0 z0 k S) (h7 : sI S1 1607 = sI S 1607) (hL : ∀ a, a ∈ [17, 18] → sL S1 a = sL S a) : nK S S1 := by
  obtain ⟨z, a1, a2, a3⟩ := h
  have h8 := a3.1.2.1
  exact ⟨z, z, h8.1, h7.trans h8.1, Nat.le_refl _, h8.2.1, fun i _ => ⟨by rw [hL 17 (by decide)], by rw [hL 18 (by decide)]⟩⟩
theorem fail_P {n z0 k : Nat} {A : Nat → Int32} {S0 S : cS} (hX : pX A n S0 z0) (h0 : qK (by1 A) n 0 ≠ 1) (h : cP A n S0 z0 k S) : cB A n S0 z0 (qL (by1 A) n k) (c_fail S) ∧ FrT lxI lxJ [19, 20] [17, 18] S (c_fail S) ∧ nK S (c_fail S) := by
  have hl1 := q_L1 h0 k
  have hl2 := (q_lt (by1 A) n k).2.2.1
  have hn := hX.1
  obtain ⟨z, h2, h3, h4⟩ := id h
  by_cases hk : qK (by1 A) n k = 0
  · have h1 := cP_bad h hk
    rw [fail_old2 (by rw [h1.2]; exact nI_ne0 hl1 (by omega))]
    exact ⟨⟨rIe _ _ _, (by simp only [rI, rJI, rAI, rLI, rIJ, rIA, rJA, rLA, rIL, reduceIte, Nat.reduceEqDiff, h1.2]), hl1, by omega, h2, z, cN_S h4 (by simp only [rI, rJI, rAI, rLI, rIJ, rIA, rJA, rLA, rIL, reduceIte, Nat.reduceEqDiff]) rfl rfl rfl rfl⟩, (FrT_wI (by decide) (FrT.refl _ _ _ _ _)), cP_nK h (by simp only [rI, rJI, rAI, rLI, rIJ, rIA, rJA, rLA, rIL, reduceIte, Nat.reduceEqDiff]) (fun _ _ => rfl)⟩
  · have h1 := cP_13 h hk
    rw [fail_of h1 (cP_6 h)]
    exact ⟨⟨rIe _ _ _, (by simp only [rI, rJI, rAI, rLI, rIJ, rIA, rJA, rLA, rIL, reduceIte, Nat.reduceEqDiff]), hl1, by omega, h2, z, cN_S h4 (by simp only [rI, rJI, rAI, rLI, rIJ, rIA, rJA, rLA, rIL, reduceIte, Nat.reduceEqDiff]) rfl rfl rfl rfl⟩, (FrT_wI (by decide) (FrT_wI (by decide) (FrT.refl _ _ _ _ _))), cP_nK h (by simp only [rI, rJI, rAI, rLI, rIJ, rIA, rJA, rLA, rIL, reduceIte, Nat.reduceEqDiff]) (fun _ _ => rfl)⟩
theorem fail_T {d n z0 k : Nat} {A : Nat → Int32} {S0 S : cS} (hX : pX A n S0 z0) (h0 : qK (by1 A) n 0 ≠ 1) (h : cP A n S0 z0 k S) : ∃ S1, Ans (d + 1) 44 [.ref 31] S none S1 ∧ cB A n S0 z0 (qL (by1 A) n k) S1 ∧ FrT lxI lxJ [19, 20] [17, 18] S S1 ∧ nK S S1 := ⟨_, fail_ev, fail_P hX h0 h⟩
theorem fail_PB {n z0 l : Nat} {A : Nat → Int32} {S0 S : cS} (h : cB A n S0 z0 l S) : cB A n S0 z0 l (c_fail S) ∧ FrT lxI lxJ [19, 20] [17, 18] S (c_fail S) ∧ nK S (c_fail S) := by
  rw [fail_old2 (by rw [h.2.1]; exact nI_ne0 h.2.2.1 (by have := h.2.2.2.1; omega))]
  exact ⟨cB_S h (by rw [rIe, h.1]) (by simp only [rI, rJI, rAI, rLI, rIJ, rIA, rJA, rLA, rIL, reduceIte, Nat.reduceEqDiff]) (by simp only [rI, rJI, rAI, rLI, rIJ, rIA, rJA, rLA, rIL, reduceIte, Nat.reduceEqDiff]) (fun _ _ => rfl) (fun _ _ => rfl), (FrT_wI (by decide) (FrT.refl _ _ _ _ _)), cB_nK h (by simp only [rI, rJI, rAI, rLI, rIJ, rIA, rJA, rLA, rIL, reduceIte, Nat.reduceEqDiff]) (fun _ _ => rfl)⟩
theorem fail_B {d n z0 l : Nat} {A : Nat → Int32} {S0 S : cS} (h : cB A n S0 z0 l S) : ∃ S1, Ans (d + 1) 44 [.ref 31] S none S1 ∧ cB A n S0 z0 l S1 ∧ FrT lxI lxJ [19, 20] [17, 18] S S1 ∧ nK S S1 := ⟨_, fail_ev, fail_PB h⟩
theorem read_B {d n z0 l : Nat} {A : Nat → Int32} {S0 S : cS} (h : cB A n S0 z0 l S) : Ans (d + 1) 40 [.ref 31] S none S := read_bad h.1
theorem goTo_B {d n z0 l : Nat} {A : Nat → Int32} {S0 S : cS} {x : Int32} (h : cB A n S0 z0 l S) : ∃ S1, Ans (d + 7) 120 [.ref 31, .int x] S none S1 ∧ cB A n S0 z0 l S1 ∧ FrT lxI lxJ [19, 20] [17, 18] S S1 ∧ nK S S1 :=
  ⟨_, goTo_ev (read_bad (d := d + 5) (S := wI 3103 x S) (by simp only [rI, reduceIte, Nat.reduceEqDiff]; exact h.1)), cB_S h (by simp only [rI, rJI, rAI, rLI, rIJ, rIA, rJA, rLA, rIL, reduceIte, Nat.reduceEqDiff]) (by simp only [rI, rJI, rAI, rLI, rIJ, rIA, rJA, rLA, rIL, reduceIte, Nat.reduceEqDiff]) (by simp only [rI, rJI, rAI, rLI, rIJ, rIA, rJA, rLA, rIL, reduceIte, Nat.reduceEqDiff]) (fun _ _ => rfl) (fun _ _ => rfl), (FrT_wI (by decide) (FrT.refl _ _ _ _ _)), cB_nK h (by simp only [rI, rJI, rAI, rLI, rIJ, rIA, rJA, rLA, rIL, reduceIte, Nat.reduceEqDiff]) (fun _ _ => rfl)⟩
theorem pass_B {d n z0 l t : Nat} {A : Nat → Int32} {S0 S : cS} (h : cB A n S0 z0 l S) (ht : 1 ≤ t) (ht2 : t < 2 ^ 31) : ∃ S1, Ans (d + 2) 75 [.ref 31, .int (nI t)] S none S1 ∧ cB A n S0 z0 l S1 ∧ FrT lxI lxJ [19, 20] [17, 18] S S1 ∧ nK S S1 := ⟨_, pass_bad h.1 (by omega) ht2 (by omega), fail_PB h⟩
theorem nextLine_B {d n z0 l : Nat} {A : Nat → Int32} {S0 S : cS} (h : cB A n S0 z0 l S) : ∃ S1, Ans (d + 2) 86 [.ref 31] S none S1 ∧ cB A n S0 z0 l S1 ∧ FrT lxI lxJ [19, 20] [17, 18] S S1 ∧ nK S S1 := ⟨_, nextLine_bad h.1 (by omega) (by omega), fail_PB h⟩
/-- pass, nextLine where something else stands -/
theorem pass_F {d n z0 k t : Nat} {A : Nat → Int32} {S0 S : cS} (hX : pX A n S0 z0) (h0 : qK (by1 A) n 0 ≠ 1) (h : cP A n S0 z0 k S) (ht : qK (by1 A) n k ≠ t) (ht2 : t < 2 ^ 31) : ∃ S1, Ans (d + 2) 75 [.ref 31, .int (nI t)] S none S1 ∧ cB A n S0 z0 (qL (by1 A) n k) S1 ∧ FrT lxI lxJ [19, 20] [17, 18] S S1 ∧ nK S S1 := by
  have hk := (q_lt (by1 A) n k).2.2.2.2
  exact ⟨_, pass_bad (cP_5 h) (by omega) ht2 ht, fail_P hX h0 h⟩
theorem nextLine_F {d n z0 k : Nat} {A : Nat → Int32} {S0 S : cS} (hX : pX A n S0 z0) (h0 : qK (by1 A) n 0 ≠ 1) (h : cP A n S0 z0 k S) (ht : qK (by1 A) n k ≠ 2) : ∃ S1, Ans (d + 2) 86 [.ref 31] S none S1 ∧ cB A n S0 z0 (qL (by1 A) n k) S1 ∧ FrT lxI lxJ [19, 20] [17, 18] S S1 ∧ nK S S1 := by
  have hk := (q_lt (by1 A) n k).2.2.2.2
  exact ⟨_, nextLine_bad (cP_5 h) (by omega) ht, fail_P hX h0 h⟩
theorem pass_T {d n z0 k t : Nat} {A : Nat → Int32} {S0 S : cS} (hX : pX A n S0 z0) (h : cP A n S0 z0 k S) (ht : qK (by1 A) n k = t) (ht3 : 3 ≤ t) : ∃ S1, Ans (d + 7) 75 [.ref 31, .int (nI t)] S none S1 ∧ cP A n S0 z0 (k + 1) S1 ∧ FrT lxI lxJ [19, 20] [17, 18] S S1 ∧ nK S S1 := by
  have hk := (q_lt (by1 A) n k).2.2.2.2
  obtain ⟨S1, h1, h2⟩ := read_T (d := d + 1) hX h (by omega) (by omega) (by omega)
  exact ⟨S1, pass_ok (by rw [cP_5 h, ht]) (by omega) h1, h2⟩
theorem begin_T {d n z0 : Nat} {A : Nat → Int32} {S : cS} (hX : pX A n S z0) (hA : sA S 1 = A) (hN : c_NT S z0) : ∃ S1, Ans (d + 6) 35 [.ref 31, .int (nI n)] S none S1 ∧ cP A n S z0 0 S1 ∧ FrT lyI lxJ [19, 20] [17, 18] S S1 ∧ nK S S1 := by
  obtain ⟨S2, hB, hF, g1, g2⟩ := findLine_T (d := d + 1) hX.1 (n + 1) 0 1 0 (wI 3107 (nI 1) (wI 3106 (nI 0) (wI 3113 (nI 0) (wI 3103 (nI 0) (wI 3102 (nI n) S))))) [(1, .int (nI 0)), (0, .ref 31)] (Or.inl rfl) (by omega) (by omega) (by omega) hA (by simp only [rI, rJI, rAI, rLI, rIJ, rIA, rJA, rLA, rIL, reduceIte, Nat.reduceEqDiff]) (by simp only [rI, rJI, rAI, rLI, rIJ, rIA, rJA, rLA, rIL, reduceIte, Nat.reduceEqDiff]) (rIe _ _ _)
  have hN0 : cN (by1 A) n S z0 S z0 := ⟨⟨Nat.le_refl _, hN, fun _ _ => ⟨rfl, rfl⟩⟩, fun i h1 h2 => by omega⟩
  have hNS : cN (by1 A) n S z0 (wI 3107 (nI 1) (wI 3106 (nI 0) (wI 3113 (nI 0) (wI 3103 (nI 0) (wI 3102 (nI n) S))))) z0 := cN_S hN0 (by simp only [rI, rJI, rAI, rLI, rIJ, rIA, rJA, rLA, rIL, reduceIte, Nat.reduceEqDiff]) rfl rfl rfl rfl
  have hnk : nK S (wI 3107 (nI 1) (wI 3106 (nI 0) (wI 3113 (nI 0) (wI 3103 (nI 0) (wI 3102 (nI n) S))))) := nK_of hN (NTx_same hN (by simp only [rI, rJI, rAI, rLI, rIJ, rIA, rJA, rLA, rIL, reduceIte, Nat.reduceEqDiff]) rfl rfl rfl rfl)
  have hfr : FrT lyI lxJ [19, 20] [17, 18] S (wI 3107 (nI 1) (wI 3106 (nI 0) (wI 3113 (nI 0) (wI 3103 (nI 0) (wI 3102 (nI n) S))))) := (FrT_wI (by decide) (FrT_wI (by decide) (FrT_wI (by decide) (FrT_wI (by decide) (FrT_wI (by decide) (FrT.refl _ _ _ _ _))))))
  rcases line_T (d := d) (k1 := 0) hX hNS hA rfl (by omega) (by simp only [rI, rJI, rAI, rLI, rIJ, rIA, rJA, rLA, rIL, reduceIte, Nat.reduceEqDiff]) (by simp only [rI, rJI, rAI, rLI, rIJ, rIA, rJA, rLA, rIL, reduceIte, Nat.reduceEqDiff]) (by simp only [rI, rJI, rAI, rLI, rIJ, rIA, rJA, rLA, rIL, reduceIte, Nat.reduceEqDiff]) hF g1 g2 with ⟨a1, a2, a3⟩ | ⟨a1, S3, a2, a3, a4, a5⟩
  · exact ⟨S2, begin_end (findLine_of hB) a1 rfl, a2, hfr.trans (FrT_fl hF), nK_trans hnk a3⟩
  · exact ⟨S3, begin_tok (findLine_of hB) a1 rfl a2, a3, hfr.trans ((FrT_fl hF).trans (FrT_lx a4)), nK_trans hnk a5⟩
theorem goTo_T {d n z0 k j : Nat} {A : Nat → Int32} {S0 S : cS} (hX : pX A n S0 z0) (h : cP A n S0 z0 k S) (h0 : qK (by1 A) n k ≠ 0) (h1 : qK (by1 A) n k ≠ 1) (hj : qK (by1 A) n j ≠ 1) (hL : qL (by1 A) n j = qL (by1 A) n k) (hI : qI (by1 A) n j = qI (by1 A) n k) : ∃ S1, Ans (d + 7) 120 [.ref 31, .int (nI (qP (by1 A) n j))] S none S1 ∧ cP A n S0 z0 j S1 ∧ FrT lxI lxJ [19, 20] [17, 18] S S1 ∧ nK S S1 := by
  obtain ⟨z, hA, hT, hN⟩ := h
  obtain ⟨t1, t2, t3, t4⟩ := hT
  obtain ⟨u1, u2, u3⟩ := t4 h1
  obtain ⟨v1, v2, v3, v4, v5⟩ := u3
  obtain ⟨x1, x2⟩ := v4 h0
  have hlt := q_lt (by1 A) n k
  obtain ⟨p1, p2, p3, p4⟩ := q_parts hj
  have hN2 : cN (by1 A) n S0 z0 (wI 3103 (nI (qP (by1 A) n j)) S) z := cN_S hN (by simp only [rI, rJI, rAI, rLI, rIJ, rIA, rJA, rLA, rIL, reduceIte, Nat.reduceEqDiff]) rfl rfl rfl rfl
  obtain ⟨S1, z1, hR, r1, r2, r3, r4⟩ := read_tk (d := d + 1) (l := qL (by1 A) n k) (S := wI 3103 (nI (qP (by1 A) n j)) S) hA hX.1 (by simp only [rI, rJI, rAI, rLI, rIJ, rIA, rJA, rLA, rIL, reduceIte, Nat.reduceEqDiff, t1]) (t := qK (by1 A) n k) (by simp only [rI, rJI, rAI, rLI, rIJ, rIA, rJA, rLA, rIL, reduceIte, Nat.reduceEqDiff, v1]) (Nat.pos_of_ne_zero h0) (Nat.lt_trans hlt.2.2.2.2 (by decide)) (rIe _ _ _) (Nat.le_refl _) p2 (fun x h1 h2 => by omega) p3 (by simp only [rI, rJI, rAI, rLI, rIJ, rIA, rJA, rLA, rIL, reduceIte, Nat.reduceEqDiff, t2]) (by simp only [rI, rJI, rAI, rLI, rIJ, rIA, rJA, rLA, rIL, reduceIte, Nat.reduceEqDiff, x2]) hN2.1.2.1 (hX.2.2.2 _ z hN2) (Nat.le_trans (Nat.le_trans (by decide) hX.2.1) hN.1.1) (Wd_x hX.2.2.1 (Nat.le_trans (by decide) hX.2.1) hN2.1)
  rw [← p1] at r1 r4
  have hfr : FrT lxI lxJ [19, 20] [17, 18] S (wI 3103 (nI (qP (by1 A) n j)) S) := (FrT_wI (by decide) (FrT.refl _ _ _ _ _))
  refine ⟨S1, goTo_ev hR, ⟨z1, (r2.2.2.1 1 (by decide)).trans hA, ⟨(r2.1 _ (by decide)).trans (by simp only [rI, rJI, rAI, rLI, rIJ, rIA, rJA, rLA, rIL, reduceIte, Nat.reduceEqDiff, t1]), ?_, fun h => absurd h hj, fun _ => ⟨?_, ?_, ?_⟩⟩, cN_step hN2 r3 r4⟩, hfr.trans r2, nK_trans (S1 := wI 3103 (nI (qP (by1 A) n j)) S) (nK_of hN.1.2.1 (NTx_same hN.1.2.1 (by simp only [rI, rJI, rAI, rLI, rIJ, rIA, rJA, rLA, rIL, reduceIte, Nat.reduceEqDiff]) rfl rfl rfl rfl)) (nK_of hN2.1.2.1 r3)⟩
  · rw [hL]; exact (r2.1 _ (by decide)).trans (by simp only [rI, rJI, rAI, rLI, rIJ, rIA, rJA, rLA, rIL, reduceIte, Nat.reduceEqDiff, t2])
  · rw [hL]; exact (r2.1 _ (by decide)).trans (by simp only [rI, rJI, rAI, rLI, rIJ, rIA, rJA, rLA, rIL, reduceIte, Nat.reduceEqDiff, u1])
  · rw [hI]; exact (r2.1 _ (by decide)).trans (by simp only [rI, rJI, rAI, rLI, rIJ, rIA, rJA, rLA, rIL, reduceIte, Nat.reduceEqDiff, u2])
  · rw [hL]; exact r1
