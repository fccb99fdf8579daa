/-! RELEASE of an object: what goes, in the order in which it goes -/
theorem heldBy_congr {S S' : cS} (h3 : sA S' 3 = sA S 3) (h7 : sA S' 7 = sA S 7) (h8 : sA S' 8 = sA S 8) (h10 : sA S' 10 = sA S 10) (hQ : sQ S' 11 = sQ S 11) (hL : sL S' = sL S) (t : Nat) : heldBy S' t = heldBy S t := sumN_congr (fun j _ => by
  show (if sA S' 3 j = 0 then 0 else (tgs S' j).count t) = if sA S 3 j = 0 then 0 else (tgs S j).count t
  rw [tgs_congr (S := S) (S' := S') (k := j) (by rw [h3]) (by rw [h7]) (by rw [h8]) (by rw [h10]) (by rw [hQ]) hL, h3])
/-- only holds have changed -/
theorem Hp_re {S S' : cS} {e4 e5 e6 f4 f5 f6 : Nat → Nat} (h : Hp e4 e5 e6 S) (hF : Fr [216] [4, 5, 6, 14] S S') (h4 : ∀ t, 1 ≤ t → t ≤ 1500 → sA S' 4 t = nI (heldBy S t + f4 t) ∧ sA S' 5 t = nI (f5 t) ∧ sA S' 6 t = nI (f6 t) ∧ f4 t < 2 ^ 20 ∧ f5 t < 2 ^ 20 ∧ f6 t < 2 ^ 20) : Hp f4 f5 f6 S' := by
  obtain ⟨hok, ⟨p, f, q1, q2, q3, q4, q5, q6, q7, q8, q9⟩, hcn, hcl, hds, hex⟩ := h
  have a3 : sA S' 3 = sA S 3 := hF.A (by decide)
  have hh := fun t => heldBy_congr (S := S) (S' := S') a3 (hF.A (by decide)) (hF.A (by decide)) (hF.A (by decide)) (by rw [hF.2.2.2.1]) hF.2.1 t
  have hn : nLive S' = nLive S := sumN_congr (fun k _ => by
    show (if sA S' 3 k = 0 then 0 else 1) = if sA S 3 k = 0 then 0 else 1
    rw [a3])
  refine ⟨?_, ⟨p, f, by rw [hF.I (by decide), hn]; exact q1, by rw [hF.I (by decide)]; exact q2, by rw [hF.I (by decide)]; exact q3, by rw [hn]; exact q4, q5, ?_, ?_, by rw [a3]; exact q8, by rw [a3]; exact q9⟩, ?_, ?_, ?_, ?_⟩
  · intro k h1 h2
    unfold h_ok
    rw [a3, hF.A (a := 10) (by decide), hF.A (a := 7) (by decide), hF.A (a := 8) (by decide), hF.2.2.2.1, hF.2.2.2.2.1, hF.2.1]
    exact hok k h1 h2
  · rw [a3, hF.A (a := 13) (by decide)]; exact q6
  · rw [hF.A (a := 13) (by decide)]; exact q7
  · intro kd h1 h2
    have : nKind S' kd = nKind S kd := sumN_congr (fun k _ => by
      show (if sA S' 3 k = nI kd then 1 else 0) = if sA S 3 k = nI kd then 1 else 0
      rw [a3])
    rw [this, hF.A (by decide)]
    exact hcn kd h1 h2
  · intro j h1 h2 hl t ht
    rw [tgs_congr (S := S) (S' := S') (k := j) (by rw [a3]) (by rw [hF.A (by decide)]) (by rw [hF.A (by decide)]) (by rw [hF.A (by decide)]) (by rw [hF.2.2.2.1]) hF.2.1] at ht
    rw [a3] at hl ⊢
    exact hcl j h1 h2 hl t ht
  · unfold h_ds
    rw [hF.2.2.2.1]
    exact hds
  · intro t h1 h2
    rw [hh t]
    exact h4 t h1 h2
/-- these went, in this order; else nothing of what exists has changed -/
def Kill (D : List Nat) (S S' : cS) : Prop := Fr [213, 214, 216] [3, 4, 5, 6, 10, 12, 13, 14] S S' ∧ (∀ k, sA S' 3 k = if k ∈ D then 0 else sA S 3 k) ∧ (∀ k, sA S' 10 k = if k ∈ D then 0 else sA S 10 k) ∧ D.Nodup ∧ (∀ k, k ∈ D → 1 ≤ k ∧ k ≤ 1500 ∧ sA S 3 k ≠ 0) ∧ D.Pairwise (fun x y => x ∉ tgs S y) ∧ (∀ x, x ∈ D → x ∉ tgs S x)
def dl (k t : Nat) : Nat := if k ≠ 0 ∧ t = k then 1 else 0
theorem dl_0 (t : Nat) : dl 0 t = 0 := if_neg (fun h => h.1 rfl)
theorem dl_e {k : Nat} (h : 1 ≤ k) : dl k k = 1 := if_pos ⟨by omega, rfl⟩
theorem dl_n {k t : Nat} (h : t ≠ k) : dl k t = 0 := if_neg (fun c => h c.2)
theorem Kill_fr {S S' : cS} (hF : Fr [216] [4, 5, 6, 14] S S') : Kill [] S S' := by
  refine ⟨hF.mono (by decide) (by decide), fun k => ?_, fun k => ?_, List.nodup_nil, fun k h => ?_, List.Pairwise.nil, fun k h => ?_⟩
  · rw [if_neg List.not_mem_nil, hF.A (by decide)]
  · rw [if_neg List.not_mem_nil, hF.A (by decide)]
  · cases h
  · cases h
theorem Kill_nil {S : cS} : Kill [] S S := Kill_fr (Fr.refl _ _ _)

theorem release4 {d k : Nat} {S : cS} {e5 e6 : Nat → Nat} (hk : k ≤ 1500) (hl : k = 0 ∨ sA S 3 k ≠ 0) (h : Hp (dl k) e5 e6 S) (hd : ∀ t, 1 ≤ t → t ≤ 1500 → sA S 3 t ≠ 0 → t ≠ k → 0 < heldBy S t + e5 t + e6 t) : ∃ S' D, Ans (d + 3) 142 [.ref 2, .ref 4, .int (nI k)] S none S' ∧ Hp no_e e5 e6 S' ∧ Hd no_e e5 e6 S' ∧ Kill D S S' ∧ (∀ x, x ∈ D → e5 x = 0 ∧ e6 x = 0) := by
  by_cases h0 : k = 0
  · subst h0
    refine ⟨S, [], rel_04, Hp_re h (Fr.refl _ _ _) (fun t h1 h2 => ?_), fun t h1 h2 h3 => by have := hd t h1 h2 h3 (by omega); unfold no_e; omega, Kill_nil, fun x hx => by cases hx⟩
    have := h.2.2.2.2.2 t h1 h2
    simp only [dl_0, no_e, Nat.add_zero] at this ⊢
    exact this
  · have hl2 : sA S 3 k ≠ 0 := hl.elim (fun e => absurd e h0) id
    have hH := h
    obtain ⟨hok, hsp, _, _, _, hex⟩ := h
    have hb := heldBy_le hok (by obtain ⟨_, _, _, _, _, _, _, _, _, _, q⟩ := hsp; exact q)
    obtain ⟨b4, b5, b6, c4, c5, c6⟩ := hex k (by omega) hk
    simp only [dl_e (show 1 ≤ k by omega), no_e, Nat.add_zero] at b4 b5 b6 c4 c5 c6
    have hbk := hb k
    have hSd : ∀ t, 1 ≤ t → t ≤ 1500 → sA (wA 4 k (nI (heldBy S k)) S) 4 t = nI (heldBy S t + no_e t) ∧ sA (wA 4 k (nI (heldBy S k)) S) 5 t = nI (e5 t) ∧ sA (wA 4 k (nI (heldBy S k)) S) 6 t = nI (e6 t) ∧ no_e t < 2 ^ 20 ∧ e5 t < 2 ^ 20 ∧ e6 t < 2 ^ 20 := by
      intro t h1 h2
      have q := hex t h1 h2
      simp only [rA, Nat.reduceEqDiff, reduceIte, no_e, Nat.add_zero] at q ⊢
      rw [upd_at]
      by_cases e : t = k
      · subst e
        rw [if_pos rfl]
        simp only [dl_e h1] at q
        exact ⟨rfl, q.2.1, q.2.2.1, by omega, q.2.2.2.2.1, q.2.2.2.2.2⟩
      · rw [if_neg e]
        simp only [dl_n e, Nat.add_zero] at q
        exact ⟨q.1, q.2.1, q.2.2.1, by omega, q.2.2.2.2.1, q.2.2.2.2.2⟩
    have hFd : Fr [216] [4, 5, 6, 14] S (wA 4 k (nI (heldBy S k)) S) := Fr_wA (by decide) (Fr.refl _ _ _)
    by_cases hs : 0 < heldBy S k + e5 k + e6 k
    · refine ⟨_, [], Ans.up (Nat.le_succ _) (rel_stay4 (d := d) (h := heldBy S k) (m := e5 k) (p := e6 k) (by omega) hk b4 b5 b6 (by omega) hs), Hp_re hH hFd hSd, ?_, Kill_fr hFd, fun x hx => by cases hx⟩
      · intro t h1 h2 h3
        rw [heldBy_congr (S := S) (by rw [hFd.A (by decide)]) (by rw [hFd.A (by decide)]) (by rw [hFd.A (by decide)]) (by rw [hFd.A (by decide)]) (by rw [hFd.2.2.2.1]) hFd.2.1]
        rw [hFd.A (by decide)] at h3
        by_cases e : t = k
        · subst e; unfold no_e; omega
        · have := hd t h1 h2 h3 e; unfold no_e; omega
    · have hw : c_wait (wI 216 (nI 1) (wA 14 0 (nI k) (wA 4 k (nI (heldBy S k)) S))) ([] ++ [k]) := ⟨rIe _ _ _, fun i x hx => by
        cases i with
        | zero => obtain rfl : k = x := Option.some.inj hx; rw [rIA, rAe, upd_at, if_pos rfl]
        | succ i => cases hx⟩
      generalize hS1 : wI 216 (nI 1) (wA 14 0 (nI k) (wA 4 k (nI (heldBy S k)) S)) = S1 at hw
      have hF1 : Fr [216] [4, 5, 6, 14] S S1 := by rw [← hS1]; exact Fr_wI (by decide) (Fr_wA (by decide) hFd)
      have hH1 : Hp no_e e5 e6 S1 := Hp_re hH hF1 (fun t h1 h2 => by
        have q := hSd t h1 h2
        rw [← hS1]
        simp only [rIA, rA, Nat.reduceEqDiff, reduceIte] at q ⊢
        exact q)
      have hhb := fun t => heldBy_congr (S := S) (S' := S1) (by rw [hF1.A (by decide)]) (by rw [hF1.A (by decide)]) (by rw [hF1.A (by decide)]) (by rw [hF1.A (by decide)]) (by rw [hF1.2.2.2.1]) hF1.2.1 t
      have hRI : RI S1 e5 e6 [] ([] ++ [k]) S1 := by
        refine ⟨Fr.refl _ _ _, hH1, hw, nd_one k, ?_, ?_, fun q => (if_neg List.not_mem_nil).symm, fun q => (if_neg List.not_mem_nil).symm, List.nodup_nil, (fun q hq => by cases hq), List.Pairwise.nil, (fun q hq => by cases hq)⟩
        · intro t ht
          obtain rfl := List.mem_singleton.mp ht
          exact ⟨by omega, hk, by rw [hF1.A (by decide)]; exact hl2, by rw [hhb]; omega⟩
        · intro t h1 h2 h3 h4
          rw [hF1.A (by decide)] at h3
          rw [hhb]
          exact hd t h1 h2 h3 (fun e => h4 (List.mem_singleton.mpr e))
      have hm : sI S1 216 = nI (0 + 1) := hw.1
      have hg : sA S1 14 0 = nI k := hw.2 0 k rfl
      obtain ⟨Sa, Sb, ws', hV, hR, hI, hn⟩ := RI_turn (d := d) hRI
      have hle : nLive Sb ≤ 1499 := by
        obtain ⟨_, ⟨_, ⟨p, f, _, _, _, q4, q5, _⟩, _⟩, _⟩ := hRI
        omega
      obtain ⟨S', D', hB, hI'⟩ := RI_loop (d := d) (k := k) (a0 := 4) (nLive Sb) 1 (nI k) ([] ++ [k]) ws' Sb rfl (by omega) hI
      refine ⟨S', [] ++ [k] ++ D', rel_go4 (h := heldBy S k) (m := e5 k) (p := e6 k) (by omega) hk b4 b5 b6 (by omega) (by omega) ?_, hI'.2.1, ?_, ?_, ?_⟩
      · rw [hS1]
        exact rel_itA (x := 0) (m := 0) (by omega) hm hg (by omega) hV hR hB
      · intro t h1 h2 h3
        have := hI'.2.2.2.2.2.1 t h1 h2 h3 List.not_mem_nil
        unfold no_e
        omega
      · obtain ⟨r1, _, _, _, _, _, r3, r10, rn, rl, rp, rx⟩ := hI'
        have htg : ∀ q, tgs S1 q = tgs S q := fun q => tgs_congr (by rw [hF1.A (by decide)]) (by rw [hF1.A (by decide)]) (by rw [hF1.A (by decide)]) (by rw [hF1.A (by decide)]) (by rw [hF1.2.2.2.1]) hF1.2.1
        refine ⟨(hF1.mono (by decide) (by decide)).trans (r1.mono (by decide) (by decide)), ?_, ?_, rn, ?_, ?_, ?_⟩
        · intro q; have := r3 q; rw [hF1.A (a := 3) (by decide)] at this; exact this
        · intro q; have := r10 q; rw [hF1.A (a := 10) (by decide)] at this; exact this
        · intro q hq
          have := rl q hq
          rw [hF1.A (by decide)] at this
          exact ⟨this.1, this.2.1, this.2.2.1⟩
        · simp only [htg] at rp; exact rp
        · simp only [htg] at rx; exact rx
      · intro x hx
        have := hI'.2.2.2.2.2.2.2.2.2.1 x hx
        exact ⟨this.2.2.2.1, this.2.2.2.2⟩
theorem release5 {d k : Nat} {S : cS} {e5 e6 : Nat → Nat} (hk : k ≤ 1500) (hl : k = 0 ∨ sA S 3 k ≠ 0) (h : Hp no_e (fun t => e5 t + dl k t) e6 S) (hd : ∀ t, 1 ≤ t → t ≤ 1500 → sA S 3 t ≠ 0 → t ≠ k → 0 < heldBy S t + e5 t + e6 t) : ∃ S' D, Ans (d + 3) 142 [.ref 2, .ref 5, .int (nI k)] S none S' ∧ Hp no_e e5 e6 S' ∧ Hd no_e e5 e6 S' ∧ Kill D S S' ∧ (∀ x, x ∈ D → e5 x = 0 ∧ e6 x = 0) := by
  by_cases h0 : k = 0
  · subst h0
    refine ⟨S, [], rel_05, Hp_re h (Fr.refl _ _ _) (fun t h1 h2 => ?_), fun t h1 h2 h3 => by have := hd t h1 h2 h3 (by omega); unfold no_e; omega, Kill_nil, fun x hx => by cases hx⟩
    have := h.2.2.2.2.2 t h1 h2
    simp only [dl_0, no_e, Nat.add_zero] at this ⊢
    exact this
  · have hl2 : sA S 3 k ≠ 0 := hl.elim (fun e => absurd e h0) id
    have hH := h
    obtain ⟨hok, hsp, _, _, _, hex⟩ := h
    have hb := heldBy_le hok (by obtain ⟨_, _, _, _, _, _, _, _, _, _, q⟩ := hsp; exact q)
    obtain ⟨b4, b5, b6, c4, c5, c6⟩ := hex k (by omega) hk
    simp only [dl_e (show 1 ≤ k by omega), no_e, Nat.add_zero] at b4 b5 b6 c4 c5 c6
    have hbk := hb k
    have hSd : ∀ t, 1 ≤ t → t ≤ 1500 → sA (wA 5 k (nI (e5 k)) S) 4 t = nI (heldBy S t + no_e t) ∧ sA (wA 5 k (nI (e5 k)) S) 5 t = nI (e5 t) ∧ sA (wA 5 k (nI (e5 k)) S) 6 t = nI (e6 t) ∧ no_e t < 2 ^ 20 ∧ e5 t < 2 ^ 20 ∧ e6 t < 2 ^ 20 := by
      intro t h1 h2
      have q := hex t h1 h2
      simp only [rA, Nat.reduceEqDiff, reduceIte, no_e, Nat.add_zero] at q ⊢
      rw [upd_at]
      by_cases e : t = k
      · subst e
        rw [if_pos rfl]
        simp only [dl_e h1] at q
        exact ⟨q.1, rfl, q.2.2.1, by omega, by omega, q.2.2.2.2.2⟩
      · rw [if_neg e]
        simp only [dl_n e, Nat.add_zero] at q
        exact q
    have hFd : Fr [216] [4, 5, 6, 14] S (wA 5 k (nI (e5 k)) S) := Fr_wA (by decide) (Fr.refl _ _ _)
    by_cases hs : 0 < heldBy S k + e5 k + e6 k
    · refine ⟨_, [], Ans.up (Nat.le_succ _) (rel_stay5 (d := d) (h := heldBy S k) (m := e5 k) (p := e6 k) (by omega) hk b4 b5 b6 (by omega) hs), Hp_re hH hFd hSd, ?_, Kill_fr hFd, fun x hx => by cases hx⟩
      · intro t h1 h2 h3
        rw [heldBy_congr (S := S) (by rw [hFd.A (by decide)]) (by rw [hFd.A (by decide)]) (by rw [hFd.A (by decide)]) (by rw [hFd.A (by decide)]) (by rw [hFd.2.2.2.1]) hFd.2.1]
        rw [hFd.A (by decide)] at h3
        by_cases e : t = k
        · subst e; unfold no_e; omega
        · have := hd t h1 h2 h3 e; unfold no_e; omega
    · have hw : c_wait (wI 216 (nI 1) (wA 14 0 (nI k) (wA 5 k (nI (e5 k)) S))) ([] ++ [k]) := ⟨rIe _ _ _, fun i x hx => by
        cases i with
        | zero => obtain rfl : k = x := Option.some.inj hx; rw [rIA, rAe, upd_at, if_pos rfl]
        | succ i => cases hx⟩
      generalize hS1 : wI 216 (nI 1) (wA 14 0 (nI k) (wA 5 k (nI (e5 k)) S)) = S1 at hw
      have hF1 : Fr [216] [4, 5, 6, 14] S S1 := by rw [← hS1]; exact Fr_wI (by decide) (Fr_wA (by decide) hFd)
      have hH1 : Hp no_e e5 e6 S1 := Hp_re hH hF1 (fun t h1 h2 => by
        have q := hSd t h1 h2
        rw [← hS1]
        simp only [rIA, rA, Nat.reduceEqDiff, reduceIte] at q ⊢
        exact q)
      have hhb := fun t => heldBy_congr (S := S) (S' := S1) (by rw [hF1.A (by decide)]) (by rw [hF1.A (by decide)]) (by rw [hF1.A (by decide)]) (by rw [hF1.A (by decide)]) (by rw [hF1.2.2.2.1]) hF1.2.1 t
      have hRI : RI S1 e5 e6 [] ([] ++ [k]) S1 := by
        refine ⟨Fr.refl _ _ _, hH1, hw, nd_one k, ?_, ?_, fun q => (if_neg List.not_mem_nil).symm, fun q => (if_neg List.not_mem_nil).symm, List.nodup_nil, (fun q hq => by cases hq), List.Pairwise.nil, (fun q hq => by cases hq)⟩
        · intro t ht
          obtain rfl := List.mem_singleton.mp ht
          exact ⟨by omega, hk, by rw [hF1.A (by decide)]; exact hl2, by rw [hhb]; omega⟩
        · intro t h1 h2 h3 h4
          rw [hF1.A (by decide)] at h3
          rw [hhb]
          exact hd t h1 h2 h3 (fun e => h4 (List.mem_singleton.mpr e))
      have hm : sI S1 216 = nI (0 + 1) := hw.1
      have hg : sA S1 14 0 = nI k := hw.2 0 k rfl
      obtain ⟨Sa, Sb, ws', hV, hR, hI, hn⟩ := RI_turn (d := d) hRI
      have hle : nLive Sb ≤ 1499 := by
        obtain ⟨_, ⟨_, ⟨p, f, _, _, _, q4, q5, _⟩, _⟩, _⟩ := hRI
        omega
      obtain ⟨S', D', hB, hI'⟩ := RI_loop (d := d) (k := k) (a0 := 5) (nLive Sb) 1 (nI k) ([] ++ [k]) ws' Sb rfl (by omega) hI
      refine ⟨S', [] ++ [k] ++ D', rel_go5 (h := heldBy S k) (m := e5 k) (p := e6 k) (by omega) hk b4 b5 b6 (by omega) (by omega) ?_, hI'.2.1, ?_, ?_, ?_⟩
      · rw [hS1]
        exact rel_itA (x := 0) (m := 0) (by omega) hm hg (by omega) hV hR hB
      · intro t h1 h2 h3
        have := hI'.2.2.2.2.2.1 t h1 h2 h3 List.not_mem_nil
        unfold no_e
        omega
      · obtain ⟨r1, _, _, _, _, _, r3, r10, rn, rl, rp, rx⟩ := hI'
        have htg : ∀ q, tgs S1 q = tgs S q := fun q => tgs_congr (by rw [hF1.A (by decide)]) (by rw [hF1.A (by decide)]) (by rw [hF1.A (by decide)]) (by rw [hF1.A (by decide)]) (by rw [hF1.2.2.2.1]) hF1.2.1
        refine ⟨(hF1.mono (by decide) (by decide)).trans (r1.mono (by decide) (by decide)), ?_, ?_, rn, ?_, ?_, ?_⟩
        · intro q; have := r3 q; rw [hF1.A (a := 3) (by decide)] at this; exact this
        · intro q; have := r10 q; rw [hF1.A (a := 10) (by decide)] at this; exact this
        · intro q hq
          have := rl q hq
          rw [hF1.A (by decide)] at this
          exact ⟨this.1, this.2.1, this.2.2.1⟩
        · simp only [htg] at rp; exact rp
        · simp only [htg] at rx; exact rx
      · intro x hx
        have := hI'.2.2.2.2.2.2.2.2.2.1 x hx
        exact ⟨this.2.2.2.1, this.2.2.2.2⟩
theorem release6 {d k : Nat} {S : cS} {e5 e6 : Nat → Nat} (hk : k ≤ 1500) (hl : k = 0 ∨ sA S 3 k ≠ 0) (h : Hp no_e e5 (fun t => e6 t + dl k t) S) (hd : ∀ t, 1 ≤ t → t ≤ 1500 → sA S 3 t ≠ 0 → t ≠ k → 0 < heldBy S t + e5 t + e6 t) : ∃ S' D, Ans (d + 3) 142 [.ref 2, .ref 6, .int (nI k)] S none S' ∧ Hp no_e e5 e6 S' ∧ Hd no_e e5 e6 S' ∧ Kill D S S' ∧ (∀ x, x ∈ D → e5 x = 0 ∧ e6 x = 0) := by
  by_cases h0 : k = 0
  · subst h0
    refine ⟨S, [], rel_06, Hp_re h (Fr.refl _ _ _) (fun t h1 h2 => ?_), fun t h1 h2 h3 => by have := hd t h1 h2 h3 (by omega); unfold no_e; omega, Kill_nil, fun x hx => by cases hx⟩
    have := h.2.2.2.2.2 t h1 h2
    simp only [dl_0, no_e, Nat.add_zero] at this ⊢
    exact this
  · have hl2 : sA S 3 k ≠ 0 := hl.elim (fun e => absurd e h0) id
    have hH := h
    obtain ⟨hok, hsp, _, _, _, hex⟩ := h
    have hb := heldBy_le hok (by obtain ⟨_, _, _, _, _, _, _, _, _, _, q⟩ := hsp; exact q)
    obtain ⟨b4, b5, b6, c4, c5, c6⟩ := hex k (by omega) hk
    simp only [dl_e (show 1 ≤ k by omega), no_e, Nat.add_zero] at b4 b5 b6 c4 c5 c6
    have hbk := hb k
    have hSd : ∀ t, 1 ≤ t → t ≤ 1500 → sA (wA 6 k (nI (e6 k)) S) 4 t = nI (heldBy S t + no_e t) ∧ sA (wA 6 k (nI (e6 k)) S) 5 t = nI (e5 t) ∧ sA (wA 6 k (nI (e6 k)) S) 6 t = nI (e6 t) ∧ no_e t < 2 ^ 20 ∧ e5 t < 2 ^ 20 ∧ e6 t < 2 ^ 20 := by
      intro t h1 h2
      have q := hex t h1 h2
      simp only [rA, Nat.reduceEqDiff, reduceIte, no_e, Nat.add_zero] at q ⊢
      rw [upd_at]
      by_cases e : t = k
      · subst e
        rw [if_pos rfl]
        simp only [dl_e h1] at q
        exact ⟨q.1, q.2.1, rfl, by omega, q.2.2.2.2.1, by omega⟩
      · rw [if_neg e]
        simp only [dl_n e, Nat.add_zero] at q
        exact q
    have hFd : Fr [216] [4, 5, 6, 14] S (wA 6 k (nI (e6 k)) S) := Fr_wA (by decide) (Fr.refl _ _ _)
    by_cases hs : 0 < heldBy S k + e5 k + e6 k
    · refine ⟨_, [], Ans.up (Nat.le_succ _) (rel_stay6 (d := d) (h := heldBy S k) (m := e5 k) (p := e6 k) (by omega) hk b4 b5 b6 (by omega) hs), Hp_re hH hFd hSd, ?_, Kill_fr hFd, fun x hx => by cases hx⟩
      · intro t h1 h2 h3
        rw [heldBy_congr (S := S) (by rw [hFd.A (by decide)]) (by rw [hFd.A (by decide)]) (by rw [hFd.A (by decide)]) (by rw [hFd.A (by decide)]) (by rw [hFd.2.2.2.1]) hFd.2.1]
        rw [hFd.A (by decide)] at h3
        by_cases e : t = k
        · subst e; unfold no_e; omega
        · have := hd t h1 h2 h3 e; unfold no_e; omega
    · have hw : c_wait (wI 216 (nI 1) (wA 14 0 (nI k) (wA 6 k (nI (e6 k)) S))) ([] ++ [k]) := ⟨rIe _ _ _, fun i x hx => by
        cases i with
        | zero => obtain rfl : k = x := Option.some.inj hx; rw [rIA, rAe, upd_at, if_pos rfl]
        | succ i => cases hx⟩
      generalize hS1 : wI 216 (nI 1) (wA 14 0 (nI k) (wA 6 k (nI (e6 k)) S)) = S1 at hw
      have hF1 : Fr [216] [4, 5, 6, 14] S S1 := by rw [← hS1]; exact Fr_wI (by decide) (Fr_wA (by decide) hFd)
      have hH1 : Hp no_e e5 e6 S1 := Hp_re hH hF1 (fun t h1 h2 => by
        have q := hSd t h1 h2
        rw [← hS1]
        simp only [rIA, rA, Nat.reduceEqDiff, reduceIte] at q ⊢
        exact q)
      have hhb := fun t => heldBy_congr (S := S) (S' := S1) (by rw [hF1.A (by decide)]) (by rw [hF1.A (by decide)]) (by rw [hF1.A (by decide)]) (by rw [hF1.A (by decide)]) (by rw [hF1.2.2.2.1]) hF1.2.1 t
      have hRI : RI S1 e5 e6 [] ([] ++ [k]) S1 := by
        refine ⟨Fr.refl _ _ _, hH1, hw, nd_one k, ?_, ?_, fun q => (if_neg List.not_mem_nil).symm, fun q => (if_neg List.not_mem_nil).symm, List.nodup_nil, (fun q hq => by cases hq), List.Pairwise.nil, (fun q hq => by cases hq)⟩
        · intro t ht
          obtain rfl := List.mem_singleton.mp ht
          exact ⟨by omega, hk, by rw [hF1.A (by decide)]; exact hl2, by rw [hhb]; omega⟩
        · intro t h1 h2 h3 h4
          rw [hF1.A (by decide)] at h3
          rw [hhb]
          exact hd t h1 h2 h3 (fun e => h4 (List.mem_singleton.mpr e))
      have hm : sI S1 216 = nI (0 + 1) := hw.1
      have hg : sA S1 14 0 = nI k := hw.2 0 k rfl
      obtain ⟨Sa, Sb, ws', hV, hR, hI, hn⟩ := RI_turn (d := d) hRI
      have hle : nLive Sb ≤ 1499 := by
        obtain ⟨_, ⟨_, ⟨p, f, _, _, _, q4, q5, _⟩, _⟩, _⟩ := hRI
        omega
      obtain ⟨S', D', hB, hI'⟩ := RI_loop (d := d) (k := k) (a0 := 6) (nLive Sb) 1 (nI k) ([] ++ [k]) ws' Sb rfl (by omega) hI
      refine ⟨S', [] ++ [k] ++ D', rel_go6 (h := heldBy S k) (m := e5 k) (p := e6 k) (by omega) hk b4 b5 b6 (by omega) (by omega) ?_, hI'.2.1, ?_, ?_, ?_⟩
      · rw [hS1]
        exact rel_itA (x := 0) (m := 0) (by omega) hm hg (by omega) hV hR hB
      · intro t h1 h2 h3
        have := hI'.2.2.2.2.2.1 t h1 h2 h3 List.not_mem_nil
        unfold no_e
        omega
      · obtain ⟨r1, _, _, _, _, _, r3, r10, rn, rl, rp, rx⟩ := hI'
        have htg : ∀ q, tgs S1 q = tgs S q := fun q => tgs_congr (by rw [hF1.A (by decide)]) (by rw [hF1.A (by decide)]) (by rw [hF1.A (by decide)]) (by rw [hF1.A (by decide)]) (by rw [hF1.2.2.2.1]) hF1.2.1
        refine ⟨(hF1.mono (by decide) (by decide)).trans (r1.mono (by decide) (by decide)), ?_, ?_, rn, ?_, ?_, ?_⟩
        · intro q; have := r3 q; rw [hF1.A (a := 3) (by decide)] at this; exact this
        · intro q; have := r10 q; rw [hF1.A (a := 10) (by decide)] at this; exact this
        · intro q hq
          have := rl q hq
          rw [hF1.A (by decide)] at this
          exact ⟨this.1, this.2.1, this.2.2.1⟩
        · simp only [htg] at rp; exact rp
        · simp only [htg] at rx; exact rx
      · intro x hx
        have := hI'.2.2.2.2.2.2.2.2.2.1 x hx
        exact ⟨this.2.2.2.1, this.2.2.2.2⟩
