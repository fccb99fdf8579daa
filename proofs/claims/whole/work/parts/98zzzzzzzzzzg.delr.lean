/-! DEEDS ON BOTH SIDES: an item goes -/
section
variable {P : Nat → Prop} {T : cS} {gT : Nat} {Q : Nat → Prop} {β : Nat → Nat} {F : Nat → Nat → Nat → Prop} {loc par : Nat → Nat → Nat} {ty : Nat → Nat × Nat} {G : Nat → Nat → Nat → Nat × Nat × LL → Prop} {D D' K : List Nat} {z nn g0 g1 g3 g4 g5 gn d v o t k e n m ob_ kb vb v2 v3 v4 v5 v6 v7 : Nat} {tq : Nat → Nat × Nat} {C r : List Lv} {x : Lv} {g : Nat → Nat} {Sc Sr S S' X W W0 : cS} {hi lo a b kh kl : Int64} {kd : Int32}
/-- delete and v values off: the class -/
theorem del_C (h : CI F loc par ty G tq (x :: r) S) (hl : lob (vL x) + v ≤ vH x) (hk : lv S k) (hw : c_width (h_kd S k) = 2 ∨ c_width (h_kd S k) = 4) (hk7 : h_kd S k ≠ 7) (he : e < h_n S k) : ∃ X W S' D, Ans (d + 6) 213 [.ref 2, .int (nI k), .int (nI e)] S none W ∧ Ans (d + 9) 141 [.ref 46, .int (nI v)] W none S' ∧ mtX k D S X S' ∧ (∀ p q, CI F loc par ty G tq (vAt x p q (vH x - v, vU x, vL x) :: r) S') ∧ (∀ i, i < topC (x :: r) - v → sL S' 47 i = sL S 47 i ∧ sL S' 48 i = sL S 48 i) ∧ h_n X k = h_n S k - 1 ∧ h_kd X k = h_kd S k ∧ (∀ i, i < h_n S k - 1 → h_hi X k i = h_hi S k (if i < e then i else i + 1) ∧ h_lo X k i = h_lo S k (if i < e then i else i + 1)) ∧ (c_width (h_kd S k) = 4 → ∀ i, i < h_n S k - 1 → h_kh X k i = h_kh S k (if i < e then i else i + 1) ∧ h_kl X k i = h_kl S k (if i < e then i else i + 1)) := by
  obtain ⟨l1, l2, l3, l4, l5⟩ := CI_len h
  have hok := mHS_ok h.1 k hk.1 hk.2.1
  obtain ⟨kd, z, k7, z3, k3, k10, ekd, ez, hw0⟩ := kdz hok
  rw [ekd] at hw hk7 ⊢
  have hn : h_n S k = z := by
    unfold h_n
    rw [ez, ekd, if_neg (by omega)]
  rw [hn] at he ⊢
  obtain ⟨X, W, D, A1, hc, x10, xo⟩ := mdel_T (d := d) (e := e) h.1 h.2.1 hk k3 k7 rfl k10 z3 he
  obtain ⟨S', K, A2, m1, m2, m3, m4⟩ := mpop_T (d := d) (v := v) hc.1 (by omega)
  have hM := mtX_of hc m2 (mHS_cl hc.1)
  obtain ⟨c1, c2, c3, c4, c5, c6, c7, c8, c9, c10, c11, c12, c13, c14, c15, c16⟩ := hc
  have eX : h_kd X k = kd := by unfold h_kd; rw [c12, k3, gN_nI (by omega)]
  have hnX : h_n X k = z - 1 := by
    unfold h_n h_z
    rw [eX, x10, if_neg (by omega), gN_nI (by omega)]
  have ev : ∀ i, i < z - 1 → h_hi X k i = h_hi S k (if i < e then i else i + 1) ∧ h_lo X k i = h_lo S k (if i < e then i else i + 1) := fun i hi' => by
    unfold h_hi h_lo
    rw [eX, ekd, c16]
    unfold h_at
    rcases hw with cw | cw
    · rw [cw] at xo ⊢
      rw [xo _ (by omega), xo _ (by omega)]
      by_cases c : i < e
      · rw [if_pos c, if_pos (by omega), if_pos (by omega)]
        exact ⟨rfl, rfl⟩
      · rw [if_neg c, if_neg (by omega), if_neg (by omega)]
        exact ⟨congrArg _ (by omega), congrArg _ (by omega)⟩
    · rw [cw] at xo ⊢
      rw [xo _ (by omega), xo _ (by omega)]
      by_cases c : i < e
      · rw [if_pos c, if_pos (by omega), if_pos (by omega)]
        exact ⟨rfl, rfl⟩
      · rw [if_neg c, if_neg (by omega), if_neg (by omega)]
        exact ⟨congrArg _ (by omega), congrArg _ (by omega)⟩
  have ekk : c_width kd = 4 → ∀ i, i < z - 1 → h_kh X k i = h_kh S k (if i < e then i else i + 1) ∧ h_kl X k i = h_kl S k (if i < e then i else i + 1) := fun hw4 i hi' => by
    unfold h_kh h_kl
    rw [c16]
    rw [hw4] at xo
    rw [xo _ (by omega), xo _ (by omega)]
    by_cases c : i < e
    · rw [if_pos c, if_pos (by omega), if_pos (by omega)]
      exact ⟨rfl, rfl⟩
    · rw [if_neg c, if_neg (by omega), if_neg (by omega)]
      exact ⟨congrArg _ (by omega), congrArg _ (by omega)⟩
  have hst : ∀ i, i < topC (x :: r) - v → sL S' 47 i = sL S 47 i ∧ sL S' 48 i = sL S 48 i := fun i _ => by
    rw [m3, c5, c11 47 (by omega), c11 48 (by omega)]
    exact ⟨rfl, rfl⟩
  have hsh : ∀ i, i < z - 1 → (if i < e then i else i + 1) < z := fun i hi' => by split <;> omega
  refine ⟨X, W, S', D ++ K, A1, A2, hM, fun p q => ?_, hst, hnX, eX, ev, ekk⟩
  refine CI_mut h hM m1 (rwL_KX c2 m2) (fun c => ?_) (fun _ => ⟨fun i hi' => ?_, fun c2' i hi' => ?_⟩) hst hl p q
  · rw [k3] at c
    exact absurd (nI_j (by omega) (by omega) c) hk7
  · obtain ⟨y1, y2⟩ := (h.2.2.2.1 k hk).2
    rw [hnX] at hi'
    rw [hn] at y1
    rw [(ev i hi').1, c12]
    exact y1 _ (hsh i hi')
  · obtain ⟨y1, y2⟩ := (h.2.2.2.1 k hk).2
    rw [hnX] at hi'
    rw [hn] at y2
    rw [c12] at c2'
    have e2 : kd = 2 := nI_j (by omega) (by omega) (k3.symm.trans c2')
    rw [(ekk (by rw [e2]; rfl) i hi').1]
    exact y2 c2' _ (hsh i hi')
/-- what remove leaves alone -/
theorem rem_tF {i j : Nat} (h : tRef S o t v2 v3 v4 v5 v6 v7 n m) (hW : tRef W o t v2 v3 v4 v5 v6 v7 n m) (hq : remQ (wI (100 * t + 1) (nI z) S) W v2 v3 v4 v5 v6 v7 m i j) : tF o t S W := by
  have h0 := h
  obtain ⟨q1, q2, q3, q4, q5, q6, q7, q8, q9, q10, q11, q12, q13, q14⟩ := hq
  obtain ⟨h1, h2, h3, h4, h5, h6, h7, h8, h9, k1, k2, k3, k4, k5, k6, hn, hm, g2, g3, g4, g5, g6, g7⟩ := h
  refine ⟨q13, q11, ⟨[], by rw [q10, List.append_nil]; rfl⟩, fun i hi => ⟨by rw [q9]; exact if_neg (hi 1 (by omega)), by rw [q12]; rfl⟩, fun a' _ _ hn => ⟨?_, ?_⟩, ?_, fun p hp => ?_, fun f v _ _ hv => Or.inl ?_, ?_, ?_⟩
  · exact q7 a' (fun (c : a' = _) => hn 2 (by omega) (by omega) (by rw [c]; exact h4)) (fun (c : a' = _) => hn 3 (by omega) (by omega) (by rw [c]; exact h5))
  · exact q8 a' (fun (c : a' = _) => hn 4 (by omega) (by omega) (by rw [c]; exact h6)) (fun (c : a' = _) => hn 5 (by omega) (by omega) (by rw [c]; exact h7)) (fun (c : a' = _) => hn 6 (by omega) (by omega) (by rw [c]; exact h8)) (fun (c : a' = _) => hn 7 (by omega) (by omega) (by rw [c]; exact h9))
  · exact q8 87 (by omega) (by omega) (by omega) (by omega)
  · rw [q7 87 (by omega) (by omega)]; rfl
  · rw [q12] at hv; exact hv
  · rw [(tc_ref h0).1, (tc_ref hW).1, q14]; rfl
  · rw [(tc_ref h0).2, (tc_ref hW).2, q10]; rfl
/-- the relation behind remove -/
theorem del_HR (hR : HR Q β F D S Sr g0 g1 nn) (hM : mtX k K S X S') (hl : lv S k) (ht : sQ Sr 86 (β k) = some t) (hw : tRef Sr (β k) t v2 v3 v4 v5 v6 v7 n m) (hd : dsV v2 v3 v4 v5 v6 v7) (hln : tLn n m) (hj : ∀ j, j < m → ∃ e, e < 2 ^ 20 ∧ sA Sr v3 j = nI e) (hW : tRef W (β k) t v2 v3 v4 v5 v6 v7 n m) (hq : remQ (wI (100 * t + 1) (nI z) Sr) W v2 v3 v4 v5 v6 v7 m e z) (hz : h_n S k = z + 1) (he : e ≤ z) (hnX : h_n X k = z) (hkX : h_kd X k = h_kd S k) (hev : ∀ i, i < z → h_hi X k i = h_hi S k (if i < e then i else i + 1) ∧ h_lo X k i = h_lo S k (if i < e then i else i + 1)) (hek : c_width (h_kd S k) = 4 → ∀ i, i < z → h_kh X k i = h_kh S k (if i < e then i else i + 1) ∧ h_kl X k i = h_kl S k (if i < e then i else i + 1)) : HR Q β F D X W g0 g1 nn ∧ tF (β k) t Sr W := by
  have hob := hR.ob hl
  obtain ⟨c2, c3, c4, c5, c6⟩ := obR_x hob ht hw
  obtain ⟨hK, hCF, hE, hclX, hokX, hlX, hLX, x3, x7, x8, x9⟩ := hM
  have hT := rem_tF hw hW hq
  obtain ⟨q1, q2, q3, q4, q5, q6, q7, q8, q9, q10, q11, q12, q13, q14⟩ := hq
  have h87 : sA Sr 87 (β k) = nI 1 := (hR.2.2.2.2.2.2.2.2.2.2 (β k) hob.1).resolve_left hob.2.1
  have hg := hw.2.2.2.2.2.2.2.2.2.2.2.2.2.2.2.2.2
  have h87' : sA W 87 (β k) = nI 1 := by
    rw [q7 87 (by omega) (by omega)]
    exact h87
  have hN := tF_N hR.wf hT hob.1 ht hR.2.2.2.2.2.2.2.2.2.1
  have hXl : lv X k := (hlX k).mpr hl
  have hok : tOk W (β k) t := ⟨v2, v3, v4, v5, v6, v7, n, m, hW, hd, hln, fun j hj' => by
    rw [q4]
    split
    · rename_i c
      exact hj (j + 1) c.2.2
    · exact hj j hj'⟩
  refine ⟨HR_upd hR hl ht hT hok h87' hlX hE hclX (hokX k hXl.1 hXl.2.1) (obR_mk hob ht (by rw [x3]) (by rw [x7]) (by rw [x8]) (by rw [x9]) hW (by rw [h87']; decide) (fun i _ hi => by rw [q9]; exact if_neg (by omega)) (fun _ => by rw [q12]; rfl) hN (by rw [hnX, q9]; exact rIe _ _ _) (by omega) (fun i hi' => ?_) (fun hw4 => ?_)), hT⟩
  · rw [hnX] at hi'
    obtain ⟨p1, p2⟩ := hev i hi'
    rw [p1, p2, q1, q2, q3]
    by_cases c : i < e
    · rw [if_pos c, if_neg (by omega), if_neg (by omega), if_neg (by omega)]
      exact c5 i (by omega)
    · rw [if_neg c, if_pos (by omega), if_pos (by omega), if_pos (by omega)]
      exact c5 (i + 1) (by omega)
  · rw [hkX] at hw4
    rw [hnX]
    obtain ⟨d1, d2⟩ := c6 hw4
    refine ⟨by omega, fun i hi' => ?_⟩
    obtain ⟨p1, p2⟩ := hek hw4 i hi'
    rw [p1, p2, hkX, q4, q5, q6]
    by_cases c : i < e
    · rw [if_pos c, if_neg (by omega), if_neg (by omega), if_neg (by omega)]
      exact keyRE hN (d2 i (by omega))
    · rw [if_neg c, if_pos (by omega), if_pos (by omega), if_pos (by omega)]
      exact keyRE hN (d2 (i + 1) (by omega))
end
