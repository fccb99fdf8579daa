/-! DEEDS ON BOTH SIDES: an entry is set -/
section
variable {P : Nat → Prop} {T : cS} {gT : Nat} {Q : Nat → Prop} {β : Nat → Nat} {F : Nat → Nat → Nat → Prop} {loc par : Nat → Nat → Nat} {ty : Nat → Nat × Nat} {G : Nat → Nat → Nat → Nat × Nat × LL → Prop} {D D' K : List Nat} {z nn g0 g1 g3 g4 g5 gn d v o t k e n m v2 v3 v4 v5 v6 v7 w2 w3 w4 w5 w6 w7 : Nat} {tq : Nat → Nat × Nat} {C r : List Lv} {x : Lv} {g : Nat → Nat} {Sc Sr S S' X W W0 : cS} {hi lo a b : Int64} {kd : Int32}
/-- an object and its thing: the same when their entries are -/
theorem obR_mk (h : obR β F S Sr g0 g1 nn k) (ht : sQ Sr 86 (β k) = some t) (e3 : sA X 3 k = sA S 3 k) (e7 : sA X 7 k = sA S 7 k) (e8 : sA X 8 k = sA S 8 k) (e9 : sA X 9 k = sA S 9 k) (hW : tRef W (β k) t w2 w3 w4 w5 w6 w7 n m) (h87 : sA W 87 (β k) ≠ 0) (hI : ∀ i, i ≤ 12 → i ≠ 1 → sI W (100 * t + i) = sI Sr (100 * t + i)) (h8 : sA S 3 k = nI 3 → sV W (100 * t + 8) = sV Sr (100 * t + 8)) (hN : tnE Sr W g0 g1) (hz : sI W (100 * t + 1) = nI (h_n X k)) (hzn : h_n X k ≤ n) (hv : ∀ i, i < h_n X k → vrel β (h_hi X k i) (h_lo X k i) (sA W w2 i) (sL W w4 i) (sL W w5 i)) (hk : c_width (h_kd X k) = 4 → h_n X k ≤ m ∧ ∀ i, i < h_n X k → keyR β W g0 g1 nn (h_kd X k) (h_kh X k i) (h_kl X k i) (sA W w3 i) (sL W w6 i) (sL W w7 i)) : obR β F X W g0 g1 nn k := by
  obtain ⟨b1, b2, t', u2, u3, u4, u5, u6, u7, n', m', c1, c2, c3, c4, c5, c6, c7, c8, c9⟩ := h
  have et : t' = t := by
    have := c1.1
    rw [ht] at this
    injection this with this
    exact this.symm
  subst et
  refine ⟨b1, h87, t', w2, w3, w4, w5, w6, w7, n, m, hW, by rw [hI 0 (by omega) (by omega), e3]; exact c2, hz, hzn, hv, hk, by rw [hI 11 (by omega) (by omega), e7]; exact c7, by rw [hI 12 (by omega) (by omega), e8]; exact c8, fun h3 => ?_, fun h4 => ?_⟩
  · rw [e3] at h3
    obtain ⟨f, m', j, rr, f1, f2, f3, f4, f5, f6, f7⟩ := c9.1 h3
    exact ⟨f, m', j, rr, by rw [e9]; exact f1, by rw [h8 h3]; exact f2, by rw [hI 9 (by omega) (by omega)]; exact f3, f4, f5, by rw [hI 10 (by omega) (by omega)]; exact f6, f7⟩
  · rw [e3] at h4
    obtain ⟨q, r, f1, f2, f3, f4⟩ := c9.2 h4
    exact ⟨q, r, by rw [e9]; exact f1, by rw [hI 10 (by omega) (by omega)]; exact f2, f3, (nrelE hN q r).mpr f4⟩
/-- behind set: the reference -/
theorem setW_T (h : tRef S o t v2 v3 v4 v5 v6 v7 n m) : tRef (keyW e v2 v4 v5 kd a b S) o t v2 v3 v4 v5 v6 v7 n m := by
  obtain ⟨h1, h2, ⟨N, h3⟩, h4, h5, h6, h7, h8, h9, k1, k2, k3, k4, k5, k6, hr⟩ := h
  have e' : sS (keyW e v2 v4 v5 kd a b S) = sS S := rfl
  exact ⟨h1, h2, ⟨N, by rw [e']; exact h3⟩, h4, h5, h6, h7, h8, h9, isK_S e' k1, isK_S e' k2, isK_S e' k3, isK_S e' k4, isK_S e' k5, isK_S e' k6, hr⟩
theorem setW_tF (h : tRef S o t v2 v3 v4 v5 v6 v7 n m) (h45 : v4 ≠ v5) : tF o t S (keyW e v2 v4 v5 kd a b S) := by
  have h0 := h
  have hw := setW_T (e := e) (kd := kd) (a := a) (b := b) h
  obtain ⟨h1, h2, h3, h4, h5, h6, h7, h8, h9, k1, k2, k3, k4, k5, k6, hn, hm, g2, g3, g4, g5, g6, g7⟩ := h
  refine ⟨rfl, rfl, ⟨[], (List.append_nil _).symm⟩, fun i hi => ⟨rfl, rfl⟩, fun a' _ _ hn => ⟨?_, ?_⟩, ?_, fun p hp => ?_, fun f v _ _ hv => Or.inl hv, ?_, ?_⟩
  · rw [keyW_A, if_neg (fun (c : a' = _) => hn 2 (by omega) (by omega) (by rw [c]; exact h4))]
  · rw [keyW_L h45, if_neg (fun (c : a' = _) => hn 5 (by omega) (by omega) (by rw [c]; exact h7)), if_neg (fun (c : a' = _) => hn 4 (by omega) (by omega) (by rw [c]; exact h6))]
  · rw [keyW_L h45, if_neg (by omega), if_neg (by omega)]
  · rw [keyW_A, if_neg (by omega)]
  · rw [(tc_ref h0).1, (tc_ref hw).1]; rfl
  · rw [(tc_ref h0).2, (tc_ref hw).2]; rfl
theorem setW_ok (h : tRef S o t v2 v3 v4 v5 v6 v7 n m) (hd : dsV v2 v3 v4 v5 v6 v7) (hl : tLn n m) (hk : ∀ j, j < m → ∃ e, e < 2 ^ 20 ∧ sA S v3 j = nI e) : tOk (keyW e v2 v4 v5 kd a b S) o t := by
  refine ⟨v2, v3, v4, v5, v6, v7, n, m, setW_T h, hd, hl, fun j hj => ?_⟩
  rw [keyW_A, if_neg (fun c => hd.1 c.symm)]
  exact hk j hj
/-- an object that is relating to its thing: what the thing's arrays are -/
theorem obR_x (h : obR β F S Sr g0 g1 nn k) (ht : sQ Sr 86 (β k) = some t) (hw : tRef Sr (β k) t v2 v3 v4 v5 v6 v7 n m) : sI Sr (100 * t + 0) = sA S 3 k ∧ sI Sr (100 * t + 1) = nI (h_n S k) ∧ h_n S k ≤ n ∧ (∀ i, i < h_n S k → vrel β (h_hi S k i) (h_lo S k i) (sA Sr v2 i) (sL Sr v4 i) (sL Sr v5 i)) ∧ (c_width (h_kd S k) = 4 → h_n S k ≤ m ∧ ∀ i, i < h_n S k → keyR β Sr g0 g1 nn (h_kd S k) (h_kh S k i) (h_kl S k i) (sA Sr v3 i) (sL Sr v6 i) (sL Sr v7 i)) := by
  obtain ⟨_, _, t', w2, w3, w4, w5, w6, w7, n2, m2, c1, c2, c3, c4, c5, c6, _⟩ := h
  have et : t' = t := by
    have := c1.1
    rw [ht] at this
    injection this with this
    exact this.symm
  subst et
  obtain ⟨_, _, _, x2, x3, x4, x5, x6, x7, kk1, kk2, _, _, _, _, _, _, gg2, gg3, _⟩ := c1
  obtain ⟨_, _, _, y2, y3, y4, y5, y6, y7, jj1, jj2, _, _, _, _, _, _, hh2, hh3, _⟩ := hw
  have a2 : w2 = v2 := by rw [x2] at y2; injection y2
  have a3 : w3 = v3 := by rw [x3] at y3; injection y3
  have a4 : w4 = v4 := by rw [x4] at y4; injection y4
  have a5 : w5 = v5 := by rw [x5] at y5; injection y5
  have a6 : w6 = v6 := by rw [x6] at y6; injection y6
  have a7 : w7 = v7 := by rw [x7] at y7; injection y7
  have an : n2 = n := by
    have u1 := (isK_at kk1 gg2).2.1
    have u2 := (isK_at jj1 hh2).2.1
    rw [a2] at u1
    omega
  have am : m2 = m := by
    have u1 := (isK_at kk2 gg3).2.1
    have u2 := (isK_at jj2 hh3).2.1
    rw [a3] at u1
    omega
  subst a2 a3 a4 a5 a6 a7 an am
  exact ⟨c2, c3, c4, c5, c6⟩
/-- what is no builtin -/
theorem lob_low : ∀ (l : List (Nat × Nat)) (s : Nat), srt l → ∀ y w, (y, w) ∈ l → y + w ≤ lob (l, s) := by
  intro l s
  induction l with
  | nil => intro _ y w h; cases h
  | cons z l ih =>
    intro hs y w hy
    have e : lob (z :: l, s) = z.1 + z.2 := rfl
    rcases List.mem_cons.mp hy with c | c
    · rw [e, ← c]; exact Nat.le_refl _
    · have := ih hs.2 y w c
      have h1 := hs.1
      have e2 : lob (l, s) = lob (l, 0) := rfl
      omega
theorem CI_n5 (h : CI F loc par ty G tq (x :: r) S) {i : Nat} (hi : i + lob (vL x) < vH x) : c_kind (sL S 47 (topC (x :: r) - 1 - i)) ≠ nI 5 := fun c => by
  have e : topC (x :: r) = vB x + vH x := rfl
  have hm := (h.2.2.1.1.1 (vH x - 1 - i) (by omega)).2
  rw [show vB x + (vH x - 1 - i) = topC (x :: r) - 1 - i by omega] at hm
  have := lob_low (vL x).1 (vL x).2 h.2.2.1.2.1.2.1 _ _ (hm c)
  have e2 : lob ((vL x).1, (vL x).2) = lob (vL x) := rfl
  omega
/-- set and three values off: the class -/
theorem set_C (h : CI F loc par ty G tq (x :: r) S) (hl : lob (vL x) + 3 ≤ vH x) (hk : lv S k) (hkd : h_kd S k = 1 ∨ h_kd S k = 2) (he : e < h_n S k) (ho : c_obj hi lo = nI o) (hol : o = 0 ∨ lv S o) (h0 : c_kind hi ≠ 0 ∧ c_kind hi ≠ nI 5) : ∃ X W S' D, Ans (d + 6) 174 [.ref 2, .int (nI k), .int (nI e), .long hi, .long lo] S none W ∧ Ans (d + 9) 141 [.ref 46, .int (nI 3)] W none S' ∧ mtX k D S X S' ∧ (∀ p q, CI F loc par ty G tq (vAt x p q (vH x - 3, vU x, vL x) :: r) S') ∧ (∀ i, i < topC (x :: r) - 3 → sL S' 47 i = sL S 47 i ∧ sL S' 48 i = sL S 48 i) ∧ h_n X k = h_n S k ∧ h_kd X k = h_kd S k ∧ (∀ i, i < h_n S k → h_hi X k i = (if i = e then hi else h_hi S k i) ∧ h_lo X k i = (if i = e then lo else h_lo S k i)) ∧ (c_width (h_kd S k) = 4 → ∀ i, i < h_n S k → h_kh X k i = h_kh S k i ∧ h_kl X k i = h_kl S k i) := by
  obtain ⟨l1, l2, l3, l4, l5⟩ := CI_len h
  have hok := mHS_ok h.1 k hk.1 hk.2.1
  obtain ⟨kd, z, k7, z3, k3, k10, ekd, ez, hw⟩ := kdz hok
  have hn : h_n S k = z := by
    unfold h_n
    rw [ez, ekd]
    split
    · rename_i c
      rcases hkd with c1 | c1
      · rw [ekd] at c1; rw [c1] at c; exact absurd c (by decide)
      · rw [ekd] at c1; rw [c1] at c; exact absurd c (by decide)
    · rfl
  have hwid : c_width kd = 2 ∨ c_width kd = 4 := by
    rcases hkd with c1 | c1
    · rw [ekd] at c1; rw [c1]; left; rfl
    · rw [ekd] at c1; rw [c1]; right; rfl
  obtain ⟨X, W, D, A1, hc, x10, xo, x1, x2⟩ := mset_T (d := d) (e := e) h.1 h.2.1 hk k3 k7 rfl k10 z3 (by omega) ho hol
  obtain ⟨S', K, A2, m1, m2, m3, m4⟩ := mpop_T (d := d) (v := 3) hc.1 (by omega)
  have hM := mtX_of hc m2 (mHS_cl hc.1)
  obtain ⟨c1, c2, c3, c4, c5, c6, c7, c8, c9, c10, c11, c12, c13, c14, c15, c16⟩ := hc
  have eX : h_kd X k = h_kd S k := by unfold h_kd; rw [c12]
  have hnX : h_n X k = h_n S k := by
    unfold h_n h_z
    rw [eX, x10, k10]
  have ev : ∀ i, i < h_n S k → h_hi X k i = (if i = e then hi else h_hi S k i) ∧ h_lo X k i = (if i = e then lo else h_lo S k i) := fun i hi' => by
    unfold h_hi h_lo
    rw [eX, ekd, c16]
    by_cases c : i = e
    · rw [if_pos c, if_pos c, c]
      exact ⟨x1, x2⟩
    · rw [if_neg c, if_neg c]
      have u : ∀ q, q = h_at (c_width kd) i ∨ q = h_at (c_width kd) i + 1 → sL X (h_row S k) q = sL S (h_row S k) q := fun q hq => by
        unfold h_at at hq
        refine xo q ?_ ?_ ?_
        · rcases hwid with cw | cw
          · rw [cw] at hq ⊢; omega
          · rw [cw] at hq ⊢; omega
        · unfold h_at
          rcases hwid with cw | cw
          · rw [cw] at hq ⊢; omega
          · rw [cw] at hq ⊢; omega
        · unfold h_at
          rcases hwid with cw | cw
          · rw [cw] at hq ⊢; omega
          · rw [cw] at hq ⊢; omega
      exact ⟨u _ (Or.inl rfl), u _ (Or.inr rfl)⟩
  have ekk : c_width (h_kd S k) = 4 → ∀ i, i < h_n S k → h_kh X k i = h_kh S k i ∧ h_kl X k i = h_kl S k i := fun hw4 i hi' => by
    rw [ekd] at hw4
    unfold h_kh h_kl
    rw [c16]
    rw [hw4] at xo
    unfold h_at at xo
    exact ⟨xo _ (by omega) (by omega) (by omega), xo _ (by omega) (by omega) (by omega)⟩
  have hst : ∀ i, i < topC (x :: r) - 3 → sL S' 47 i = sL S 47 i ∧ sL S' 48 i = sL S 48 i := fun i _ => by
    rw [m3, c5, c11 47 (by omega), c11 48 (by omega)]
    exact ⟨rfl, rfl⟩
  refine ⟨X, W, S', D ++ K, A1, A2, hM, fun p q => ?_, hst, hnX, eX, ev, ekk⟩
  refine CI_mut h hM m1 (rwL_KX c2 m2) (fun c => ?_) (fun _ => ⟨fun i hi' => ?_, fun c2' i hi' => ?_⟩) hst (by omega) p q
  · rw [x10, k10]
  · obtain ⟨y1, y2⟩ := (h.2.2.2.1 k hk).2
    rw [hnX] at hi'
    rw [(ev i hi').1, c12]
    split
    · exact ⟨h0.2, fun _ => h0.1⟩
    · exact y1 i hi'
  · obtain ⟨y1, y2⟩ := (h.2.2.2.1 k hk).2
    rw [hnX] at hi'
    rw [c12] at c2'
    have e2 : c_width (h_kd S k) = 4 := by
      unfold h_kd
      rw [c2']
      rfl
    rw [(ekk e2 i hi').1]
    exact y2 c2' i hi'
end
