/-! THE CLASS'S HEAP: a value is put last -/
section
variable {d t x k q kd z o : Nat} {S W : cS} {g : Nat → Nat} {hi lo kh kl : Int64}
theorem grow_HS (h : mHS x g t S) (hR : rwL S) (hg : grS S W k q) (hk : k ≤ 1500) (hq : q ≤ 600) : mHS x g t W ∧ rwL W ∧ CFm S W ∧ (∀ j, 1 ≤ j → j ≤ 1500 → obE S W j) ∧ (∀ q, heldBy W q = heldBy S q) ∧ (∀ a, a < 108 → sL W a = sL S a) := by
  obtain ⟨f1, f2, f3, f4, f5, f6, f7⟩ := gr_F hg
  obtain ⟨o1, o2, o3⟩ := gr_ob hg hk hq hR (mHS_ok h)
  have hh : ∀ q, heldBy W q = heldBy S q := fun q => by
    have e : ∀ j, j < 1501 → (if sA W 3 j = 0 then 0 else (tgs W j).count q) = if sA S 3 j = 0 then 0 else (tgs S j).count q := fun j hj => by
      rw [f4]
      by_cases h0 : j = 0
      · rw [h0, Hp_0 h.1, if_pos rfl, if_pos rfl]
      · rw [obE_tgs (o1 j (by omega) (by omega))]
    exact sumN_congr e
  have hL : ∀ a, a < 108 → sL W a = sL S a := fun a ha => f5 a (by omega)
  have hP : Hp no_e (nmE S) (fun k => stE t S k + g k) W := by
    refine Hp_ch (k := 0) h.1 (by rw [f4]) (fun j j1 j2 _ => o1 j j1 j2) (fun i _ => by rw [f3]) (by rw [f4]) (by rw [f4]) o2 (o3 h.1.2.2.2.2.1) (fun c => absurd (Hp_0 h.1) c) (fun q q1 q2 => ?_)
    rw [hh q, f4]
    exact h.1.2.2.2.2.2 q q1 q2
  have h108 : ∀ b, b ∈ [21, 22, 47, 48] → b < 108 := by decide
  exact ⟨mHS_ch h (fun i _ => by rw [f3]) (fun a ha => hL a (h108 a ha)) (by rw [f4]) hP (fun k _ _ => by rw [hh k]; exact Nat.le_refl _), (gr_row hg hk hq hR).2.2.2.1, gr_CFm hg hk hq hR, o1, hh, hL⟩
theorem seqN_snoc {f : Nat → Nat} : ∀ (r i : Nat), seqN f i (r + 1) = seqN f i r ++ [f (i + r)] := by
  intro r
  induction r with
  | zero => intro i; rfl
  | succ r ih =>
    intro i
    show f i :: seqN f (i + 1) (r + 1) = f i :: seqN f (i + 1) r ++ [f (i + (r + 1))]
    rw [ih (i + 1), show i + 1 + r = i + (r + 1) by omega]
    rfl
/-- an entry is written at the end of k's row: what that comes to -/
theorem app_HS {a N w : Nat} {f : Nat → Int64} (h : mHS x g t S) (hR : rwL S) (hk : lv S k) (hkd : sA S 3 k = nI kd) (h7 : kd ≤ 7) (hw : c_width kd = w) (hw2 : w = 2 ∨ w = 4) (hz : sA S 10 k = nI z) (hzm : z < c_most kd) (hq : sQ S 11 k = some a) (ha : 108 ≤ a) (hs : (sS S)[a - 108]? = some (1, N)) (hN : w * z + w ≤ N) (hN6 : N ≤ 600) (hol : o = 0 ∨ lv S o) (hFW : FrL [] [4, 10] [a] S W) (h4 : ∀ q, sA W 4 q = sA S 4 q + nI (dl o q)) (h10 : ∀ j, sA W 10 j = if j = k then nI (z + 1) else sA S 10 j) (hold : ∀ i, i < w * z → sL W a i = sL S a i) (hnew : c_obj (sL W a (h_at w z)) (sL W a (h_at w z + 1)) = nI o) : mHS x g t W ∧ rwL W ∧ CFm S W ∧ (∀ j, 1 ≤ j → j ≤ 1500 → j ≠ k → obE S W j) ∧ (∀ q, 1 ≤ q → heldBy W q = heldBy S q + dl o q) := by
  have ho2 : o ≤ 1500 := by rcases hol with e | e; omega; exact e.2.1
  have hm := c_most_le kd
  have hakd : h_kd S k = kd := by unfold h_kd; rw [hkd, gN_nI (by omega)]
  have hz1 : h_z S k = z := by unfold h_z; rw [hz, gN_nI (by omega)]
  have e3 : sA W 3 = sA S 3 := hFW.A (by decide)
  have hz2 : h_z W k = z + 1 := by unfold h_z; rw [h10, if_pos rfl, gN_nI (by omega)]
  have hkdW : h_kd W k = kd := by unfold h_kd; rw [e3]; exact hakd
  have hQ : sQ W = sQ S := hFW.2.2.2.1
  have hrw : ∀ j, h_row W j = h_row S j := fun j => by unfold h_row; rw [hQ]
  have hrk : h_row S k = a := by unfold h_row; rw [hq]; rfl
  have hne : ∀ j, 1 ≤ j → j ≤ 1500 → j ≠ k → h_row S j ≠ a := fun j j1 j2 hj c => by
    unfold h_row at c
    cases hq0 : sQ S 11 j with
    | none => rw [hq0] at c; have : (0 : Nat) = a := c; omega
    | some b =>
      rw [hq0] at c
      have c' : b = a := c
      subst c'
      exact hj (h.1.2.2.2.2.1 j k b j2 hk.2.1 hq0 hq)
  have hob : ∀ j, 1 ≤ j → j ≤ 1500 → j ≠ k → obE S W j := fun j j1 j2 hj => obE_of (by rw [e3]) (by rw [hFW.A (by decide)]) (by rw [hFW.A (by decide)]) (by rw [hFW.A (by decide)]) (by rw [h10, if_neg hj]) (hrw j) (hFW.2.1 _ (by simpa using hne j j1 j2 hj))
  have hent : ∀ e, e < z → h_ent W k e = h_ent S k e := fun e he => by
    obtain ⟨p1, p2⟩ := h_at_lt hw2 he
    unfold h_ent h_hi h_lo
    rw [hrw, hkdW, hakd, hrk, hw, hold _ p1, hold _ p2]
  have hentz : h_ent W k z = o := by
    unfold h_ent h_hi h_lo
    rw [hrw, hkdW, hrk, hw]
    exact ob_n hnew ho2
  have hn1 : h_n S k = z := by unfold h_n; rw [hakd, hw, if_neg (by omega), hz1]
  have hn2 : h_n W k = z + 1 := by unfold h_n; rw [hkdW, hw, if_neg (by omega), hz2]
  have htg : tgs W k = tgs S k ++ [o] := by
    unfold tgs
    rw [hn2, hn1, hFW.A (a := 7) (by decide), hFW.A (a := 8) (by decide), seqN_snoc, Nat.zero_add, hentz, seqN_congr (fun j _ hj => hent j (by omega))]
    rfl
  have hh : ∀ q, 1 ≤ q → heldBy W q = heldBy S q + dl o q := fun q hq1 => by
    have := held_ch (q := q) hk.1 hk.2.1 (Hp_0 h.1) hk.2.2 e3 hob
    rw [htg, List.count_append, cnt_dl o q hq1] at this
    omega
  have hRW : rwL W := fun j b hj hb => by
    rw [hQ] at hb
    rw [hFW.2.2.2.2.1]
    exact hR j b hj hb
  have hCF : CFm S W := by
    have e1 : rwC W = rwC S := sumN_congr (fun k _ => by rw [rlen_S hQ hFW.2.2.2.2.1])
    have e2 : rwN W = rwN S := sumN_congr (fun k _ => by rw [rlen_S hQ hFW.2.2.2.2.1])
    exact ⟨hFW.1, hFW.2.2.1, fun i _ => hFW.I List.not_mem_nil, fun b hb => hFW.A (fun c => hb (by
      rcases List.mem_cons.mp c with e | c
      · rw [e]; decide
      · rw [List.mem_singleton.mp c]; decide)), fun b hb _ => hFW.2.1 b (by simpa using (show b ≠ a by omega)), fun b _ _ hb => hFW.2.1 b (by simpa using (fun e : b = a => hb k hk.2.1 (by rw [e]; exact hq))), fun b _ => by rw [hQ], ⟨[], by rw [hFW.2.2.2.2.1, List.append_nil]⟩, fun j b _ hb => Or.inl (by rw [← hQ]; exact hb), by rw [hFW.2.2.2.2.2.1, e1]; omega, by rw [hFW.2.2.2.2.1, e2]; omega⟩
  have hP : Hp no_e (nmE S) (fun k => stE t S k + g k) W := Hp_ch (k := k) h.1 e3 hob (fun i _ => hFW.I List.not_mem_nil) (hFW.A (by decide)) (hFW.A (by decide)) (fun j j1 j2 => ?_) (by unfold h_ds; rw [hQ]; exact h.1.2.2.2.2.1) (fun _ q hq => ?_) (fun q q1 q2 => ?_)
  · have h108 : ∀ b, b ∈ [21, 22, 47, 48] → b < 108 := by decide
    exact ⟨mHS_ch h (fun i _ => hFW.I List.not_mem_nil) (fun b hb => hFW.2.1 b (by have := h108 b hb; simpa using (show b ≠ a by omega))) e3 hP (fun q hq1 _ => by rw [hh q hq1.1]; omega), hRW, hCF, hob, hh⟩
  · obtain ⟨kd', z', x', y', b1, b2, b3, b4, b5, b6, b7, b8, b9, b10, b11⟩ := h.1.1 j j1 j2
    by_cases hj : j = k
    · subst hj
      have ek : kd' = kd := by
        have := congrArg gN (b2.symm.trans hkd)
        rw [gN_nI (by omega), gN_nI (by omega)] at this
        exact this
      have ez : z' = z := by
        have := congrArg gN (b3.symm.trans hz)
        rw [gN_nI (by have := c_most_le kd'; omega), gN_nI (by omega)] at this
        exact this
      subst ek
      subst ez
      refine ⟨kd', z' + 1, x', y', b1, by rw [e3]; exact b2, by rw [h10, if_pos rfl], by rw [hFW.A (by decide)]; exact b4, by rw [hFW.A (by decide)]; exact b5, b6, b7, by omega, (fun c => by omega), (fun c => by rw [hQ, hq] at c; cases c), ?_⟩
      rw [hQ, hFW.2.2.2.2.1]
      intro b hb
      rw [hq] at hb
      injection hb with hb
      subst hb
      refine ⟨N, ha, hs, by rw [hw, Nat.mul_succ]; exact hN, hN6, fun e he => ?_⟩
      by_cases hez : e = z'
      · rw [hez, hw]
        exact ⟨o, ho2, hnew⟩
      · obtain ⟨N', m1, m2, m3, m4, m5⟩ := b11 a hq
        obtain ⟨p1, p2⟩ := h_at_lt hw2 (show e < z' by omega)
        rw [hw, hold _ p1, hold _ p2]
        have := m5 e (by omega)
        rw [hw] at this
        exact this
    · refine ⟨kd', z', x', y', b1, by rw [e3]; exact b2, by rw [h10, if_neg hj]; exact b3, by rw [hFW.A (by decide)]; exact b4, by rw [hFW.A (by decide)]; exact b5, b6, b7, b8, b9, by rw [hQ]; exact b10, ?_⟩
      rw [hQ, hFW.2.2.2.2.1]
      intro b hb
      have hba : b ≠ a := fun e => hne j j1 j2 hj (by unfold h_row; rw [hb]; exact e)
      rw [hFW.2.1 b (by simpa using hba)]
      exact b11 b hb
  · rw [htg] at hq
    rcases List.mem_append.mp hq with hq | hq
    · exact mHS_cl h k hk.1 hk.2.1 hk.2.2 q hq
    · rw [List.mem_singleton.mp hq]
      exact hol
  · obtain ⟨p4, p5, p6, p7, p8, p9⟩ := h.1.2.2.2.2.2 q q1 q2
    refine ⟨?_, by rw [hFW.A (by decide)]; exact p5, by rw [hFW.A (by decide)]; exact p6, p7, p8, p9⟩
    rw [h4 q, p4, hh q q1, nI_add]
    exact congrArg nI (by unfold no_e; omega)
end
