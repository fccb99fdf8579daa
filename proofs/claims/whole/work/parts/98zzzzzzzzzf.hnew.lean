/-! A NEW OBJECT AND ITS THING -/
section
variable {Q : Nat → Prop} {β β' : Nat → Nat} {F : Nat → Nat → Nat → Prop} {D : List Nat} {Sc Sr S X W : cS} {g0 g1 nn k r t : Nat}
theorem ob_obj {k : Nat} (hk : k ≤ 1500) : c_obj 4611686018427387904 (lN k) = nI k ∧ ob 4611686018427387904 (lN k) = k := by
  have h : c_obj 4611686018427387904 (lN k) = nI k := by unfold c_obj; rw [if_pos (by decide), lN_i]
  exact ⟨h, ob_n h hk⟩
theorem vrel_b {hi lo a b : Int64} {kd : Int32} (h : vrel β hi lo kd a b) (hb : ob hi lo ≠ 0 → β' (ob hi lo) = β (ob hi lo)) : vrel β' hi lo kd a b := by
  rcases h with h | h | h | h | ⟨k, k1, k2, h1, h2, h3, h4⟩ | h
  · exact Or.inl h
  · exact Or.inr (Or.inl h)
  · exact Or.inr (Or.inr (Or.inl h))
  · exact Or.inr (Or.inr (Or.inr (Or.inl h)))
  · have e : ob hi lo = k := by rw [h1, h2]; exact (ob_obj k2).2
    rw [e] at hb
    exact Or.inr (Or.inr (Or.inr (Or.inr (Or.inl ⟨k, k1, k2, h1, h2, h3, by rw [h4, hb (by omega)]⟩))))
  · exact Or.inr (Or.inr (Or.inr (Or.inr (Or.inr h))))
/-- a value that is no object: of any numbering -/
theorem vrel_nb {hi lo a b : Int64} {kd : Int32} (h : vrel β hi lo kd a b) (hk : kd ≠ nI 3) : vrel β' hi lo kd a b := by
  rcases h with h | h | h | h | ⟨k, k1, k2, h1, h2, h3, h4⟩ | h
  · exact Or.inl h
  · exact Or.inr (Or.inl h)
  · exact Or.inr (Or.inr (Or.inl h))
  · exact Or.inr (Or.inr (Or.inr (Or.inl h)))
  · exact absurd h3 hk
  · exact Or.inr (Or.inr (Or.inr (Or.inr (Or.inr h))))
theorem lkR_b {x y : Int32} (h : lkR β x y) (hb : gN x ≠ 0 → β' (gN x) = β (gN x)) : lkR β' x y := by
  rcases h with h | ⟨k, k1, k2, h1, h2⟩
  · exact Or.inl h
  · have e : gN x = k := by rw [h1, gN_nI (by omega)]
    rw [e] at hb
    exact Or.inr ⟨k, k1, k2, h1, by rw [h2, hb (by omega)]⟩
theorem keyR_b {kd : Nat} {kh kl ka kb : Int64} {kk : Int32} (h : keyR β Sr g0 g1 nn kd kh kl kk ka kb) : keyR β' Sr g0 g1 nn kd kh kl kk ka kb := by
  unfold keyR at h ⊢
  split at h
  · rename_i h2
    rw [if_pos h2]
    refine ⟨vrel_nb h.1 (fun c => ?_), h.2⟩
    rcases h.2.2 with e | e
    · rw [e] at c; exact absurd c (by decide)
    · rw [e] at c; exact absurd c (by decide)
  · rename_i h2
    rw [if_neg h2]
    exact h
theorem obR_b (h : obR β F Sc Sr g0 g1 nn k) (hk : β' k = β k) (hb : ∀ j, lv Sc j → β' j = β j) (hcl : ∀ t, t ∈ tgs Sc k → t = 0 ∨ lv Sc t) : obR β' F Sc Sr g0 g1 nn k := by
  have hbt : ∀ t, t ∈ tgs Sc k → t ≠ 0 → β' t = β t := fun t ht h0 => hb t ((hcl t ht).resolve_left h0)
  obtain ⟨b1, b2, t, v2, v3, v4, v5, v6, v7, n, m, c1, c2, c3, c4, c5, c6, c7, c8, c9⟩ := h
  exact ⟨by rw [hk]; exact b1, by rw [hk]; exact b2, t, v2, v3, v4, v5, v6, v7, n, m, by rw [hk]; exact c1, c2, c3, c4, fun i hi => vrel_b (c5 i hi) (fun h0 => hbt _ (List.mem_cons_of_mem _ (List.mem_cons_of_mem _ (seqN_in (f := h_ent Sc k) (Nat.zero_le i) (by omega)))) h0), fun hw => ⟨(c6 hw).1, fun i hi => keyR_b ((c6 hw).2 i hi)⟩, lkR_b c7 (fun h0 => hbt _ List.mem_cons_self h0), lkR_b c8 (fun h0 => hbt _ (List.mem_cons_of_mem _ List.mem_cons_self) h0), c9⟩
/-- an object k of the class and thing r of the reference are new -/
theorem HR_new (h : HR Q β F D Sc S g0 g1 nn) (hr : r < 1500) (h0 : sA S 87 r = 0) (ht : sQ S 86 r = some t) (hT : tF r t S W) (hw : tOk W r t) (h87 : sA W 87 r = nI 1) (hk : ¬ lv Sc k) (hl : ∀ q, lv X q ↔ lv Sc q ∨ q = k) (hE : ∀ j, lv Sc j → obE Sc X j) (hcl0 : h_cl Sc) (hcl : h_cl X) (hok : h_ok X k) (hbk : β' k = r) (hβ : ∀ j, j ≠ k → β' j = β j) (ho : obR β' F X W g0 g1 nn k) : HR Q β' F D X W g0 g1 nn := by
  obtain ⟨a1, a2, a3, a4, a5, a6, a7, a8, a9, a10, a11⟩ := h
  have ho' := fun p hp hpr => tF_o (p := p) a9 hT hr ht hp hpr
  have hne : ∀ p, sA S 87 p ≠ 0 → p ≠ r := fun p h c => h (by rw [c]; exact h0)
  have hx : ∀ p, p < 1500 → sA S 87 p ≠ 0 → r_ok W p ∧ rtgs W p = rtgs S p := fun p hp h => r_ok_E (a8 p hp h).1 (ho' p hp (hne p h)).1
  have hβl : ∀ j, lv Sc j → β' j = β j := fun j hj => hβ j (fun c => hk (c ▸ hj))
  have hclk : ∀ q, lv X q → ∀ t, t ∈ tgs X q → t = 0 ∨ lv X t := fun q hq => hcl q hq.1 hq.2.1 hq.2.2
  have hb : ∀ q, lv X q → β' q < 1500 := fun q hq => by
    rcases (hl q).mp hq with c | c
    · rw [hβl q c]; exact (a1 q c).1
    · rw [c, hbk]; exact hr
  have hlk : lv X k := (hl k).mpr (Or.inr rfl)
  have hok' := obR_ok ho (hclk k hlk) hb (h_n_le hok)
  rw [hbk] at hok'
  have hbne : ∀ j, lv Sc j → β j ≠ r := fun j hj c => (a1 j hj).2.1 (by rw [c]; exact h0)
  refine ⟨fun j hj => ?_, fun j q hj hq e => ?_, fun p hp hp0 => ?_, a4, fun x hx' => ?_, List.Pairwise.imp_of_mem (fun {a b} ha hb' hab => ?_) a6, fun x hx' => ?_, fun p hp hp0 => ?_, tF_Wf a9 hT hr ht hw, a10, fun p hp => ?_⟩
  · rcases (hl j).mp hj with c | c
    · have e : obR β' F Sc S g0 g1 nn j := obR_b (a1 j c) (hβl j c) hβl (hcl0 j c.1 c.2.1 c.2.2)
      exact obR_r (obR_c e (hE j c)) (by rw [hβl j c]; exact (ho' _ (a1 j c).1 (hbne j c)).1) (tF_N a9 hT hr ht a10)
    · rw [c]; exact ho
  · rcases (hl j).mp hj with c | c
    · rcases (hl q).mp hq with c2 | c2
      · rw [hβl j c, hβl q c2] at e
        exact a2 j q c c2 e
      · rw [hβl j c, c2, hbk] at e
        exact absurd e (hbne j c)
    · rcases (hl q).mp hq with c2 | c2
      · rw [hβl q c2, c, hbk] at e
        exact absurd e.symm (hbne q c2)
      · rw [c, c2]
  · by_cases c : p = r
    · exact Or.inr ⟨k, hlk, by rw [hbk]; exact c.symm⟩
    · rw [(ho' p hp c).1.1] at hp0
      exact (a3 p hp hp0).imp id (fun ⟨q, q1, q2⟩ => ⟨q, (hl q).mpr (Or.inl q1), by rw [hβl q q1]; exact q2⟩)
  · obtain ⟨x1, x2, x3⟩ := a5 x hx'
    have c := hne x x2
    refine ⟨x1, by rw [(ho' x x1 c).1.1]; exact x2, fun q hq => ?_⟩
    rcases (hl q).mp hq with c2 | c2
    · rw [hβl q c2]; exact x3 q c2
    · rw [c2, hbk]; exact fun e => c e.symm
  · obtain ⟨x1, x2, x3⟩ := a5 b hb'
    rw [(hx b x1 x2).2]
    exact hab
  · obtain ⟨x1, x2, x3⟩ := a5 x hx'
    rw [(hx x x1 x2).2]
    exact a7 x hx'
  · by_cases c : p = r
    · rw [c]; exact ⟨hok'.1, hok'.2.1⟩
    · rw [(ho' p hp c).1.1] at hp0
      obtain ⟨y1, y2⟩ := hx p hp hp0
      exact ⟨y1, by rw [y2]; exact (a8 p hp hp0).2⟩
  · by_cases c : p = r
    · rw [c]; exact Or.inr h87
    · rw [(ho' p hp c).1.1]; exact a11 p hp
end
