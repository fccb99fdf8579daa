/-! BOTH HEAPS AS GRAPHS: what exists in the class stands in the reference, by β; D: what has gone in the class and not yet in the reference -/
def bm (β : Nat → Nat) (t : Nat) : Nat := if t = 0 then 0 else β t + 1
def lv (S : cS) (k : Nat) : Prop := 1 ≤ k ∧ k ≤ 1500 ∧ sA S 3 k ≠ 0
def GR (β : Nat → Nat) (D : List Nat) (S : cS) : Prop :=
  (∀ k, lv S k → β k < 1500 ∧ sA S 87 (β k) ≠ 0 ∧ sI S (100 * r_t S (β k) + 0) = sA S 3 k) ∧
  (∀ j k, lv S j → lv S k → β j = β k → j = k) ∧
  (∀ p, p < 1500 → sA S 87 p ≠ 0 → p ∈ D ∨ ∃ k, lv S k ∧ β k = p) ∧
  (∀ k, lv S k → ∀ o, o ∈ rtgs S (β k) ↔ ∃ t, t ∈ tgs S k ∧ o = bm β t) ∧
  D.Nodup ∧ (∀ x, x ∈ D → x < 1500 ∧ sA S 87 x ≠ 0 ∧ ∀ k, lv S k → β k ≠ x) ∧ D.Pairwise (fun x y => x + 1 ∉ rtgs S y) ∧ (∀ x, x ∈ D → x + 1 ∉ rtgs S x) ∧
  (∀ k, k < 1500 → sA S 87 k ≠ 0 → r_ok S k)
/-- names and work of both hold the same -/
def RR (β e5 e6 : Nat → Nat) (S : cS) : Prop := (∀ o, o ∈ nmL S ∨ o ∈ wkL S → o = 0 ∨ ∃ k, lv S k ∧ o = β k + 1) ∧ (∀ k, lv S k → 0 < e5 k + e6 k → β k + 1 ∈ nmL S ∨ β k + 1 ∈ wkL S)
theorem root_pos {S : cS} {k : Nat} : 0 < rRoot S k ↔ k + 1 ∈ nmL S ∨ k + 1 ∈ wkL S := by
  unfold rRoot
  rw [← List.count_pos_iff, ← List.count_pos_iff]
  omega
theorem GR_dead {β e5 e6 : Nat → Nat} {D : List Nat} {S : cS} (hG : GR β D S) (hH : Hp no_e e5 e6 S) (hd : Hd no_e e5 e6 S) (hR : RR β e5 e6 S) : rDead S D := by
  obtain ⟨g1, g2, g3, g4, g5, g6, g7, g8, g9⟩ := hG
  refine ⟨g5, ?_, ?_, g7, g8, ?_⟩
  · intro x hx
    obtain ⟨x1, x2, x3⟩ := g6 x hx
    refine ⟨x1, x2, ?_⟩
    rcases Nat.eq_zero_or_pos (rRoot S x) with e | e
    · exact e
    · rcases hR.1 _ (root_pos.mp e) with h | ⟨k, hk, h⟩
      · omega
      · exact absurd (by omega) (x3 k hk)
  · intro j hj1 hj2 hj x hx hm
    rcases g3 j hj1 hj2 with h | ⟨k, hk, e⟩
    · exact hj h
    · subst e
      obtain ⟨t, ht, e⟩ := (g4 k hk (x + 1)).mp hm
      rcases hH.2.2.2.1 k hk.1 hk.2.1 hk.2.2 t ht with h | h
      · rw [h] at e
        exact absurd e (by unfold bm; rw [if_pos rfl]; omega)
      · unfold bm at e
        rw [if_neg (by omega)] at e
        exact (g6 x hx).2.2 t h (by omega)
  · intro p hp1 hp2 hp
    rcases g3 p hp1 hp2 with h | ⟨k, hk, e⟩
    · exact absurd h hp
    · subst e
      have hpos := hd k hk.1 hk.2.1 hk.2.2
      by_cases h6 : 0 < e5 k + e6 k
      · exact Or.inl (root_pos.mpr (hR.2 k hk h6))
      · have : 0 < heldBy S k := by unfold no_e at hpos; omega
        obtain ⟨j, hj1, hj2⟩ := sumN_ex this
        by_cases hc : sA S 3 j = 0
        · rw [if_pos hc] at hj2; omega
        · rw [if_neg hc] at hj2
          have hm := List.count_pos_iff.mp hj2
          have hj0 : 1 ≤ j := by
            rcases Nat.eq_zero_or_pos j with e | e
            · subst e
              obtain ⟨_, _, _, _, _, _, _, _, _, _, q⟩ := hH.2.1
              exact absurd q hc
            · exact e
          have hlj : lv S j := ⟨hj0, by omega, hc⟩
          obtain ⟨a1, a2, _⟩ := g1 j hlj
          refine Or.inr ⟨β j, a1, a2, fun h => (g6 _ h).2.2 j hlj rfl, (g4 j hlj _).mpr ⟨k, hm, ?_⟩⟩
          unfold bm
          rw [if_neg (by have := hk.1; omega)]
/-- only counts, marks and what is settled have changed -/
theorem GR_settled {β : Nat → Nat} {D : List Nat} {S S' : cS} (hG : GR β D S) (hF : Fr [] [87, 89, 90] S S') (h87 : ∀ k, k < 1500 → sA S' 87 k = if k ∈ D then 0 else sA S 87 k) : GR β [] S' := by
  obtain ⟨g1, g2, g3, g4, g5, g6, g7, g8, g9⟩ := hG
  have hL : ∀ a, a ∈ [87, 89, 90] → a < 108 := by decide
  have hlv : ∀ k, lv S' k ↔ lv S k := fun k => by unfold lv; rw [hF.A (a := 3) (by decide)]
  have hI : sI S' = sI S := funext fun i => hF.I List.not_mem_nil
  have htg : ∀ k, tgs S' k = tgs S k := fun k => tgs_congr (by rw [hF.A (by decide)]) (by rw [hF.A (by decide)]) (by rw [hF.A (by decide)]) (by rw [hF.A (by decide)]) (by rw [hF.2.2.2.1]) hF.2.1
  have ht : ∀ k, r_t S' k = r_t S k := fun k => by unfold r_t; rw [hF.2.2.2.1]
  have hex : ∀ p, p < 1500 → sA S' 87 p ≠ 0 → sA S 87 p ≠ 0 ∧ p ∉ D := fun p hp h => by
    rw [h87 p hp] at h
    by_cases hd : p ∈ D
    · rw [if_pos hd] at h; exact absurd rfl h
    · rw [if_neg hd] at h; exact ⟨h, hd⟩
  refine ⟨?_, ?_, ?_, ?_, List.nodup_nil, (fun x hx => by cases hx), List.Pairwise.nil, (fun x hx => by cases hx), ?_⟩
  · intro k hk
    rw [hlv] at hk
    obtain ⟨a1, a2, a3⟩ := g1 k hk
    refine ⟨a1, ?_, by rw [hI, ht, hF.A (by decide)]; exact a3⟩
    rw [h87 _ a1, if_neg (fun h => (g6 _ h).2.2 k hk rfl)]
    exact a2
  · intro j k hj hk
    rw [hlv] at hj hk
    exact g2 j k hj hk
  · intro p hp h
    obtain ⟨h1, h2⟩ := hex p hp h
    rcases g3 p hp h1 with h3 | ⟨k, hk, e⟩
    · exact absurd h3 h2
    · exact Or.inr ⟨k, (hlv k).mpr hk, e⟩
  · intro k hk o
    rw [hlv] at hk
    obtain ⟨a1, a2, a3⟩ := g1 k hk
    rw [htg, rtgs_Fr hF (fun _ h => by cases h) hL (g9 _ a1 a2)]
    exact g4 k hk o
  · intro k hk h
    exact r_ok_Fr hF (fun _ h => by cases h) hL (g9 k hk (hex k hk h).1)
/-- some went in the class: in the reference they are dead -/
theorem GR_kill {β e4 e5 e6 : Nat → Nat} {D K : List Nat} {S S' : cS} (hG : GR β D S) (hcl : h_cl S) (hH : Hp e4 e5 e6 S') (hK : Kill K S S') : GR β (D ++ K.map β) S' := by
  obtain ⟨g1, g2, g3, g4, g5, g6, g7, g8, g9⟩ := hG
  obtain ⟨hF, k3, k10, kn, kl, kp, kx⟩ := hK
  have hL1 : ∀ i, i ∈ [213, 214, 216] → i < 10800 := by decide
  have hL2 : ∀ a, a ∈ [3, 4, 5, 6, 10, 12, 13, 14] → a < 108 := by decide
  have hlv : ∀ k, lv S' k ↔ lv S k ∧ k ∉ K := fun k => by
    unfold lv
    rw [k3 k]
    by_cases h : k ∈ K
    · rw [if_pos h]
      exact ⟨fun c => absurd rfl c.2.2, fun c => absurd h c.2⟩
    · rw [if_neg h]
      exact ⟨fun c => ⟨c, h⟩, fun c => c.1⟩
  have hKl : ∀ k, k ∈ K → lv S k := fun k hk => kl k hk
  have htg : ∀ k, k ∉ K → tgs S' k = tgs S k := fun k hk => tgs_congr (by rw [k3 k, if_neg hk]) (by rw [hF.A (by decide)]) (by rw [hF.A (by decide)]) (by rw [k10 k, if_neg hk]) (by rw [hF.2.2.2.1]) hF.2.1
  have ht : ∀ k, r_t S' k = r_t S k := fun k => by unfold r_t; rw [hF.2.2.2.1]
  have h87 : sA S' 87 = sA S 87 := hF.A (by decide)
  have hrt : ∀ p, p < 1500 → sA S 87 p ≠ 0 → rtgs S' p = rtgs S p := fun p hp h => rtgs_Fr hF hL1 hL2 (g9 p hp h)
  have hI : ∀ i, 10800 ≤ i → sI S' i = sI S i := fun i hi => hF.I (fun hm => by have := hL1 i hm; omega)
  have hbt : ∀ k t, lv S k → t ∈ tgs S k → t ≠ 0 → lv S t := fun k t hk htm h0 => by
    rcases hcl k hk.1 hk.2.1 hk.2.2 t htm with h | h
    · exact absurd h h0
    · exact h
  have hKe : ∀ x, x ∈ K.map β ↔ ∃ k, k ∈ K ∧ β k = x := fun x => List.mem_map
  have hbne : ∀ k x, lv S x → k ∈ K → lv S k → β x + 1 ∈ rtgs S (β k) → x ∈ tgs S k := fun k x hx hk hlk hm => by
    obtain ⟨t, htm, e⟩ := (g4 k hlk _).mp hm
    unfold bm at e
    by_cases h0 : t = 0
    · rw [if_pos h0] at e; omega
    · rw [if_neg h0] at e
      have := g2 x t hx (hbt k t hlk htm h0) (by omega)
      rw [this]; exact htm
  refine ⟨?_, ?_, ?_, ?_, ?_, ?_, ?_, ?_, ?_⟩
  · intro k hk
    rw [hlv] at hk
    obtain ⟨a1, a2, a3⟩ := g1 k hk.1
    obtain ⟨N, t1, t2, t3⟩ := r_ok_t (g9 _ a1 a2)
    exact ⟨a1, by rw [h87]; exact a2, by rw [ht, hI _ (by omega), k3 k, if_neg hk.2]; exact a3⟩
  · intro j k hj hk
    rw [hlv] at hj hk
    exact g2 j k hj.1 hk.1
  · intro p hp h
    rw [h87] at h
    rcases g3 p hp h with h3 | ⟨k, hk, e⟩
    · exact Or.inl (List.mem_append_left _ h3)
    · by_cases hkK : k ∈ K
      · exact Or.inl (List.mem_append_right _ ((hKe p).mpr ⟨k, hkK, e⟩))
      · exact Or.inr ⟨k, (hlv k).mpr ⟨hk, hkK⟩, e⟩
  · intro k hk o
    rw [hlv] at hk
    obtain ⟨a1, a2, _⟩ := g1 k hk.1
    rw [htg k hk.2, hrt _ a1 a2]
    exact g4 k hk.1 o
  · rw [List.nodup_append]
    refine ⟨g5, ?_, ?_⟩
    · rw [List.nodup_iff_pairwise_ne, List.pairwise_map]
      refine List.Pairwise.imp_of_mem (fun {a b} ha hb hab e => ?_) (List.nodup_iff_pairwise_ne.mp kn)
      exact hab (g2 a b (hKl a ha) (hKl b hb) e)
    · intro a ha b hb e
      obtain ⟨k, hk, e2⟩ := (hKe b).mp hb
      exact (g6 a ha).2.2 k (hKl k hk) (by rw [e2, e])
  · intro x hx
    rcases List.mem_append.mp hx with hx | hx
    · obtain ⟨a1, a2, a3⟩ := g6 x hx
      exact ⟨a1, by rw [h87]; exact a2, fun k hk => a3 k ((hlv k).mp hk).1⟩
    · obtain ⟨q, hq, e⟩ := (hKe x).mp hx
      obtain ⟨a1, a2, _⟩ := g1 q (hKl q hq)
      subst e
      refine ⟨a1, by rw [h87]; exact a2, fun k hk e => ?_⟩
      rw [hlv] at hk
      exact hk.2 (g2 k q hk.1 (hKl q hq) e ▸ hq)
  · rw [List.pairwise_append]
    refine ⟨List.Pairwise.imp_of_mem (fun {a b} ha hb hab => ?_) g7, ?_, ?_⟩
    · obtain ⟨b1, b2, _⟩ := g6 b hb
      rw [hrt _ b1 b2]; exact hab
    · rw [List.pairwise_map]
      refine List.Pairwise.imp_of_mem (fun {a b} ha hb hab hm => ?_) kp
      obtain ⟨b1, b2, _⟩ := g1 b (hKl b hb)
      rw [hrt _ b1 b2] at hm
      exact hab (hbne b a (hKl a ha) hb (hKl b hb) hm)
    · intro a ha b hb hm
      obtain ⟨q, hq, e⟩ := (hKe b).mp hb
      subst e
      obtain ⟨b1, b2, _⟩ := g1 q (hKl q hq)
      rw [hrt _ b1 b2] at hm
      obtain ⟨t, htm, e⟩ := (g4 q (hKl q hq) _).mp hm
      unfold bm at e
      by_cases h0 : t = 0
      · rw [if_pos h0] at e; omega
      · rw [if_neg h0] at e
        exact (g6 a ha).2.2 t (hbt q t (hKl q hq) htm h0) (by omega)
  · intro x hx hm
    rcases List.mem_append.mp hx with hx | hx
    · obtain ⟨a1, a2, _⟩ := g6 x hx
      rw [hrt _ a1 a2] at hm
      exact g8 x hx hm
    · obtain ⟨q, hq, e⟩ := (hKe x).mp hx
      subst e
      obtain ⟨b1, b2, _⟩ := g1 q (hKl q hq)
      rw [hrt _ b1 b2] at hm
      exact kx q hq (hbne q q (hKl q hq) hq (hKl q hq) hm)
  · intro k hk h
    rw [h87] at h
    exact r_ok_Fr hF hL1 hL2 (g9 k hk h)
/-! COUNTS of both are the same -/
theorem filt_len {P : Nat → Bool} : ∀ n : Nat, sumN (fun k => if P k = true then 1 else 0) n = ((List.range n).filter P).length := by
  intro n
  induction n with
  | zero => rfl
  | succ n ih =>
    rw [List.range_succ, List.filter_append, List.length_append, ← ih]
    show sumN _ n + (if P n = true then 1 else 0) = _ + (List.filter P [n]).length
    by_cases h : P n = true
    · rw [if_pos h, List.filter_cons, if_pos h]; rfl
    · rw [if_neg h, List.filter_cons, if_neg h]; rfl
/-- two sets, one the other's image -/
theorem same_count {P Q : Nat → Bool} {β : Nat → Nat} {n m : Nat} (h1 : ∀ k, k < n → P k = true → β k < m ∧ Q (β k) = true) (h2 : ∀ j k, j < n → k < n → P j = true → P k = true → β j = β k → j = k) (h3 : ∀ p, p < m → Q p = true → ∃ k, k < n ∧ P k = true ∧ β k = p) : sumN (fun k => if P k = true then 1 else 0) n = sumN (fun p => if Q p = true then 1 else 0) m := by
  rw [filt_len, filt_len, ← List.length_map (f := β)]
  refine List.Perm.length_eq ((List.perm_ext_iff_of_nodup ?_ ?_).mpr ?_)
  · rw [List.nodup_iff_pairwise_ne, List.pairwise_map]
    refine List.Pairwise.imp_of_mem (fun {a b} ha hb hab e => ?_) (List.nodup_iff_pairwise_ne.mp (List.Sublist.nodup List.filter_sublist List.nodup_range))
    rw [List.mem_filter, List.mem_range] at ha hb
    exact hab (h2 a b ha.1 hb.1 ha.2 hb.2 e)
  · exact List.Sublist.nodup List.filter_sublist List.nodup_range
  · intro p
    rw [List.mem_map, List.mem_filter, List.mem_range]
    constructor
    · rintro ⟨k, hk, e⟩
      rw [List.mem_filter, List.mem_range] at hk
      obtain ⟨a1, a2⟩ := h1 k hk.1 hk.2
      rw [← e]; exact ⟨a1, a2⟩
    · rintro ⟨a1, a2⟩
      obtain ⟨k, b1, b2, e⟩ := h3 p a1 a2
      exact ⟨k, by rw [List.mem_filter, List.mem_range]; exact ⟨b1, b2⟩, e⟩
def rKind (S : cS) (q : Nat) : Nat := sumN (fun p => if sA S 87 p ≠ 0 ∧ (q = 0 ∨ sI S (100 * r_t S p + 0) = nI q) then 1 else 0) 1500
theorem if_dec {c : Prop} [Decidable c] : (if c then 1 else 0 : Nat) = if decide c = true then 1 else 0 := by
  by_cases h : c
  · rw [if_pos h, if_pos (decide_eq_true h)]
  · rw [if_neg h, if_neg (fun e => h (of_decide_eq_true e))]
theorem GR_count {β : Nat → Nat} {S : cS} (hG : GR β [] S) (h0 : sA S 3 0 = 0) {q : Nat} (hq : 1 ≤ q) (hq7 : q ≤ 7) : rKind S q = nKind S q := by
  obtain ⟨g1, g2, g3, _⟩ := hG
  have e0 : (0 : Int32) ≠ nI q := fun e => by
    have := congrArg gN e
    rw [show (0 : Int32) = nI 0 from rfl, gN_nI (by omega), gN_nI (by omega)] at this
    omega
  have := same_count (P := fun k => decide (sA S 3 k = nI q)) (Q := fun p => decide (sA S 87 p ≠ 0 ∧ (q = 0 ∨ sI S (100 * r_t S p + 0) = nI q))) (β := β) (n := 1501) (m := 1500) ?_ ?_ ?_
  · have e : nKind S q = sumN (fun k => if decide (sA S 3 k = nI q) = true then 1 else 0) 1501 := sumN_congr (fun k _ => if_dec)
    have e2 : rKind S q = sumN (fun p => if decide (sA S 87 p ≠ 0 ∧ (q = 0 ∨ sI S (100 * r_t S p + 0) = nI q)) = true then 1 else 0) 1500 := sumN_congr (fun p _ => if_dec)
    rw [e, e2]
    exact this.symm
  · intro k hk hP
    have hP := of_decide_eq_true hP
    have hl : lv S k := ⟨by
      rcases Nat.eq_zero_or_pos k with e | e
      · subst e; rw [h0] at hP; exact absurd hP e0
      · exact e, by omega, fun e => e0 (e ▸ hP)⟩
    obtain ⟨a1, a2, a3⟩ := g1 k hl
    exact ⟨a1, decide_eq_true ⟨a2, Or.inr (by rw [a3]; exact hP)⟩⟩
  · intro j k hj hk hPj hPk e
    have hPj := of_decide_eq_true hPj
    have hPk := of_decide_eq_true hPk
    have hh : ∀ x, x < 1501 → sA S 3 x = nI q → lv S x := fun x hx hP => ⟨by
      rcases Nat.eq_zero_or_pos x with e | e
      · subst e; rw [h0] at hP; exact absurd hP e0
      · exact e, by omega, fun e => e0 (e ▸ hP)⟩
    exact g2 j k (hh j hj hPj) (hh k hk hPk) e
  · intro p hp hQ
    obtain ⟨h1, h2⟩ := of_decide_eq_true hQ
    rcases g3 p hp h1 with h | ⟨k, hk, e⟩
    · cases h
    · obtain ⟨a1, a2, a3⟩ := g1 k hk
      subst e
      exact ⟨k, by have := hk.2.1; omega, decide_eq_true (by rw [← a3]; exact h2.resolve_left (by omega)), rfl⟩
theorem GR_live {β : Nat → Nat} {S : cS} (hG : GR β [] S) (h0 : sA S 3 0 = 0) : rKind S 0 = nLive S := by
  obtain ⟨g1, g2, g3, _⟩ := hG
  have := same_count (P := fun k => decide (sA S 3 k ≠ 0)) (Q := fun p => decide (sA S 87 p ≠ 0 ∧ (0 = 0 ∨ sI S (100 * r_t S p + 0) = nI 0))) (β := β) (n := 1501) (m := 1500) ?_ ?_ ?_
  · have e : nLive S = sumN (fun k => if decide (sA S 3 k ≠ 0) = true then 1 else 0) 1501 := sumN_congr (fun k _ => by
      show (if sA S 3 k = 0 then 0 else 1) = if decide (sA S 3 k ≠ 0) = true then 1 else 0
      rw [← if_dec]
      by_cases h : sA S 3 k = 0
      · rw [if_pos h, if_neg (fun c => c h)]
      · rw [if_neg h, if_pos h])
    have e2 : rKind S 0 = sumN (fun p => if decide (sA S 87 p ≠ 0 ∧ (0 = 0 ∨ sI S (100 * r_t S p + 0) = nI 0)) = true then 1 else 0) 1500 := sumN_congr (fun p _ => if_dec)
    rw [e, e2]
    exact this.symm
  · intro k hk hP
    have hP := of_decide_eq_true hP
    have hl : lv S k := ⟨by
      rcases Nat.eq_zero_or_pos k with e | e
      · subst e; exact absurd h0 hP
      · exact e, by omega, hP⟩
    obtain ⟨a1, a2, a3⟩ := g1 k hl
    exact ⟨a1, decide_eq_true ⟨a2, Or.inl rfl⟩⟩
  · intro j k hj hk hPj hPk e
    have hPj := of_decide_eq_true hPj
    have hPk := of_decide_eq_true hPk
    have hh : ∀ x, x < 1501 → sA S 3 x ≠ 0 → lv S x := fun x hx hP => ⟨by
      rcases Nat.eq_zero_or_pos x with e | e
      · subst e; exact absurd h0 hP
      · exact e, by omega, hP⟩
    exact g2 j k (hh j hj hPj) (hh k hk hPk) e
  · intro p hp hQ
    obtain ⟨h1, h2⟩ := of_decide_eq_true hQ
    rcases g3 p hp h1 with h | ⟨k, hk, e⟩
    · cases h
    · exact ⟨k, by have := hk.2.1; omega, decide_eq_true hk.2.2, e⟩
