/-! VALUES of both; ASSIGN as a step of the graph -/
/-- a value of the class and one of the reference are the same -/
def srel (hi lo a b : Int64) : Prop := ∃ (n : Nat) (f : Nat → Nat), n ≤ 15 ∧ (∀ i, i < n → 32 ≤ f i ∧ f i ≤ 126) ∧ hi = e_H f n ∧ lo = e_L f n ∧ a = p_A f n ∧ b = p_B f n
def vrel (β : Nat → Nat) (hi lo : Int64) (kd : Int32) (a b : Int64) : Prop := (hi = 0 ∧ lo = 0 ∧ kd = Int32.ofInt (-1)) ∨ (hi = 1152921504606846976 ∧ lo = 0 ∧ kd = nI 0) ∨ (hi = 2305843009213693952 ∧ kd = nI 1 ∧ a = lo) ∨ (kd = nI 2 ∧ srel hi lo a b) ∨ (∃ k, 1 ≤ k ∧ k ≤ 1500 ∧ hi = 4611686018427387904 ∧ lo = lN k ∧ kd = nI 3 ∧ a = lN (β k)) ∨ (∃ q, q < 10 ∧ hi = 5764607523034234880 ∧ lo = lN (q + 1) ∧ kd = nI 4 ∧ a = lN q)
theorem srel_kd {hi lo a b : Int64} (h : srel hi lo a b) : c_kd hi = 3 := by
  obtain ⟨n, f, hn, hf, h1, _⟩ := h
  rw [h1]
  exact e_kd hn (fun i hi => by have := hf i hi; omega)
theorem vrel_ob {β : Nat → Nat} {hi lo a b : Int64} {kd : Int32} (h : vrel β hi lo kd a b) : ∃ o, o ≤ 1500 ∧ c_obj hi lo = nI o ∧ ((o = 0 ∧ kd ≠ nI 3) ∨ (1 ≤ o ∧ kd = nI 3 ∧ a = lN (β o))) := by
  unfold c_obj
  rcases h with ⟨h1, h2, h3⟩ | ⟨h1, h2, h3⟩ | ⟨h1, h3, _⟩ | ⟨h3, h1⟩ | ⟨k, k1, k2, h1, h2, h3, h4⟩ | ⟨q, q1, h1, h2, h3, h4⟩
  · exact ⟨0, by omega, by rw [h1]; exact if_neg (by decide), Or.inl ⟨rfl, by rw [h3]; decide⟩⟩
  · exact ⟨0, by omega, by rw [h1]; exact if_neg (by decide), Or.inl ⟨rfl, by rw [h3]; decide⟩⟩
  · exact ⟨0, by omega, by rw [h1]; exact if_neg (by decide), Or.inl ⟨rfl, by rw [h3]; decide⟩⟩
  · exact ⟨0, by omega, by rw [srel_kd h1]; exact if_neg (by decide), Or.inl ⟨rfl, by rw [h3]; decide⟩⟩
  · exact ⟨k, k2, by rw [h1, h2, if_pos (by decide), lN_i], Or.inr ⟨k1, h3, h4⟩⟩
  · exact ⟨0, by omega, by rw [h1]; exact if_neg (by decide), Or.inl ⟨rfl, by rw [h3]; decide⟩⟩
theorem vrel_kind {β : Nat → Nat} {hi lo a b : Int64} {kd : Int32} (h : vrel β hi lo kd a b) : (c_kind hi = 0 ↔ kd = Int32.ofInt (-1)) ∧ (c_kind hi = nI 2 ↔ kd = nI 1) ∧ (kd = nI 1 → a = lo) := by
  unfold c_kind
  rcases h with ⟨h1, h2, h3⟩ | ⟨h1, h2, h3⟩ | ⟨h1, h3, h4⟩ | ⟨h3, h1⟩ | ⟨k, k1, k2, h1, h2, h3, h4⟩ | ⟨q, q1, h1, h2, h3, h4⟩
  · rw [h1, h3]; exact ⟨by decide, by decide, fun c => absurd c (by decide)⟩
  · rw [h1, h3]; exact ⟨by decide, by decide, fun c => absurd c (by decide)⟩
  · rw [h1, h3]; exact ⟨by decide, by decide, fun _ => h4⟩
  · rw [srel_kd h1, h3]; exact ⟨by decide, by decide, fun c => absurd c (by decide)⟩
  · rw [h1, h3]; exact ⟨by decide, by decide, fun c => absurd c (by decide)⟩
  · rw [h1, h3]; exact ⟨by decide, by decide, fun c => absurd c (by decide)⟩
/-- all but some ints, arrays and fixed long arrays is as it was -/
def FrL (L1 L2 L3 : List Nat) (S0 S : cS) : Prop := sJ S = sJ S0 ∧ (∀ a, a ∉ L3 → sL S a = sL S0 a) ∧ sV S = sV S0 ∧ sQ S = sQ S0 ∧ sS S = sS S0 ∧ mu S = mu S0 ∧ (∀ i, i ∉ L1 → sI S i = sI S0 i) ∧ (∀ a, a ∉ L2 → sA S a = sA S0 a)
theorem FrL.I {L1 L2 L3 : List Nat} {S0 S : cS} (h : FrL L1 L2 L3 S0 S) {i : Nat} (hi : i ∉ L1) : sI S i = sI S0 i := h.2.2.2.2.2.2.1 i hi
theorem FrL.A {L1 L2 L3 : List Nat} {S0 S : cS} (h : FrL L1 L2 L3 S0 S) {a : Nat} (ha : a ∉ L2) : sA S a = sA S0 a := h.2.2.2.2.2.2.2 a ha
theorem tgs_FrL {L1 L2 L3 : List Nat} {S S' : cS} {k : Nat} (hF : FrL L1 L2 L3 S S') (h2 : ∀ a, a ∈ L2 → a ∉ [3, 7, 8, 10]) (h3 : ∀ a, a ∈ L3 → 1 ≤ a ∧ a < 108) (hok : h_ok S k) : tgs S' k = tgs S k := by
  have a : ∀ x, x ∈ [3, 7, 8, 10] → sA S' x = sA S x := fun x hx => hF.A (fun c => h2 x c hx)
  have hr : sL S' (h_row S k) = sL S (h_row S k) := by
    obtain ⟨kd, z, x, y, h7, hkd, hsz, hx, hy, hx1, hy1, hz, hw0, hn0, hrow⟩ := hok
    unfold h_row
    cases hq : sQ S 11 k with
    | none => exact hF.2.1 0 (fun c => by have := h3 0 c; omega)
    | some b =>
      obtain ⟨N, hb, _⟩ := hrow b hq
      exact hF.2.1 b (fun c => by have := h3 b c; omega)
  have e : h_ent S' k = h_ent S k := by
    funext e
    have hrr : h_row S' k = h_row S k := by unfold h_row; rw [hF.2.2.2.1]
    unfold h_ent h_hi h_lo h_kd
    rw [hrr, hr, a 3 (by decide)]
  unfold tgs h_n h_z h_kd
  rw [a 3 (by decide), a 7 (by decide), a 8 (by decide), a 10 (by decide), e]
theorem r_ok_FrL {L1 L2 L3 : List Nat} {S S' : cS} {k : Nat} (hF : FrL L1 L2 L3 S S') (h1 : ∀ i, i ∈ L1 → i < 10800) (h2 : ∀ a, a ∈ L2 → a < 108) (h3 : ∀ a, a ∈ L3 → a < 108) (h : r_ok S k) : r_ok S' k ∧ rtgs S' k = rtgs S k := by
  obtain ⟨t, N, z, v2, v4, n, hq, ht, hs, hz, e2, e4, hk2, hk4, hzn, hn, hv2, ho, h11, h12⟩ := h
  have hI : ∀ i, 10800 ≤ i → sI S' i = sI S i := fun i hi => hF.I (fun hm => by have := h1 i hm; omega)
  have hA : sA S' v2 = sA S v2 := hF.A (fun hm => by have := h2 v2 hm; omega)
  have hL : sL S' v4 = sL S v4 := hF.2.1 v4 (fun hm => by have := h3 v4 hm; omega)
  refine ⟨⟨t, N, z, v2, v4, n, by rw [hF.2.2.2.1]; exact hq, ht, by rw [hF.2.2.2.2.1]; exact hs, by rw [hI _ (by omega)]; exact hz, by rw [hF.2.2.1]; exact e2, by rw [hF.2.2.1]; exact e4, isK_S hF.2.2.2.2.1 hk2, isK_S hF.2.2.2.2.1 hk4, hzn, hn, hv2, ?_, by rw [hI _ (by omega)]; exact h11, by rw [hI _ (by omega)]; exact h12⟩, ?_⟩
  · rw [hA, hL]
    exact ho
  · rw [rtgs_e hq hz (by omega) e2 e4, rtgs_e (S := S') (by rw [hF.2.2.2.1]; exact hq) (by rw [hI _ (by omega)]; exact hz) (by omega) (by rw [hF.2.2.1]; exact e2) (by rw [hF.2.2.1]; exact e4), hA, hL, hI _ (by omega), hI _ (by omega)]
theorem GR_FrL {L1 L2 L3 : List Nat} {β : Nat → Nat} {D : List Nat} {S S' : cS} (hG : GR β D S) (hok : ∀ k, 1 ≤ k → k ≤ 1500 → h_ok S k) (hF : FrL L1 L2 L3 S S') (h1 : ∀ i, i ∈ L1 → i < 10800) (h2 : ∀ a, a ∈ L2 → a < 108 ∧ a ∉ [3, 7, 8, 10, 87]) (h3 : ∀ a, a ∈ L3 → 1 ≤ a ∧ a < 108) : GR β D S' := by
  obtain ⟨g1, g2, g3, g4, g5, g6, g7, g8, g9⟩ := hG
  have a : ∀ x, x ∈ [3, 7, 8, 10, 87] → sA S' x = sA S x := fun x hx => hF.A (fun c => (h2 x c).2 hx)
  have hlv : ∀ k, lv S' k ↔ lv S k := fun k => by unfold lv; rw [a 3 (by decide)]
  have htg : ∀ k, lv S k → tgs S' k = tgs S k := fun k hk => tgs_FrL hF (fun b hb => fun c => (h2 b hb).2 (by
    rcases List.mem_cons.mp c with e | c
    · rw [e]; decide
    · rcases List.mem_cons.mp c with e | c
      · rw [e]; decide
      · rcases List.mem_cons.mp c with e | c
        · rw [e]; decide
        · rw [List.mem_singleton.mp c]; decide)) h3 (hok k hk.1 hk.2.1)
  have hr : ∀ p, p < 1500 → sA S 87 p ≠ 0 → r_ok S' p ∧ rtgs S' p = rtgs S p := fun p hp h => r_ok_FrL hF h1 (fun b hb => (h2 b hb).1) (fun b hb => (h3 b hb).2) (g9 p hp h)
  have ht : ∀ k, r_t S' k = r_t S k := fun k => by unfold r_t; rw [hF.2.2.2.1]
  have h87 : sA S' 87 = sA S 87 := a 87 (by decide)
  have hI : ∀ i, 10800 ≤ i → sI S' i = sI S i := fun i hi => hF.I (fun hm => by have := h1 i hm; omega)
  refine ⟨?_, ?_, ?_, ?_, g5, ?_, ?_, ?_, ?_⟩
  · intro k hk
    rw [hlv] at hk
    obtain ⟨a1, a2, a3⟩ := g1 k hk
    obtain ⟨N, t1, t2, t3⟩ := r_ok_t (g9 _ a1 a2)
    exact ⟨a1, by rw [h87]; exact a2, by rw [ht, hI _ (by omega), a 3 (by decide)]; exact a3⟩
  · intro j k hj hk
    rw [hlv] at hj hk
    exact g2 j k hj hk
  · intro p hp h
    rw [h87] at h
    exact (g3 p hp h).imp id (fun ⟨k, hk, e⟩ => ⟨k, (hlv k).mpr hk, e⟩)
  · intro k hk o
    rw [hlv] at hk
    obtain ⟨a1, a2, _⟩ := g1 k hk
    rw [htg k hk, (hr _ a1 a2).2]
    exact g4 k hk o
  · intro x hx
    obtain ⟨x1, x2, x3⟩ := g6 x hx
    exact ⟨x1, by rw [h87]; exact x2, fun k hk => x3 k ((hlv k).mp hk)⟩
  · refine List.Pairwise.imp_of_mem (fun {a b} ha hb hab => ?_) g7
    obtain ⟨b1, b2, _⟩ := g6 b hb
    rw [(hr _ b1 b2).2]; exact hab
  · intro x hx
    obtain ⟨x1, x2, _⟩ := g6 x hx
    rw [(hr _ x1 x2).2]
    exact g8 x hx
  · intro k hk h
    rw [h87] at h
    exact (hr k hk h).1
/-- only holds, and long arrays that are no rows, have changed -/
theorem Hp_reL {S S' : cS} {L1 L3 : List Nat} {e4 e5 e6 f4 f5 f6 : Nat → Nat} (h : Hp e4 e5 e6 S) (hF : FrL L1 [4, 5, 6, 14] L3 S S') (h1 : ∀ i, i ∈ L1 → i ∉ [213, 214, 215]) (h3 : ∀ a, a ∈ L3 → 1 ≤ a ∧ a < 108) (h4 : ∀ t, 1 ≤ t → t ≤ 1500 → sA S' 4 t = nI (heldBy S t + f4 t) ∧ sA S' 5 t = nI (f5 t) ∧ sA S' 6 t = nI (f6 t) ∧ f4 t < 2 ^ 20 ∧ f5 t < 2 ^ 20 ∧ f6 t < 2 ^ 20) : Hp f4 f5 f6 S' ∧ ∀ t, heldBy S' t = heldBy S t := by
  obtain ⟨hok, ⟨p, f, q1, q2, q3, q4, q5, q6, q7, q8, q9⟩, hcn, hcl, hds, hex⟩ := h
  have a3 : sA S' 3 = sA S 3 := hF.A (by decide)
  have hI : ∀ i, i ∈ [213, 214, 215] → sI S' i = sI S i := fun i hi => hF.I (fun c => h1 i c hi)
  have htg : ∀ k, 1 ≤ k → k ≤ 1500 → tgs S' k = tgs S k := fun k k1 k2 => tgs_FrL hF (by decide) h3 (hok k k1 k2)
  have hh : ∀ t, heldBy S' t = heldBy S t := fun t => sumN_congr (fun j hj => by
    show (if sA S' 3 j = 0 then 0 else (tgs S' j).count t) = if sA S 3 j = 0 then 0 else (tgs S j).count t
    rw [a3]
    by_cases hc : sA S 3 j = 0
    · rw [if_pos hc, if_pos hc]
    · rw [if_neg hc, if_neg hc, htg j (by
        rcases Nat.eq_zero_or_pos j with e | e
        · subst e; exact absurd q9 hc
        · exact e) (by omega)])
  have hn : nLive S' = nLive S := sumN_congr (fun k _ => by
    show (if sA S' 3 k = 0 then 0 else 1) = if sA S 3 k = 0 then 0 else 1
    rw [a3])
  refine ⟨⟨?_, ⟨p, f, by rw [hI _ (by decide), hn]; exact q1, by rw [hI _ (by decide)]; exact q2, by rw [hI _ (by decide)]; exact q3, by rw [hn]; exact q4, q5, ?_, ?_, by rw [a3]; exact q8, by rw [a3]; exact q9⟩, ?_, ?_, ?_, ?_⟩, hh⟩
  · intro k k1 k2
    obtain ⟨kd', z', x', y', b1, b2, b3, b4, b5, b6, b7, b8, b9, b10, b11⟩ := hok k k1 k2
    refine ⟨kd', z', x', y', b1, by rw [a3]; exact b2, by rw [hF.A (by decide)]; exact b3, by rw [hF.A (by decide)]; exact b4, by rw [hF.A (by decide)]; exact b5, b6, b7, b8, b9, by rw [hF.2.2.2.1]; exact b10, ?_⟩
    rw [hF.2.2.2.1, hF.2.2.2.2.1]
    intro a ha
    obtain ⟨N, c1, c2, c3, c4, c5⟩ := b11 a ha
    refine ⟨N, c1, c2, c3, c4, ?_⟩
    rw [hF.2.1 a (fun c => by have := h3 a c; omega)]
    exact c5
  · rw [a3, hF.A (a := 13) (by decide)]; exact q6
  · rw [hF.A (a := 13) (by decide)]; exact q7
  · intro kd k1 k2
    have : nKind S' kd = nKind S kd := sumN_congr (fun k _ => by
      show (if sA S' 3 k = nI kd then 1 else 0) = if sA S 3 k = nI kd then 1 else 0
      rw [a3])
    rw [this, hF.A (by decide)]
    exact hcn kd k1 k2
  · intro j j1 j2 hl t ht
    rw [htg j j1 j2] at ht
    rw [a3] at hl ⊢
    exact hcl j j1 j2 hl t ht
  · unfold h_ds
    rw [hF.2.2.2.1]
    exact hds
  · intro t t1 t2
    rw [hh t]
    exact h4 t t1 t2
/-- how many names are bound to an object; how many are bound -/
def nmE (S : cS) (t : Nat) : Nat := sumN (fun q => if ob (sL S 21 q) (sL S 22 q) = t then 1 else 0) 4096
def nmB (S : cS) : Nat := sumN (fun q => if c_kind (sL S 21 q) = 0 then 0 else 1) 4096
theorem nmE_le (S : cS) (t : Nat) : nmE S t ≤ 4096 := by
  have := sumN_le (f := fun q => if ob (sL S 21 q) (sL S 22 q) = t then 1 else 0) (c := 1) (n := 4096) (fun k _ => by
    show (if ob (sL S 21 k) (sL S 22 k) = t then 1 else 0) ≤ 1
    split <;> omega)
  show sumN _ 4096 ≤ 4096
  omega
theorem nmB_le (S : cS) : nmB S ≤ 4096 := by
  have := sumN_le (f := fun q => if c_kind (sL S 21 q) = 0 then 0 else 1) (c := 1) (n := 4096) (fun k _ => by
    show (if c_kind (sL S 21 k) = 0 then 0 else 1) ≤ 1
    split <;> omega)
  show sumN _ 4096 ≤ 4096
  omega
theorem nmE_upd {S S' : cS} {k : Nat} (hk : k < 4096) (h : ∀ q, q ≠ k → sL S' 21 q = sL S 21 q ∧ sL S' 22 q = sL S 22 q) (t : Nat) : nmE S' t + (if ob (sL S 21 k) (sL S 22 k) = t then 1 else 0) = nmE S t + (if ob (sL S' 21 k) (sL S' 22 k) = t then 1 else 0) :=
  sumN_upd (f := fun q => if ob (sL S 21 q) (sL S 22 q) = t then 1 else 0) (g := fun q => if ob (sL S' 21 q) (sL S' 22 q) = t then 1 else 0) (k := k) (fun i hi => by
    show (if ob (sL S' 21 i) (sL S' 22 i) = t then 1 else 0) = if ob (sL S 21 i) (sL S 22 i) = t then 1 else 0
    rw [(h i hi).1, (h i hi).2]) hk
theorem nmB_upd {S S' : cS} {k : Nat} (hk : k < 4096) (h : ∀ q, q ≠ k → sL S' 21 q = sL S 21 q) : nmB S' + (if c_kind (sL S 21 k) = 0 then 0 else 1) = nmB S + (if c_kind (sL S' 21 k) = 0 then 0 else 1) :=
  sumN_upd (f := fun q => if c_kind (sL S 21 q) = 0 then 0 else 1) (g := fun q => if c_kind (sL S' 21 q) = 0 then 0 else 1) (k := k) (fun i hi => by
    show (if c_kind (sL S' 21 i) = 0 then 0 else 1) = if c_kind (sL S 21 i) = 0 then 0 else 1
    rw [h i hi]) hk
