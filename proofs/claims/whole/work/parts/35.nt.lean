/-! THE TABLE OF NAMES: an invariant, and the number of a name under it -/
theorem chain_mem {S : cS} : ∀ (cs : List Nat) (b : Nat), c_chain S b cs → ∀ i, i ∈ cs → i < 4096 := by
  intro cs
  induction cs with
  | nil => intro b _ i h; exact absurd h List.not_mem_nil
  | cons k r ih =>
    intro b hc i h
    obtain ⟨_, hk, b1, _, hr⟩ := hc
    rcases List.mem_cons.mp h with h | h
    · rw [h]; exact hk
    · exact ih b1 hr i h
theorem chain_congr {S S1 : cS} : ∀ (cs : List Nat) (b : Nat), (∀ i, i ∈ cs → sA S1 20 i = sA S 20 i) → c_chain S b cs → c_chain S1 b cs := by
  intro cs
  induction cs with
  | nil => intro b _ h; exact h
  | cons k r ih =>
    intro b he hc
    obtain ⟨h1, hk, b1, hb1, hr⟩ := hc
    exact ⟨h1, hk, b1, by rw [he k List.mem_cons_self]; exact hb1, ih b1 (fun i hi => he i (List.mem_cons_of_mem _ hi)) hr⟩
/-- id i is this name -/
def c_is (S : cS) (hi lo : Int64) (i : Nat) : Prop := sL S 17 i = hi ∧ sL S 18 i = lo
theorem find_some {S : cS} {hi lo : Int64} : ∀ (cs : List Nat) (q : Nat), q ∈ cs → c_is S hi lo q → (∀ i, i ∈ cs → c_is S hi lo i → i = q) → c_find S hi lo cs = some q := by
  intro cs
  induction cs with
  | nil => intro q h; exact absurd h List.not_mem_nil
  | cons k r ih =>
    intro q hq hm hu
    unfold c_find
    by_cases hk : sL S 17 k = hi ∧ sL S 18 k = lo
    · rw [if_pos hk, hu k List.mem_cons_self hk]
    · rw [if_neg hk]
      rcases List.mem_cons.mp hq with h | h
      · rw [h] at hm
        exact absurd hm hk
      · exact ih q h hm (fun i hi => hu i (List.mem_cons_of_mem _ hi))
theorem find_none_of {S : cS} {hi lo : Int64} : ∀ (cs : List Nat), (∀ i, i ∈ cs → ¬ c_is S hi lo i) → c_find S hi lo cs = none := by
  intro cs
  induction cs with
  | nil => intro _; rfl
  | cons k r ih =>
    intro h
    unfold c_find
    rw [if_neg (show ¬ (sL S 17 k = hi ∧ sL S 18 k = lo) from h k List.mem_cons_self)]
    exact ih (fun i hi => h i (List.mem_cons_of_mem _ hi))
/-- z names are known, all different, each in the chain of its hash -/
def c_NT (S : cS) (z : Nat) : Prop := sI S 1607 = nI z ∧ z ≤ 4096 ∧ (∀ i k, i < z → k < z → sL S 17 i = sL S 17 k → sL S 18 i = sL S 18 k → i = k) ∧ ∀ h, h < 1024 → ∃ b cs, sA S 19 h = nI b ∧ c_chain S b cs ∧ cs.length ≤ z ∧ ∀ i, i ∈ cs ↔ (i < z ∧ c_hash (sL S 17 i) (sL S 18 i) = h)
theorem number_old {d z q : Nat} {S : cS} {hi lo : Int64} (hN : c_NT S z) (hz : z < 4096) (hq : q < z) (hm : c_is S hi lo q) : Ans (d + 1) 15 [.ref 16, .long hi, .long lo] S (some (.int (nI q))) S := by
  obtain ⟨h1, h2, h3, h4⟩ := hN
  obtain ⟨b, cs, hb, hc, hl, hi4⟩ := h4 (c_hash hi lo) (c_hash_eq hi lo).2
  refine numberOf_old rfl hb hc (by omega) (find_some cs q ((hi4 q).mpr ⟨hq, by rw [hm.1, hm.2]⟩) hm (fun i h5 h6 => ?_))
  exact h3 i q ((hi4 i).mp h5).1 hq (h6.1.trans hm.1.symm) (h6.2.trans hm.2.symm)
/-- the table with one more name -/
def c_learn (S : cS) (hi lo : Int64) (z b : Nat) : cS := wA 19 (c_hash hi lo) (nI (z + 1)) (wI 1607 (nI (z + 1)) (wA 20 z (nI b) (wL 18 z lo (wL 17 z hi S))))
theorem number_new {d z : Nat} {S : cS} {hi lo : Int64} (hN : c_NT S z) (hz : z < 4096) (hm : ∀ i, i < z → ¬ c_is S hi lo i) : ∃ b, Ans (d + 1) 15 [.ref 16, .long hi, .long lo] S (some (.int (nI z))) (c_learn S hi lo z b) ∧ c_NT (c_learn S hi lo z b) (z + 1) := by
  obtain ⟨h1, h2, h3, h4⟩ := hN
  have hh := (c_hash_eq hi lo).2
  obtain ⟨b, cs, hb, hc, hl, hi4⟩ := h4 (c_hash hi lo) hh
  have hA : ∀ S1 : cS, ∀ k, sA (wA 19 (c_hash hi lo) (nI (z + 1)) S1) 19 k = if k = c_hash hi lo then nI (z + 1) else sA S1 19 k := fun S1 k => rfl
  have hL17 : ∀ i, sL (c_learn S hi lo z b) 17 i = if i = z then hi else sL S 17 i := fun i => rfl
  have hL18 : ∀ i, sL (c_learn S hi lo z b) 18 i = if i = z then lo else sL S 18 i := fun i => rfl
  have h19 : ∀ k, sA (c_learn S hi lo z b) 19 k = if k = c_hash hi lo then nI (z + 1) else sA S 19 k := fun k => rfl
  have h20 : ∀ i, sA (c_learn S hi lo z b) 20 i = if i = z then nI b else sA S 20 i := fun i => rfl
  refine ⟨b, numberOf_new rfl hb hc (by omega) h1 hz (find_none_of cs (fun i hi => hm i ((hi4 i).mp hi).1)), rfl, by omega, ?_, ?_⟩
  · intro i k hi hk e1 e2
    rw [hL17, hL17] at e1
    rw [hL18, hL18] at e2
    by_cases hiz : i = z
    · by_cases hkz : k = z
      · omega
      · rw [if_pos hiz, if_neg hkz] at e1 e2
        exact absurd ⟨e1.symm, e2.symm⟩ (hm k (by omega))
    · by_cases hkz : k = z
      · rw [if_neg hiz, if_pos hkz] at e1 e2
        exact absurd ⟨e1, e2⟩ (hm i (by omega))
      · rw [if_neg hiz, if_neg hkz] at e1 e2
        exact h3 i k (by omega) (by omega) e1 e2
  · intro h hh2
    obtain ⟨b0, cs0, hb0, hc0, hl0, hi0⟩ := h4 h hh2
    have hold : ∀ i, i ∈ cs0 → i < z := fun i hi => ((hi0 i).mp hi).1
    have hc1 : c_chain (c_learn S hi lo z b) b0 cs0 := chain_congr cs0 b0 (fun i hi => by rw [h20, if_neg (by have := hold i hi; omega)]) hc0
    by_cases e : h = c_hash hi lo
    · subst e
      have eb : b0 = b0 := rfl
      refine ⟨z + 1, z :: cs, by rw [h19, if_pos rfl], ⟨rfl, hz, b, by rw [h20, if_pos rfl], chain_congr cs b (fun i hi => by rw [h20, if_neg (by have := ((hi4 i).mp hi).1; omega)]) hc⟩, by rw [List.length_cons]; omega, ?_⟩
      intro i
      rw [List.mem_cons, hL17, hL18]
      by_cases hiz : i = z
      · rw [if_pos hiz, if_pos hiz]
        exact ⟨fun _ => ⟨by omega, rfl⟩, fun _ => Or.inl hiz⟩
      · rw [if_neg hiz, if_neg hiz]
        constructor
        · intro h5
          have h6 := (hi4 i).mp (h5.resolve_left hiz)
          exact ⟨by omega, h6.2⟩
        · intro h5
          exact Or.inr ((hi4 i).mpr ⟨by omega, h5.2⟩)
    · refine ⟨b0, cs0, by rw [h19, if_neg e]; exact hb0, hc1, by omega, ?_⟩
      intro i
      rw [hL17, hL18]
      by_cases hiz : i = z
      · rw [if_pos hiz, if_pos hiz]
        constructor
        · intro h5
          have := hold i h5
          omega
        · intro h5
          exact absurd h5.2.symm e
      · rw [if_neg hiz, if_neg hiz]
        constructor
        · intro h5
          have h6 := (hi0 i).mp h5
          exact ⟨by omega, h6.2⟩
        · intro h5
          exact (hi0 i).mpr ⟨by omega, h5.2⟩
