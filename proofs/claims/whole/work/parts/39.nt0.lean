/-! THE TABLE OF NAMES at the start -/
def s0_hs : List Nat := [902, 83, 873, 601, 0, 904, 266, 2, 280, 123, 471, 461, 580, 1000, 660, 422, 1, 900, 253, 946, 137, 672, 580, 348, 999, 18, 923, 965, 938, 438, 422, 723, 299, 951, 845]
theorem s0_hash : ∀ i, i < 35 → c_hash (s0_17 i) (s0_18 i) = s0_hs.getD i 0 := by decide +kernel
theorem s0_dif : ∀ i, i < 35 → ∀ k, k < 35 → s0_17 i = s0_17 k → s0_18 i = s0_18 k → i = k := by decide +kernel
def s0_cs : Nat → Nat → List Nat
  | 0, _ => []
  | f + 1, b => if b = 0 then [] else (b - 1) :: s0_cs f (s0_20 (b - 1)).toNatClampNeg
def s0_ok : Nat → List Nat → Bool
  | b, [] => b == 0
  | b, id :: r => (b == id + 1 && Nat.blt id 4096) && (s0_20 id == nI (s0_20 id).toNatClampNeg && s0_ok (s0_20 id).toNatClampNeg r)
theorem s0_chain : ∀ (cs : List Nat) (b : Nat), s0_ok b cs = true → c_chain sb_S0 b cs := by
  intro cs
  induction cs with
  | nil =>
    intro b h
    exact eq_of_beq h
  | cons k r ih =>
    intro b h
    unfold s0_ok at h
    simp only [Bool.and_eq_true, beq_iff_eq] at h
    obtain ⟨⟨h1, h2⟩, h3, h4⟩ := h
    exact ⟨h1, Nat.le_of_ble_eq_true h2, (s0_20 k).toNatClampNeg, h3, ih _ h4⟩
def s0_b (h : Nat) : Nat := (s0_19 h).toNatClampNeg
theorem s0_all : ∀ h, h < 1024 → (s0_19 h = nI (s0_b h) ∧ s0_ok (s0_b h) (s0_cs 36 (s0_b h)) = true ∧ (s0_cs 36 (s0_b h)).length ≤ 35 ∧ (∀ i, i ∈ s0_cs 36 (s0_b h) → i < 35 ∧ s0_hs.getD i 0 = h)) := by decide +kernel
theorem s0_in : ∀ i, i < 35 → i ∈ s0_cs 36 (s0_b (s0_hs.getD i 0)) := by decide +kernel
theorem s0_NT : c_NT sb_S0 35 := by
  refine ⟨rfl, by decide, fun i k hi hk e1 e2 => s0_dif i hi k hk e1 e2, fun h hh => ?_⟩
  obtain ⟨h1, h2, h3, h4⟩ := s0_all h hh
  refine ⟨s0_b h, s0_cs 36 (s0_b h), h1, s0_chain _ _ h2, h3, fun i => ⟨fun hi => ?_, fun hi => ?_⟩⟩
  · obtain ⟨h5, h6⟩ := h4 i hi
    exact ⟨h5, (s0_hash i h5).trans h6⟩
  · have h5 : s0_hs.getD i 0 = h := (s0_hash i hi.1).symm.trans hi.2
    rw [← h5]
    exact s0_in i hi.1
