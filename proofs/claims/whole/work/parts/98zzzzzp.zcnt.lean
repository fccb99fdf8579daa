/-! STATEMENTS OF THE REFERENCE: how many names a function has (pure) -/
section
variable {β : Nat → Nat} {n k1 : Nat} {V : Nat → Int32}
def zTk (β : Nat → Nat) (n k1 : Nat) : Prop := k1 < 6001 ∧ qK β n k1 = 1 ∧ ∀ j, j < k1 → qK β n j ≠ 1
theorem nx_1 (h : zTk β n k1) {k : Nat} (hk : k ≤ k1) (hK : qK β n k ≠ 1) : ∃ r, k ≤ r ∧ r < k1 ∧ qK β n r = 2 ∧ (∀ j, k ≤ j → j < r → qK β n j ≠ 2 ∧ qK β n j ≠ 1) ∧ nxK (qK β n) 6001 k = r + 1 := by
  obtain ⟨r, r1, r2, r3, r4, r5, r6⟩ := nx_ok h.2.1 h.2.2 k1 k (by omega) hk hK
  exact ⟨r, r1, r2, r3, r4, r6 6001 (by have := h.1; omega)⟩
theorem enR_1 (h : zTk β n k1) (ow : Nat) : ∀ (g k : Nat), k ≤ k1 → k ≤ enR (qK β n) (qI β n) ow g k ∧ enR (qK β n) (qI β n) ow g k ≤ k1 := by
  intro g
  induction g with
  | zero => intro k hk; exact ⟨Nat.le_refl _, hk⟩
  | succ g ih =>
    intro k hk
    unfold enR
    by_cases e : qK β n k = 1 ∨ qI β n k ≤ ow
    · rw [if_pos e]; exact ⟨Nat.le_refl _, hk⟩
    · rw [if_neg e]
      obtain ⟨r, r1, r2, r3, r4, r5⟩ := nx_1 h hk (fun q => e (Or.inl q))
      rw [r5]
      obtain ⟨a1, a2⟩ := ih (r + 1) r2
      exact ⟨by omega, a2⟩
theorem enR_f (h : zTk β n k1) (ow : Nat) : ∀ (g g2 k : Nat), k ≤ k1 → k1 < k + g → k1 < k + g2 → enR (qK β n) (qI β n) ow g k = enR (qK β n) (qI β n) ow g2 k := by
  intro g
  induction g with
  | zero => intro g2 k h1 h2; omega
  | succ g ih =>
    intro g2 k hk h1 h2
    obtain ⟨g2', rfl⟩ : ∃ x, g2 = x + 1 := ⟨g2 - 1, by omega⟩
    unfold enR
    by_cases e : qK β n k = 1 ∨ qI β n k ≤ ow
    · rw [if_pos e, if_pos e]
    · rw [if_neg e, if_neg e]
      obtain ⟨r, r1, r2, r3, r4, r5⟩ := nx_1 h hk (fun q => e (Or.inl q))
      rw [r5]
      exact ih g2' (r + 1) r2 (by omega) (by omega)
theorem skN_le {i j : Nat} (h : i ≤ j) : skN i (some j) = none := if_pos h
theorem skN_gt {i j : Nat} (h : j < i) : skN i (some j) = some j := if_neg (by omega)
/-- a line more: what holds of the lines behind it -/
theorem scn1_s (h : zTk β n k1) {ow g k : Nat} {sk : Option Nat} {l : List Int32} (hk : k ≤ k1) (hK : qK β n k ≠ 1) (hI : ow < qI β n k) : ∃ r sk' l', k ≤ r ∧ r < k1 ∧ qK β n r = 2 ∧ (∀ j, k ≤ j → j < r → qK β n j ≠ 2) ∧ scn1 (qK β n) (qI β n) V ow (g + 1) k sk l = scn1 (qK β n) (qI β n) V ow g (r + 1) sk' l' ∧ enR (qK β n) (qI β n) ow (g + 1) k = enR (qK β n) (qI β n) ow g (r + 1) ∧ l'.length ≤ l.length + 1 ∧ ((∃ i, skN (qI β n k) sk = some i ∧ sk' = some i ∧ l' = l) ∨ skN (qI β n k) sk = none ∧ sk' = lnS (qK β n) (qI β n) k) := by
  have e : ¬(qK β n k = 1 ∨ qI β n k ≤ ow) := fun q => q.elim hK (fun q => by omega)
  obtain ⟨r, r1, r2, r3, r4, r5⟩ := nx_1 h hk hK
  have eE : enR (qK β n) (qI β n) ow (g + 1) k = enR (qK β n) (qI β n) ow g (r + 1) := by
    show (if qK β n k = 1 ∨ qI β n k ≤ ow then k else enR (qK β n) (qI β n) ow g (nxK (qK β n) 6001 k)) = _
    rw [if_neg e, r5]
  cases hs : skN (qI β n k) sk with
  | some i =>
    refine ⟨r, some i, l, r1, r2, r3, fun j a b => (r4 j a b).1, ?_, eE, Nat.le_succ _, Or.inl ⟨i, rfl, rfl, rfl⟩⟩
    show (if qK β n k = 1 ∨ qI β n k ≤ ow then l else match skN (qI β n k) sk with
      | some i => scn1 (qK β n) (qI β n) V ow g (nxK (qK β n) 6001 k) (some i) l
      | none => _) = _
    rw [if_neg e, hs, r5]
  | none =>
    refine ⟨r, lnS (qK β n) (qI β n) k, lnB (qK β n) V k l, r1, r2, r3, fun j a b => (r4 j a b).1, ?_, eE, (lnB_le _ _ _ _).2, Or.inr ⟨rfl, rfl⟩⟩
    show (if qK β n k = 1 ∨ qI β n k ≤ ow then l else match skN (qI β n k) sk with
      | some i => scn1 (qK β n) (qI β n) V ow g (nxK (qK β n) 6001 k) (some i) l
      | none => _) = _
    rw [if_neg e, hs, r5]
theorem scn1_A (h : zTk β n k1) (ow : Nat) : ∀ (g k : Nat) (sk : Option Nat) (l : List Int32), k ≤ k1 → (scn1 (qK β n) (qI β n) V ow g k sk l).length + k ≤ l.length + enR (qK β n) (qI β n) ow g k := by
  intro g
  induction g with
  | zero => intro k sk l hk; exact Nat.le_refl _
  | succ g ih =>
    intro k sk l hk
    by_cases e : qK β n k = 1 ∨ qI β n k ≤ ow
    · have e1 : scn1 (qK β n) (qI β n) V ow (g + 1) k sk l = l := if_pos e
      have e2 : enR (qK β n) (qI β n) ow (g + 1) k = k := if_pos e
      rw [e1, e2]
      exact Nat.le_refl _
    · obtain ⟨r, sk', l', r1, r2, r3, r4, r5, r6, r7, r8⟩ := scn1_s (V := V) (g := g) (sk := sk) (l := l) h hk (fun q => e (Or.inl q)) (show ow < qI β n k by omega)
      rw [r5, r6]
      have := ih (r + 1) sk' l' r2
      omega
theorem scn1_C (h : zTk β n k1) {ow ow2 i : Nat} (hi : i ≤ ow2) (ho : ow ≤ ow2) : ∀ (g k : Nat) (l : List Int32), k ≤ k1 → (scn1 (qK β n) (qI β n) V ow g k (some i) l).length + enR (qK β n) (qI β n) ow2 g k ≤ l.length + enR (qK β n) (qI β n) ow g k := by
  intro g
  induction g with
  | zero => intro k l hk; exact Nat.le_refl _
  | succ g ih =>
    intro k l hk
    by_cases e : qK β n k = 1 ∨ qI β n k ≤ ow2
    · have e2 : enR (qK β n) (qI β n) ow2 (g + 1) k = k := if_pos e
      rw [e2]
      exact scn1_A h ow (g + 1) k (some i) l hk
    · have hK : qK β n k ≠ 1 := fun q => e (Or.inl q)
      obtain ⟨r, sk', l', r1, r2, r3, r4, r5, r6, r7, r8⟩ := scn1_s (V := V) (g := g) (sk := some i) (l := l) h hk hK (show ow < qI β n k by omega)
      have e2 : enR (qK β n) (qI β n) ow2 (g + 1) k = enR (qK β n) (qI β n) ow2 g (r + 1) := by
        obtain ⟨r', -, -, -, -, -, -, -, -, q6, -⟩ := scn1_s (V := V) (ow := ow2) (g := g) (sk := some i) (l := l) h hk hK (show ow2 < qI β n k by omega)
        show (if qK β n k = 1 ∨ qI β n k ≤ ow2 then k else enR (qK β n) (qI β n) ow2 g (nxK (qK β n) 6001 k)) = _
        obtain ⟨r'', z1, z2, z3, z4, z5⟩ := nx_1 h hk hK
        have : r'' = r := by
          rcases Nat.lt_trichotomy r r'' with a | a | a
          · exact absurd r3 (z4 r r1 a).1
          · exact a.symm
          · exact absurd z3 (r4 r'' z1 a)
        rw [if_neg e, z5, this]
      rw [r5, r6, e2]
      have hs : skN (qI β n k) (some i) = some i := skN_gt (by omega)
      rcases r8 with ⟨i', q1, q2, q3⟩ | ⟨q1, -⟩
      · rw [hs] at q1
        injection q1 with q1
        rw [q2, q3, ← q1]
        exact ih (r + 1) l r2
      · rw [hs] at q1
        cases q1
/-- a function within -/
theorem scn1_B (h : zTk β n k1) {ow kk : Nat} (hK : qK β n kk = 46) (hls : qK β n (kk - 1) = 2 ∨ kk = 0) (hk1 : kk ≤ k1) : ∀ (g k : Nat) (sk : Option Nat) (l : List Int32), k ≤ kk → (∀ j, k ≤ j → j ≤ kk → ow < qI β n j ∧ qK β n j ≠ 1) → k1 < k + g → (scn1 (qK β n) (qI β n) V ow g k sk l).length + k + (enR (qK β n) (qI β n) (qI β n kk) 6001 (nxK (qK β n) 6001 kk) - kk) ≤ l.length + 1 + enR (qK β n) (qI β n) ow g k := by
  intro g
  induction g with
  | zero => intro k sk l h1 h2 h3; omega
  | succ g ih =>
    intro k sk l h1 h2 h3
    obtain ⟨i1, i2⟩ := h2 k (Nat.le_refl _) h1
    obtain ⟨r, sk', l', r1, r2, r3, r4, r5, r6, r7, r8⟩ := scn1_s (V := V) (g := g) (sk := sk) (l := l) h (show k ≤ k1 by omega) i2 i1
    rw [r5, r6]
    rcases Nat.lt_or_ge k kk with e | e
    · have hr : r + 1 ≤ kk := by
        rcases hls with q | q
        · rcases Nat.lt_or_ge (kk - 1) r with a | a
          · exact absurd q (r4 (kk - 1) (by omega) a)
          · omega
        · omega
      have := ih (r + 1) sk' l' hr (fun j a b => h2 j (by omega) b) (by omega)
      omega
    · obtain rfl : k = kk := by omega
      obtain ⟨r', z1, z2, z3, z4, z5⟩ := nx_1 h hk1 i2
      have hrr : r' = r := by
        rcases Nat.lt_trichotomy r r' with a | a | a
        · exact absurd r3 (z4 r r1 a).1
        · exact a.symm
        · exact absurd z3 (r4 r' z1 a)
      rw [z5, hrr]
      have hf := enR_f h (qI β n k) 6001 g (r + 1) r2 (by have := h.1; omega) (by omega)
      rw [hf]
      obtain ⟨b1, b2⟩ := enR_1 h (qI β n k) g (r + 1) r2
      rcases r8 with ⟨i', q1, q2, q3⟩ | ⟨q1, q2⟩
      · have hi' : i' ≤ qI β n k := by
          unfold skN at q1
          split at q1
          · split at q1
            · cases q1
            · injection q1 with q1
              omega
          · cases q1
        rw [q2, q3]
        have := scn1_C (V := V) h hi' (Nat.le_of_lt i1) g (r + 1) l r2
        omega
      · have hq : lnS (qK β n) (qI β n) k = some (qI β n k) := if_pos (Or.inl hK)
        rw [q2, hq]
        have := scn1_C (V := V) h (Nat.le_refl (qI β n k)) (Nat.le_of_lt i1) g (r + 1) l' r2
        omega
/-- what is told global -/
theorem scnG_n (K : Nat → Nat) (V : Nat → Int32) (p r : Nat) (h2 : K r = 2) : ∀ (f j : Nat) (lo : List Int32 × List Int32), j ≤ r → (scnG K V p f j lo).2.length + j ≤ lo.2.length + r := by
  intro f
  induction f with
  | zero => intro j lo hj; show lo.2.length + j ≤ _; omega
  | succ f ih =>
    intro j lo hj
    by_cases e : K j = 2
    · have e1 : scnG K V p (f + 1) j lo = lo := if_pos e
      rw [e1]
      omega
    · have e1 : scnG K V p (f + 1) j lo = scnG K V p f (j + 1) (if K j = 3 then (erH p lo.1 (V j), lo.2 ++ [V j]) else lo) := if_neg e
      have hjr : j < r := by
        rcases Nat.lt_or_ge j r with a | a
        · exact a
        · obtain rfl : j = r := by omega
          exact absurd h2 e
      rw [e1]
      have := ih (j + 1) (if K j = 3 then (erH p lo.1 (V j), lo.2 ++ [V j]) else lo) hjr
      have hl : (if K j = 3 then (erH p lo.1 (V j), lo.2 ++ [V j]) else lo).2.length ≤ lo.2.length + 1 := by
        split
        · show (lo.2 ++ [V j]).length ≤ _
          rw [List.length_append]
          exact Nat.le_refl _
        · exact Nat.le_succ _
      omega
theorem scn2_s (h : zTk β n k1) {ow p g k : Nat} {sk : Option Nat} {lo : List Int32 × List Int32} (hk : k ≤ k1) (hK : qK β n k ≠ 1) (hK2 : qK β n k ≠ 2) (hI : ow < qI β n k) : ∃ r sk' lo', k < r ∧ r < k1 ∧ qK β n r = 2 ∧ (∀ j, k ≤ j → j < r → qK β n j ≠ 2) ∧ scn2 (qK β n) (qI β n) V ow p (g + 1) k sk lo = scn2 (qK β n) (qI β n) V ow p g (r + 1) sk' lo' ∧ enR (qK β n) (qI β n) ow (g + 1) k = enR (qK β n) (qI β n) ow g (r + 1) ∧ lo'.2.length + k + 1 ≤ lo.2.length + r ∧ (qK β n k ≠ 53 → lo' = lo) ∧ ((∃ i, skN (qI β n k) sk = some i ∧ sk' = some i ∧ lo' = lo) ∨ skN (qI β n k) sk = none ∧ sk' = lnS (qK β n) (qI β n) k) := by
  have e : ¬(qK β n k = 1 ∨ qI β n k ≤ ow) := fun q => q.elim hK (fun q => by omega)
  obtain ⟨r, r1, r2, r3, r4, r5⟩ := nx_1 h hk hK
  have r1' : k < r := by
    rcases Nat.lt_or_ge k r with a | a
    · exact a
    · obtain rfl : k = r := by omega
      exact absurd r3 hK2
  have eE : enR (qK β n) (qI β n) ow (g + 1) k = enR (qK β n) (qI β n) ow g (r + 1) := by
    show (if qK β n k = 1 ∨ qI β n k ≤ ow then k else enR (qK β n) (qI β n) ow g (nxK (qK β n) 6001 k)) = _
    rw [if_neg e, r5]
  cases hs : skN (qI β n k) sk with
  | some i =>
    refine ⟨r, some i, lo, r1', r2, r3, fun j a b => (r4 j a b).1, ?_, eE, by omega, fun _ => rfl, Or.inl ⟨i, rfl, rfl, rfl⟩⟩
    show (if qK β n k = 1 ∨ qI β n k ≤ ow then lo else match skN (qI β n k) sk with
      | some i => scn2 (qK β n) (qI β n) V ow p g (nxK (qK β n) 6001 k) (some i) lo
      | none => _) = _
    rw [if_neg e, hs, r5]
  | none =>
    refine ⟨r, lnS (qK β n) (qI β n) k, (if qK β n k = 53 then scnG (qK β n) V p 6001 (k + 1) lo else lo), r1', r2, r3, fun j a b => (r4 j a b).1, ?_, eE, ?_, fun q => if_neg q, Or.inr ⟨rfl, rfl⟩⟩
    · show (if qK β n k = 1 ∨ qI β n k ≤ ow then lo else match skN (qI β n k) sk with
        | some i => scn2 (qK β n) (qI β n) V ow p g (nxK (qK β n) 6001 k) (some i) lo
        | none => _) = _
      rw [if_neg e, hs, r5]
    · split
      · have := scnG_n (qK β n) V p r r3 6001 (k + 1) lo r1'
        omega
      · omega
theorem ls_2 {k r : Nat} (h3 : qK β n r = 2) : qK β n (r + 1) ≠ 2 := q_22 h3
theorem scn2_A (h : zTk β n k1) (ow p : Nat) : ∀ (g k : Nat) (sk : Option Nat) (lo : List Int32 × List Int32), k ≤ k1 → qK β n k ≠ 2 → (scn2 (qK β n) (qI β n) V ow p g k sk lo).2.length + k ≤ lo.2.length + enR (qK β n) (qI β n) ow g k := by
  intro g
  induction g with
  | zero => intro k sk lo hk h2; exact Nat.le_refl _
  | succ g ih =>
    intro k sk lo hk h2
    by_cases e : qK β n k = 1 ∨ qI β n k ≤ ow
    · have e1 : scn2 (qK β n) (qI β n) V ow p (g + 1) k sk lo = lo := if_pos e
      have e2 : enR (qK β n) (qI β n) ow (g + 1) k = k := if_pos e
      rw [e1, e2]
      exact Nat.le_refl _
    · obtain ⟨r, sk', lo', r1, r2, r3, r4, r5, r6, r7, r8, r9⟩ := scn2_s (V := V) (p := p) (g := g) (sk := sk) (lo := lo) h hk (fun q => e (Or.inl q)) h2 (show ow < qI β n k by omega)
      rw [r5, r6]
      have := ih (r + 1) sk' lo' r2 (q_22 r3)
      omega
theorem scn2_C (h : zTk β n k1) {ow ow2 i p : Nat} (hi : i ≤ ow2) (ho : ow ≤ ow2) : ∀ (g k : Nat) (lo : List Int32 × List Int32), k ≤ k1 → qK β n k ≠ 2 → (scn2 (qK β n) (qI β n) V ow p g k (some i) lo).2.length + enR (qK β n) (qI β n) ow2 g k ≤ lo.2.length + enR (qK β n) (qI β n) ow g k := by
  intro g
  induction g with
  | zero => intro k lo hk h2; exact Nat.le_refl _
  | succ g ih =>
    intro k lo hk h2
    by_cases e : qK β n k = 1 ∨ qI β n k ≤ ow2
    · have e2 : enR (qK β n) (qI β n) ow2 (g + 1) k = k := if_pos e
      rw [e2]
      exact scn2_A h ow p (g + 1) k (some i) lo hk h2
    · have hK : qK β n k ≠ 1 := fun q => e (Or.inl q)
      obtain ⟨r, sk', lo', r1, r2, r3, r4, r5, r6, r7, r8, r9⟩ := scn2_s (V := V) (p := p) (g := g) (sk := some i) (lo := lo) h hk hK h2 (show ow < qI β n k by omega)
      have e2 : enR (qK β n) (qI β n) ow2 (g + 1) k = enR (qK β n) (qI β n) ow2 g (r + 1) := by
        show (if qK β n k = 1 ∨ qI β n k ≤ ow2 then k else enR (qK β n) (qI β n) ow2 g (nxK (qK β n) 6001 k)) = _
        obtain ⟨r'', z1, z2, z3, z4, z5⟩ := nx_1 h hk hK
        have : r'' = r := by
          rcases Nat.lt_trichotomy r r'' with a | a | a
          · exact absurd r3 (z4 r (by omega) a).1
          · exact a.symm
          · exact absurd z3 (r4 r'' z1 a)
        rw [if_neg e, z5, this]
      rw [r5, r6, e2]
      have hs : skN (qI β n k) (some i) = some i := skN_gt (by omega)
      rcases r9 with ⟨i', q1, q2, q3⟩ | ⟨q1, -⟩
      · rw [hs] at q1
        injection q1 with q1
        rw [q2, q3, ← q1]
        exact ih (r + 1) lo r2 (q_22 r3)
      · rw [hs] at q1
        cases q1
theorem scn2_B (h : zTk β n k1) {ow p kk : Nat} (hK : qK β n kk = 46) (hls : qK β n (kk - 1) = 2 ∨ kk = 0) (hk1 : kk ≤ k1) : ∀ (g k : Nat) (sk : Option Nat) (lo : List Int32 × List Int32), k ≤ kk → qK β n k ≠ 2 → (∀ j, k ≤ j → j ≤ kk → ow < qI β n j ∧ qK β n j ≠ 1) → k1 < k + g → (scn2 (qK β n) (qI β n) V ow p g k sk lo).2.length + k + (enR (qK β n) (qI β n) (qI β n kk) 6001 (nxK (qK β n) 6001 kk) - kk) ≤ lo.2.length + enR (qK β n) (qI β n) ow g k := by
  intro g
  induction g with
  | zero => intro k sk lo h1 h2 h3 h4; omega
  | succ g ih =>
    intro k sk lo h1 hk2 h2 h3
    obtain ⟨i1, i2⟩ := h2 k (Nat.le_refl _) h1
    obtain ⟨r, sk', lo', r1, r2, r3, r4, r5, r6, r7, r8, r9⟩ := scn2_s (V := V) (p := p) (g := g) (sk := sk) (lo := lo) h (show k ≤ k1 by omega) i2 hk2 i1
    rw [r5, r6]
    rcases Nat.lt_or_ge k kk with e | e
    · have hr : r + 1 ≤ kk := by
        rcases hls with q | q
        · rcases Nat.lt_or_ge (kk - 1) r with a | a
          · exact absurd q (r4 (kk - 1) (by omega) a)
          · omega
        · omega
      have := ih (r + 1) sk' lo' hr (q_22 r3) (fun j a b => h2 j (by omega) b) (by omega)
      omega
    · obtain rfl : k = kk := by omega
      obtain ⟨r', z1, z2, z3, z4, z5⟩ := nx_1 h hk1 i2
      have hrr : r' = r := by
        rcases Nat.lt_trichotomy r r' with a | a | a
        · exact absurd r3 (z4 r (by omega) a).1
        · exact a.symm
        · exact absurd z3 (r4 r' z1 a)
      rw [z5, hrr]
      have hf := enR_f h (qI β n k) 6001 g (r + 1) r2 (by have := h.1; omega) (by omega)
      rw [hf]
      obtain ⟨b1, b2⟩ := enR_1 h (qI β n k) g (r + 1) r2
      have hlo := r8 (by omega)
      rcases r9 with ⟨i', q1, q2, q3⟩ | ⟨q1, q2⟩
      · have hi' : i' ≤ qI β n k := by
          unfold skN at q1
          split at q1
          · split at q1
            · cases q1
            · injection q1 with q1
              omega
          · cases q1
        rw [q2, q3]
        have := scn2_C (V := V) (p := p) h hi' (Nat.le_of_lt i1) g (r + 1) lo r2 (q_22 r3)
        omega
      · have hq : lnS (qK β n) (qI β n) k = some (qI β n k) := if_pos (Or.inl hK)
        rw [q2, hq, hlo]
        have := scn2_C (V := V) (p := p) h (Nat.le_refl (qI β n k)) (Nat.le_of_lt i1) g (r + 1) lo r2 (q_22 r3)
        omega
end
