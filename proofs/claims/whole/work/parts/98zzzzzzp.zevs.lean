/-! WHERE NAMES ARE, PURE: scans of lines; what a piece of a text tells a scope -/
/-- scn1, scn2 in one -/
def scZ {α : Type} (K I : Nat → Nat) (f : Nat → α → α) (own : Nat) : Nat → Nat → Option Nat → α → α
  | 0, _, _, a => a
  | g + 1, k, sk, a => if K k = 1 ∨ I k ≤ own then a else match skN (I k) sk with
    | some i => scZ K I f own g (nxK K 6001 k) (some i) a
    | none => scZ K I f own g (nxK K 6001 k) (lnS K I k) (f k a)
def lnG (K : Nat → Nat) (V : Nat → Int32) (p k : Nat) (lo : List Int32 × List Int32) : List Int32 × List Int32 := if K k = 53 then scnG K V p 6001 (k + 1) lo else lo
theorem scZ_1 (K I : Nat → Nat) (V : Nat → Int32) (own : Nat) : ∀ (g k : Nat) (sk : Option Nat) (l : List Int32), scn1 K I V own g k sk l = scZ K I (lnB K V) own g k sk l := by
  intro g
  induction g with
  | zero => intro k sk l; rfl
  | succ g ih =>
    intro k sk l
    unfold scn1 scZ
    split
    · rfl
    · cases skN (I k) sk with
      | none => exact ih _ _ _
      | some i => exact ih _ _ _
theorem scZ_2 (K I : Nat → Nat) (V : Nat → Int32) (own p : Nat) : ∀ (g k : Nat) (sk : Option Nat) (lo : List Int32 × List Int32), scn2 K I V own p g k sk lo = scZ K I (lnG K V p) own g k sk lo := by
  intro g
  induction g with
  | zero => intro k sk l; rfl
  | succ g ih =>
    intro k sk l
    unfold scn2 scZ
    split
    · rfl
    · cases skN (I k) sk with
      | none => exact ih _ _ _
      | some i => exact ih _ _ _
section
variable {α : Type} {β : Nat → Nat} {n k1 own : Nat} {V : Nat → Int32} {f : Nat → α → α}
theorem scZ_f (h : zTk β n k1) : ∀ (g g' k : Nat) (sk : Option Nat) (a : α), k ≤ k1 → k1 < k + g → k1 < k + g' → scZ (qK β n) (qI β n) f own g k sk a = scZ (qK β n) (qI β n) f own g' k sk a := by
  intro g
  induction g with
  | zero => intro g' k sk a h1 h2; omega
  | succ g ih =>
    intro g' k sk a hk h1 h2
    obtain ⟨g', rfl⟩ : ∃ x, g' = x + 1 := ⟨g' - 1, by omega⟩
    unfold scZ
    by_cases e : qK β n k = 1 ∨ qI β n k ≤ own
    · rw [if_pos e, if_pos e]
    · rw [if_neg e, if_neg e]
      obtain ⟨r, r1, r2, r3, r4, r5⟩ := nx_1 h hk (fun q => e (Or.inl q))
      rw [r5]
      cases skN (qI β n k) sk with
      | none => exact ih g' (r + 1) _ _ r2 (by omega) (by omega)
      | some i => exact ih g' (r + 1) _ _ r2 (by omega) (by omega)
/-- a line that is not passed over -/
theorem scZ_l (h : zTk β n k1) {q k g g' : Nat} {sk : Option Nat} {a : α} (hkq : k ≤ q) (h2 : qK β n q = 2) (hq : ∀ j, k ≤ j → j < q → 3 ≤ qK β n j) (hk1 : q < k1) (hI : own < qI β n k) (hsk : skN (qI β n k) sk = none) (hg : k1 < k + g) (hg' : k1 < q + 1 + g') : scZ (qK β n) (qI β n) f own g k sk a = scZ (qK β n) (qI β n) f own g' (q + 1) (lnS (qK β n) (qI β n) k) (f k a) := by
  obtain ⟨g, rfl⟩ : ∃ x, g = x + 1 := ⟨g - 1, by omega⟩
  have hz := h.1
  have hK1 : qK β n k ≠ 1 := h.2.2 k (by omega)
  show (if qK β n k = 1 ∨ qI β n k ≤ own then a else match skN (qI β n k) sk with
    | some i => scZ (qK β n) (qI β n) f own g (nxK (qK β n) 6001 k) (some i) a
    | none => scZ (qK β n) (qI β n) f own g (nxK (qK β n) 6001 k) (lnS (qK β n) (qI β n) k) (f k a)) = _
  rw [if_neg (by omega), hsk]
  dsimp only
  rw [nx_q h2 6001 k hkq (by omega) hq]
  exact scZ_f h _ _ _ _ _ (by omega) (by omega) hg'
/-- lines passed over -/
theorem scZ_k (h : zTk β n k1) {i k' : Nat} (hi : own ≤ i) (hk' : k' ≤ k1) : ∀ (r k g g' : Nat) (a : α), k' - k ≤ r → k ≤ k' → (k < k' → qK β n (k' - 1) = 2) → k1 < k + g → k1 < k' + g' → (∀ j, k ≤ j → j < k' → i < qI β n j ∧ qK β n j ≠ 1) → scZ (qK β n) (qI β n) f own g k (some i) a = scZ (qK β n) (qI β n) f own g' k' (some i) a := by
  intro r
  induction r with
  | zero =>
    intro k g g' a h1 h2 h3 h4 h5 h6
    obtain rfl : k = k' := by omega
    exact scZ_f h _ _ _ _ _ hk' h4 h5
  | succ r ih =>
    intro k g g' a h1 h2 h3 h4 h5 h6
    rcases Nat.eq_or_lt_of_le h2 with e | e
    · subst e
      exact scZ_f h _ _ _ _ _ hk' h4 h5
    · obtain ⟨g, rfl⟩ : ∃ x, g = x + 1 := ⟨g - 1, by omega⟩
      obtain ⟨i1, i2⟩ := h6 k (Nat.le_refl _) e
      obtain ⟨p, r1, r2, r3, r4, r5⟩ := nx_1 h (by omega) i2
      have hp : p < k' := by
        rcases Nat.lt_or_ge p k' with q | q
        · exact q
        · exact absurd (h3 e) (r4 (k' - 1) (by omega) (by omega)).1
      show (if qK β n k = 1 ∨ qI β n k ≤ own then a else match skN (qI β n k) (some i) with
        | some i => scZ (qK β n) (qI β n) f own g (nxK (qK β n) 6001 k) (some i) a
        | none => scZ (qK β n) (qI β n) f own g (nxK (qK β n) 6001 k) (lnS (qK β n) (qI β n) k) (f k a)) = _
      rw [if_neg (by omega), skN_gt i1]
      dsimp only
      rw [r5]
      exact ih (p + 1) g g' a (by omega) (by omega) (fun _ => h3 e) (by omega) h5 (fun j j1 j2 => h6 j (by omega) j2)
/-- behind them -/
theorem scZ_n (h : zTk β n k1) {i k g g' : Nat} {a : α} (hk : k ≤ k1) (hC : qK β n k = 1 ∨ qI β n k ≤ i) (hg : k1 < k + g) (hg' : k1 < k + g') : scZ (qK β n) (qI β n) f own g k (some i) a = scZ (qK β n) (qI β n) f own g' k none a := by
  rw [scZ_f h g g' k (some i) a hk hg hg']
  obtain ⟨g', rfl⟩ : ∃ x, g' = x + 1 := ⟨g' - 1, by omega⟩
  unfold scZ
  by_cases e : qK β n k = 1 ∨ qI β n k ≤ own
  · rw [if_pos e, if_pos e]
  · rw [if_neg e, if_neg e, skN_le (by omega)]
    rfl
end
/-- what the lines from k to k' tell the scope whose entries are l: then they are l' -/
def zV (β : Nat → Nat) (n k1 : Nat) (V : Nat → Int32) (own k k' : Nat) (l l' : List (Int32 × Nat)) : Prop := ∃ M : List (Bool × Nat), l' = M.foldl (evS V) l ∧ evOk V l M ∧ ∀ g g', k1 < k + g → k1 < k' + g' → (∀ B, scZ (qK β n) (qI β n) (lnB (qK β n) V) own g k none B = scZ (qK β n) (qI β n) (lnB (qK β n) V) own g' k' none (M.foldl (evB V) B)) ∧ ∀ p lo, scZ (qK β n) (qI β n) (lnG (qK β n) V p) own g k none lo = scZ (qK β n) (qI β n) (lnG (qK β n) V p) own g' k' none (M.foldl (evG V p) lo)
section
variable {β : Nat → Nat} {n k1 own k k' k2 : Nat} {V : Nat → Int32} {l l' l2 : List (Int32 × Nat)}
theorem evOk_app : ∀ (M M' : List (Bool × Nat)) (l : List (Int32 × Nat)), evOk V l M → evOk V (M.foldl (evS V) l) M' → evOk V l (M ++ M') := by
  intro M
  induction M with
  | nil => intro M' l _ h; exact h
  | cons e M ih => intro M' l h1 h2; exact ⟨h1.1, ih M' _ h1.2 h2⟩
theorem zV_refl (h : zTk β n k1) (hk : k ≤ k1) : zV β n k1 V own k k l l := ⟨[], rfl, trivial, fun g g' h1 h2 => ⟨fun B => scZ_f h _ _ _ _ _ hk h1 h2, fun p lo => scZ_f h _ _ _ _ _ hk h1 h2⟩⟩
theorem zV_trans (h1 : zV β n k1 V own k k' l l') (h2 : zV β n k1 V own k' k2 l' l2) : zV β n k1 V own k k2 l l2 := by
  obtain ⟨M, a1, a2, a3⟩ := h1
  obtain ⟨N, b1, b2, b3⟩ := h2
  subst a1
  refine ⟨M ++ N, by rw [List.foldl_append]; exact b1, evOk_app M N l a2 b2, fun g g' h1 h2 => ⟨fun B => ?_, fun p lo => ?_⟩⟩
  · rw [List.foldl_append, (a3 g (k1 + 1) h1 (by omega)).1 B]
    exact (b3 (k1 + 1) g' (by omega) h2).1 _
  · rw [List.foldl_append, (a3 g (k1 + 1) h1 (by omega)).2 p lo]
    exact (b3 (k1 + 1) g' (by omega) h2).2 _ _
/-- a line that tells nothing, that binds, that tells names global -/
theorem zV_ln (h : zTk β n k1) {q : Nat} (M : List (Bool × Nat)) (hkq : k ≤ q) (h2 : qK β n q = 2) (hq : ∀ j, k ≤ j → j < q → 3 ≤ qK β n j) (hk1 : q < k1) (hI : own < qI β n k) (hS : lnS (qK β n) (qI β n) k = none) (hl : l' = M.foldl (evS V) l) (ho : evOk V l M) (hB : ∀ B, lnB (qK β n) V k B = M.foldl (evB V) B) (hG : ∀ p lo, lnG (qK β n) V p k lo = M.foldl (evG V p) lo) : zV β n k1 V own k (q + 1) l l' := ⟨M, hl, ho, fun g g' h1 h3 => ⟨fun B => by
    rw [scZ_l h hkq h2 hq hk1 hI rfl h1 h3, hS, hB], fun p lo => by
    rw [scZ_l h hkq h2 hq hk1 hI rfl h1 h3, hS, hG]⟩⟩
/-- a def's, a class's line and its block -/
theorem zV_sk (h : zTk β n k1) {q : Nat} (M : List (Bool × Nat)) (hkq : k ≤ q) (h2 : qK β n q = 2) (hq : ∀ j, k ≤ j → j < q → 3 ≤ qK β n j) (hI : own < qI β n k) (hS : lnS (qK β n) (qI β n) k = some (qI β n k)) (hl : l' = M.foldl (evS V) l) (ho : evOk V l M) (hB : ∀ B, lnB (qK β n) V k B = M.foldl (evB V) B) (hG : ∀ p lo, lnG (qK β n) V p k lo = M.foldl (evG V p) lo) (hqk : q < k') (hk' : k' ≤ k1) (he : qK β n (k' - 1) = 2) (hb : ∀ j, q + 1 ≤ j → j < k' → qI β n k < qI β n j ∧ qK β n j ≠ 1) (hC : qK β n k' = 1 ∨ qI β n k' ≤ qI β n k) : zV β n k1 V own k k' l l' := ⟨M, hl, ho, fun g g' h1 h3 => ⟨fun B => by
    rw [scZ_l (g' := k1 + 1) h hkq h2 hq (by omega) hI rfl h1 (by omega), hS, hB, scZ_k h (Nat.le_of_lt hI) hk' (k' - (q + 1)) (q + 1) (k1 + 1) (k1 + 1) _ (Nat.le_refl _) (by omega) (fun _ => he) (by omega) (by omega) hb]
    exact scZ_n h hk' hC (by omega) h3, fun p lo => by
    rw [scZ_l (g' := k1 + 1) h hkq h2 hq (by omega) hI rfl h1 (by omega), hS, hG, scZ_k h (Nat.le_of_lt hI) hk' (k' - (q + 1)) (q + 1) (k1 + 1) (k1 + 1) _ (Nat.le_refl _) (by omega) (fun _ => he) (by omega) (by omega) hb]
    exact scZ_n h hk' hC (by omega) h3⟩⟩
end
