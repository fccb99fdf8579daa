/-! A BARRIER: an expression never takes the sign = ; so its room can be told by the place of that sign -/
section
variable {K : Nat → Nat} {R : Nat → Nat → Nat → Nat → Nat → PR} {j : Nat}
def no19 (R : Nat → Nat → Nat → Nat → Nat → PR) (j : Nat) : Prop := ∀ t d k a b r, (t = 13 → b ≠ 19) → R t d k a b = some r → k ≤ j → r.1 ≤ j
theorem n19_h (h : no19 R j) {t d k a b : Nat} {r : Nat × Nat × List Op} (hr : R t d k a b = some r) (hk : k ≤ j) (hb : t = 13 → b ≠ 19) : r.1 ≤ j := h _ _ _ _ _ _ hb hr hk
theorem n19_ne (hj : K j = 19) {x : Nat} (h : K x ≠ 19) (hx : x ≤ j) : x + 1 ≤ j := by
  have : x ≠ j := fun e => h (e ▸ hj)
  omega
theorem pxL_19 (h : no19 R j) {t u d k : Nat} (ht : t ≠ 13) (hu : u ≠ 13) {r : Nat × Nat × List Op} (hr : pxL R t u d k = some r) (hk : k ≤ j) : r.1 ≤ j := by
  unfold pxL at hr
  obtain ⟨r1, h1, hr⟩ := Option.bind_eq_some_iff.mp hr
  obtain ⟨r2, h2, hr⟩ := Option.bind_eq_some_iff.mp hr
  injection hr with hr
  subst hr
  have e9 := n19_h h h2 (n19_h h h1 hk (by omega)) (by omega)
  exact e9
theorem pxJ_19 (hj : K j = 19) (h : no19 R j) {w op t u d k a : Nat} (hw : w ≠ 19) (ht : t ≠ 13) (hu : u ≠ 13) {r : Nat × Nat × List Op} (hr : pxJ K R w op t u d k a = some r) (hk : k ≤ j) : r.1 ≤ j := by
  unfold pxJ at hr
  split at hr
  · rename_i hkw
    obtain ⟨r1, h1, hr⟩ := Option.bind_eq_some_iff.mp hr
    obtain ⟨r2, h2, hr⟩ := Option.bind_eq_some_iff.mp hr
    injection hr with hr
    subst hr
    have e9 := n19_h h h2 (n19_h h h1 (n19_ne hj (by omega) hk) (by omega)) (by omega)
    exact e9
  · injection hr with hr
    subst hr
    exact hk
theorem pxO_19 (hj : K j = 19) (h : no19 R j) {op : Nat → Nat} {t u d k a : Nat} (hw : op 19 = 0) (ht : t ≠ 13) (hu : u ≠ 13) {r : Nat × Nat × List Op} (hr : pxO K R op t u d k a = some r) (hk : k ≤ j) : r.1 ≤ j := by
  unfold pxO at hr
  split at hr
  · rename_i hkw
    obtain ⟨r1, h1, hr⟩ := Option.bind_eq_some_iff.mp hr
    obtain ⟨r2, h2, hr⟩ := Option.bind_eq_some_iff.mp hr
    injection hr with hr
    subst hr
    have e9 := n19_h h h2 (n19_h h h1 (n19_ne hj (fun e => hkw (by rw [e]; exact hw)) hk) (by omega)) (by omega)
    exact e9
  · injection hr with hr
    subst hr
    exact hk
theorem pxU_19 (hj : K j = 19) (h : no19 R j) {w op t u d k : Nat} (hw : w ≠ 19) (ht : t ≠ 13) (hu : u ≠ 13) {r : Nat × Nat × List Op} (hr : pxU K R w op t u d k = some r) (hk : k ≤ j) : r.1 ≤ j := by
  unfold pxU at hr
  split at hr
  · rename_i hkw
    split at hr
    · cases hr
    obtain ⟨r1, h1, hr⟩ := Option.bind_eq_some_iff.mp hr
    injection hr with hr
    subst hr
    have e9 := n19_h h h1 (n19_ne hj (by omega) hk) (by omega)
    exact e9
  · have e9 := n19_h h hr hk (by omega)
    exact e9
theorem px5_19 (hj : K j = 19) (h : no19 R j) {d k : Nat} {r : Nat × Nat × List Op} (hr : px5 K R d k = some r) (hk : k ≤ j) : r.1 ≤ j := by
  unfold px5 at hr
  obtain ⟨r1, h1, hr⟩ := Option.bind_eq_some_iff.mp hr
  have k1 := n19_h h h1 hk (by omega)
  split at hr
  · injection hr with hr
    subst hr
    exact k1
  · rename_i hkw
    obtain ⟨r2, h2, hr⟩ := Option.bind_eq_some_iff.mp hr
    injection hr with hr
    subst hr
    have e9 := n19_h h h2 (n19_ne hj (fun e => hkw (by rw [e]; decide)) k1) (by omega)
    exact e9
theorem px12_19 (hj : K j = 19) (h : no19 R j) {d k a : Nat} {r : Nat × Nat × List Op} (hr : px12 K R d k a = some r) (hk : k ≤ j) : r.1 ≤ j := by
  unfold px12 at hr
  split at hr
  · rename_i hkw
    split at hr
    · cases hr
    obtain ⟨r1, h1, hr⟩ := Option.bind_eq_some_iff.mp hr
    obtain ⟨r2, h2, hr⟩ := Option.bind_eq_some_iff.mp hr
    injection hr with hr
    subst hr
    have e9 := n19_h h h2 (n19_h h h1 (n19_ne hj (by omega) hk) (by omega)) (by omega)
    exact e9
  split at hr
  · rename_i hkw
    split at hr
    · cases hr
    obtain ⟨r1, h1, hr⟩ := Option.bind_eq_some_iff.mp hr
    have k1 := n19_h h h1 (n19_ne hj (by omega) hk) (by omega)
    split at hr
    · rename_i hk9
      obtain ⟨r2, h2, hr⟩ := Option.bind_eq_some_iff.mp hr
      injection hr with hr
      subst hr
      have e9 := n19_h h h2 (n19_ne hj (by omega) k1) (by omega)
      exact e9
    · cases hr
  split at hr
  · rename_i hkw
    split at hr
    · rename_i hk3
      obtain ⟨r2, h2, hr⟩ := Option.bind_eq_some_iff.mp hr
      injection hr with hr
      subst hr
      have e9 := n19_h h h2 (n19_ne hj (x := k + 1) (by omega) (n19_ne hj (by omega) hk)) (by omega)
      exact e9
    · cases hr
  · injection hr with hr
    subst hr
    exact hk
theorem px13_19 (hj : K j = 19) (h : no19 R j) {d k a b : Nat} (hb : b ≠ 19) {r : Nat × Nat × List Op} (hr : px13 K R d k a b = some r) (hk : k ≤ j) : r.1 ≤ j := by
  unfold px13 at hr
  split at hr
  · rename_i hkw
    injection hr with hr
    subst hr
    exact n19_ne hj (by omega) hk
  split at hr
  · cases hr
  obtain ⟨r1, h1, hr⟩ := Option.bind_eq_some_iff.mp hr
  have k1 := n19_h h h1 hk (by omega)
  split at hr
  · rename_i hkb
    injection hr with hr
    subst hr
    exact n19_ne hj (by omega) k1
  split at hr
  · rename_i hkb
    obtain ⟨r2, h2, hr⟩ := Option.bind_eq_some_iff.mp hr
    injection hr with hr
    subst hr
    have e9 := n19_h h h2 (n19_ne hj (by omega) k1) (by omega)
    exact e9
  · cases hr
theorem px14_19 (hj : K j = 19) (h : no19 R j) {d k a : Nat} {r : Nat × Nat × List Op} (hr : px14 K R d k a = some r) (hk : k ≤ j) : r.1 ≤ j := by
  unfold px14 at hr
  split at hr
  · rename_i hkw
    injection hr with hr
    subst hr
    exact n19_ne hj (by omega) hk
  split at hr
  · cases hr
  obtain ⟨r1, h1, hr⟩ := Option.bind_eq_some_iff.mp hr
  have k1 := n19_h h h1 hk (by omega)
  split at hr
  · rename_i hkb
    obtain ⟨r2, h2, hr⟩ := Option.bind_eq_some_iff.mp hr
    have k2 := n19_h h h2 (n19_ne hj (by omega) k1) (by omega)
    split at hr
    · rename_i hkc
      injection hr with hr
      subst hr
      exact n19_ne hj (by omega) k2
    split at hr
    · rename_i hkc
      obtain ⟨r3, h3, hr⟩ := Option.bind_eq_some_iff.mp hr
      injection hr with hr
      subst hr
      have e9 := n19_h h h3 (n19_ne hj (by omega) k2) (by omega)
      exact e9
    · cases hr
  · cases hr
theorem px15_19 (hj : K j = 19) (h : no19 R j) {d k : Nat} {r : Nat × Nat × List Op} (hr : px15 K R d k = some r) (hk : k ≤ j) : r.1 ≤ j := by
  unfold px15 at hr
  split at hr
  · rename_i hkw
    injection hr with hr
    subst hr
    exact n19_ne hj (by omega) hk
  split at hr
  · rename_i hkw
    injection hr with hr
    subst hr
    exact n19_ne hj (by omega) hk
  split at hr
  · rename_i hkw
    split at hr
    · cases hr
    obtain ⟨r1, h1, hr⟩ := Option.bind_eq_some_iff.mp hr
    have k1 := n19_h h h1 (n19_ne hj (by omega) hk) (by omega)
    split at hr
    · rename_i hk7
      injection hr with hr
      subst hr
      exact n19_ne hj (by omega) k1
    · cases hr
  split at hr
  · rename_i hkw
    split at hr
    · cases hr
    obtain ⟨r1, h1, hr⟩ := Option.bind_eq_some_iff.mp hr
    injection hr with hr
    subst hr
    have e9 := n19_h h h1 (n19_ne hj (by omega) hk) (by omega)
    exact e9
  split at hr
  · rename_i hkw
    split at hr
    · cases hr
    obtain ⟨r1, h1, hr⟩ := Option.bind_eq_some_iff.mp hr
    injection hr with hr
    subst hr
    have e9 := n19_h h h1 (n19_ne hj (by omega) hk) (by omega)
    exact e9
  · cases hr
theorem pxS_19 (hj : K j = 19) (h : no19 R j) : no19 (pxS K R) j := by
  intro t d k a b r hb hr hk
  unfold pxS at hr
  split at hr
  · exact pxL_19 h (by decide) (by decide) hr hk
  · exact pxJ_19 hj h (by decide) (by decide) (by decide) hr hk
  · exact pxL_19 h (by decide) (by decide) hr hk
  · exact pxJ_19 hj h (by decide) (by decide) (by decide) hr hk
  · exact pxU_19 hj h (by decide) (by decide) (by decide) hr hk
  · exact px5_19 hj h hr hk
  · exact pxL_19 h (by decide) (by decide) hr hk
  · exact pxO_19 hj h (by decide) (by decide) (by decide) hr hk
  · exact pxL_19 h (by decide) (by decide) hr hk
  · exact pxO_19 hj h (by decide) (by decide) (by decide) hr hk
  · exact pxU_19 hj h (by decide) (by decide) (by decide) hr hk
  · exact pxL_19 h (by decide) (by decide) hr hk
  · exact px12_19 hj h hr hk
  · exact px13_19 hj h (hb rfl) hr hk
  · exact px14_19 hj h hr hk
  · exact px15_19 hj h hr hk
end
theorem px_19 {K : Nat → Nat} {j : Nat} (hj : K j = 19) : ∀ F, no19 (px K F) j := by
  intro F
  induction F with
  | zero => exact fun _ _ _ _ _ _ _ h => (by cases h)
  | succ F ih => exact pxS_19 hj ih
/-- no token that is reached from k without a sign = lies behind N -/
def BR (β : Nat → Nat) (n N k : Nat) : Prop := ∀ j, k ≤ j → (∀ i, k ≤ i → i < j → 3 ≤ qK β n i ∧ qK β n i ≠ 19) → qP β n j ≤ N
section
variable {β : Nat → Nat} {n N k : Nat}
theorem BR_at (h : BR β n N k) : qP β n k ≤ N := h k (Nat.le_refl _) (fun i h1 h2 => absurd h2 (by omega))
theorem BR_run (h : BR β n N k) {k1 : Nat} (hk : k ≤ k1) (hr : ∀ i, k ≤ i → i < k1 → 3 ≤ qK β n i ∧ qK β n i ≠ 19) : BR β n N k1 := fun j h1 h2 => h j (by omega) (fun i h3 h4 => if h5 : i < k1 then hr i h3 h5 else h2 i (by omega) h4)
theorem BR_1 (h : BR β n N k) (h3 : 3 ≤ qK β n k) (h19 : qK β n k ≠ 19) : BR β n N (k + 1) := BR_run h (by omega) (fun i h1 h2 => by
  obtain rfl : i = k := by omega
  exact ⟨h3, h19⟩)
theorem BR_n (β : Nat → Nat) (n k : Nat) : BR β n n k := fun j _ _ => (q_lt β n j).1
theorem BR_px (h : BR β n N k) {F t d a b : Nat} {r : Nat × Nat × List Op} (hr : px (qK β n) F t d k a b = some r) (hb : t = 13 → b ≠ 19) (hk : k ≤ r.1) (h3 : ∀ i, k ≤ i → i < r.1 → 3 ≤ qK β n i) : BR β n N r.1 :=
  BR_run h hk (fun i h1 h2 => ⟨h3 i h1 h2, fun e => absurd (px_19 e F _ _ _ _ _ _ hb hr h1) (by omega)⟩)
theorem BR_19 {B : Nat} (hB : qK β n B = 19) (hkB : k ≤ B) (hr : ∀ i, k ≤ i → i < B → 3 ≤ qK β n i) : BR β n (qP β n B) k := by
  intro j h1 h2
  by_cases hj : j ≤ B
  · have := (q_run (β := β) (n := n) hj (fun i h3 h4 => hr i (by omega) h4)).1
    omega
  · exact absurd hB (h2 B hkB (by omega)).2
end
