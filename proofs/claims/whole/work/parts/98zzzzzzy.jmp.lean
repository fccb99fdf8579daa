/-! JUMPS LAND ON STEPS (pure): rows of steps, expressions -/
def pk (o : Op) : Prop := o.1 = 16 ∨ o.1 = 18 ∨ o.1 = 21 ∨ (25 ≤ o.1 ∧ o.1 ≤ 39) ∨ o.1 = 44 ∨ (49 ≤ o.1 ∧ o.1 ≤ 51)
/-- as px_Q, with or and and told -/
theorem px_J {K : Nat → Nat} {Q : List Op → Prop} (h0 : Q []) (ha : ∀ a b, Q a → Q b → Q (a ++ b)) (h1 : ∀ o, pk o → Q [o]) (hj : ∀ op a b, (op = 6 ∨ op = 7) → Q a → Q b → Q (jmp K op a :: (a ++ b))) : ∀ F t d k a b r, px K F t d k a b = some r → Q r.2.2 := by
  have hc : ∀ o l, pk o → Q l → Q (o :: l) := fun o l ho hl => ha [o] l (h1 o ho) hl
  intro F
  induction F with
  | zero => intro t d k a b r h; cases h
  | succ F ih =>
    have hL : ∀ t u d k r, pxL (px K F) t u d k = some r → Q r.2.2 := fun t u d k r h => by
      unfold pxL at h
      obtain ⟨r1, h1, h⟩ := Option.bind_eq_some_iff.mp h
      obtain ⟨r2, h2, h⟩ := Option.bind_eq_some_iff.mp h
      injection h with h
      subst h
      exact ha _ _ (ih _ _ _ _ _ _ h1) (ih _ _ _ _ _ _ h2)
    have hJ : ∀ w op t u d k a r, (op = 6 ∨ op = 7) → pxJ K (px K F) w op t u d k a = some r → Q r.2.2 := fun w op t u d k a r hop h => by
      unfold pxJ at h
      split at h
      · obtain ⟨r1, h1, h⟩ := Option.bind_eq_some_iff.mp h
        obtain ⟨r2, h2, h⟩ := Option.bind_eq_some_iff.mp h
        injection h with h
        subst h
        exact hj _ _ _ hop (ih _ _ _ _ _ _ h1) (ih _ _ _ _ _ _ h2)
      · injection h with h
        subst h
        exact h0
    have hO : ∀ op t u d k a r, (∀ x, op x ≠ 0 → 25 ≤ op x ∧ op x ≤ 39) → pxO K (px K F) op t u d k a = some r → Q r.2.2 := fun op t u d k a r hop h => by
      unfold pxO at h
      split at h
      · rename_i hk
        obtain ⟨r1, h1, h⟩ := Option.bind_eq_some_iff.mp h
        obtain ⟨r2, h2, h⟩ := Option.bind_eq_some_iff.mp h
        injection h with h
        subst h
        have e2 := hop _ hk
        exact ha _ _ (ih _ _ _ _ _ _ h1) (hc _ _ (by unfold pk; dsimp only; omega) (ih _ _ _ _ _ _ h2))
      · injection h with h
        subst h
        exact h0
    have hU : ∀ w op t u d k r, (op = 25 ∨ op = 26) → pxU K (px K F) w op t u d k = some r → Q r.2.2 := fun w op t u d k r hop h => by
      unfold pxU at h
      split at h
      · split at h
        · cases h
        obtain ⟨r1, h1, h⟩ := Option.bind_eq_some_iff.mp h
        injection h with h
        subst h
        exact ha _ _ (ih _ _ _ _ _ _ h1) (hc _ _ (by unfold pk; dsimp only; omega) h0)
      · exact ih _ _ _ _ _ _ h
    intro t d k a b r h
    replace h : pxS K (px K F) t d k a b = some r := h
    unfold pxS at h
    split at h
    · exact hL _ _ _ _ _ h
    · exact hJ _ _ _ _ _ _ _ _ (Or.inr rfl) h
    · exact hL _ _ _ _ _ h
    · exact hJ _ _ _ _ _ _ _ _ (Or.inl rfl) h
    · exact hU _ _ _ _ _ _ _ (Or.inl rfl) h
    · unfold px5 at h
      obtain ⟨r1, h1, h⟩ := Option.bind_eq_some_iff.mp h
      split at h
      · injection h with h
        subst h
        exact ih _ _ _ _ _ _ h1
      · rename_i hk
        obtain ⟨r2, h2, h⟩ := Option.bind_eq_some_iff.mp h
        injection h with h
        subst h
        have e2 := cmpO_ok hk
        exact ha _ _ (ih _ _ _ _ _ _ h1) (ha _ _ (ih _ _ _ _ _ _ h2) (hc _ _ (by unfold pk; dsimp only; omega) h0))
    · exact hL _ _ _ _ _ h
    · exact hO _ _ _ _ _ _ _ (fun x hx => by have := sumO_ok hx; omega) h
    · exact hL _ _ _ _ _ h
    · exact hO _ _ _ _ _ _ _ (fun x hx => by have := trmO_ok hx; omega) h
    · exact hU _ _ _ _ _ _ _ (Or.inr rfl) h
    · exact hL _ _ _ _ _ h
    · unfold px12 at h
      split at h
      · split at h
        · cases h
        obtain ⟨r1, h1, h⟩ := Option.bind_eq_some_iff.mp h
        obtain ⟨r2, h2, h⟩ := Option.bind_eq_some_iff.mp h
        injection h with h
        subst h
        exact ha _ _ (ih _ _ _ _ _ _ h1) (hc _ _ (by unfold pk; dsimp only; omega) (ih _ _ _ _ _ _ h2))
      split at h
      · split at h
        · cases h
        obtain ⟨r1, h1, h⟩ := Option.bind_eq_some_iff.mp h
        split at h
        · obtain ⟨r2, h2, h⟩ := Option.bind_eq_some_iff.mp h
          injection h with h
          subst h
          exact ha _ _ (ih _ _ _ _ _ _ h1) (hc _ _ (by unfold pk; dsimp only; omega) (ih _ _ _ _ _ _ h2))
        · cases h
      split at h
      · split at h
        · obtain ⟨r2, h2, h⟩ := Option.bind_eq_some_iff.mp h
          injection h with h
          subst h
          exact hc _ _ (by unfold pk; dsimp only; omega) (ih _ _ _ _ _ _ h2)
        · cases h
      · injection h with h
        subst h
        exact h0
    · unfold px13 at h
      split at h
      · injection h with h
        subst h
        exact h0
      split at h
      · cases h
      obtain ⟨r1, h1, h⟩ := Option.bind_eq_some_iff.mp h
      split at h
      · injection h with h
        subst h
        exact ih _ _ _ _ _ r1 h1
      split at h
      · obtain ⟨r2, h2, h⟩ := Option.bind_eq_some_iff.mp h
        injection h with h
        subst h
        exact ha _ _ (ih _ _ _ _ _ _ h1) (ih _ _ _ _ _ _ h2)
      · cases h
    · unfold px14 at h
      split at h
      · injection h with h
        subst h
        exact h0
      split at h
      · cases h
      obtain ⟨r1, h1, h⟩ := Option.bind_eq_some_iff.mp h
      split at h
      · obtain ⟨r3, h3, h⟩ := Option.bind_eq_some_iff.mp h
        split at h
        · injection h with h
          subst h
          exact ha _ _ (ih _ _ _ _ _ _ h1) (ih _ _ _ _ _ _ h3)
        split at h
        · obtain ⟨r2, h2, h⟩ := Option.bind_eq_some_iff.mp h
          injection h with h
          subst h
          exact ha _ _ (ih _ _ _ _ _ _ h1) (ha _ _ (ih _ _ _ _ _ _ h3) (ih _ _ _ _ _ _ h2))
        · cases h
      · cases h
    · unfold px15 at h
      split at h
      · injection h with h
        subst h
        refine hc _ _ ?_ h0
        unfold pk
        dsimp only
        split <;> omega
      split at h
      · injection h with h
        subst h
        exact hc _ _ (by unfold pk; dsimp only; omega) h0
      split at h
      · split at h
        · cases h
        obtain ⟨r1, h1, h⟩ := Option.bind_eq_some_iff.mp h
        split at h
        · injection h with h
          subst h
          exact ih _ _ _ _ _ r1 h1
        · cases h
      split at h
      · split at h
        · cases h
        obtain ⟨r1, h1, h⟩ := Option.bind_eq_some_iff.mp h
        injection h with h
        subst h
        exact ha _ _ (ih _ _ _ _ _ _ h1) (hc _ _ (by unfold pk; dsimp only; omega) h0)
      split at h
      · split at h
        · cases h
        obtain ⟨r1, h1, h⟩ := Option.bind_eq_some_iff.mp h
        injection h with h
        subst h
        exact ha _ _ (ih _ _ _ _ _ _ h1) (hc _ _ (by unfold pk; dsimp only; omega) h0)
      · cases h
/-- a, r are the places of one step (or of the end) on both sides -/
def lnd (K : Nat → Nat) (os : List Op) (a r : Int) : Prop := ∃ t, t ≤ os.length ∧ ((wC (os.take t) : Nat) : Int) = a ∧ ((wR K (os.take t) : Nat) : Int) = r
def isJ (t : Nat) : Prop := t = 4 ∨ t = 5 ∨ t = 6 ∨ t = 7 ∨ t = 10 ∨ t = 12
/-- jumps land inside, or where X says -/
def jG (K : Nat → Nat) (X : Int → Int → Prop) (os : List Op) : Prop := ∀ i o, os[i]? = some o → isJ o.1 → lnd K os (((wC (os.take i) : Nat) : Int) + o.2.2.1) (((wR K (os.take i) : Nat) : Int) + 1 + o.2.2.2) ∨ X (((wC (os.take i) : Nat) : Int) + o.2.2.1) (((wR K (os.take i) : Nat) : Int) + 1 + o.2.2.2)
section
variable {K : Nat → Nat} {X Y Z : Int → Int → Prop} {a b : List Op} {p q : Int} {o : Op}
theorem lnd_l (h : lnd K a p q) : lnd K (a ++ b) p q := by
  obtain ⟨t, t1, t2, t3⟩ := h
  exact ⟨t, by rw [List.length_append]; omega, by rw [List.take_append_of_le_length t1]; exact t2, by rw [List.take_append_of_le_length t1]; exact t3⟩
theorem tk_r (t : Nat) : (a ++ b).take (a.length + t) = a ++ b.take t := by
  rw [List.take_append, List.take_of_length_le (by omega), Nat.add_sub_cancel_left]
theorem lnd_r (h : lnd K b p q) : lnd K (a ++ b) (p + (wC a : Nat)) (q + (wR K a : Nat)) := by
  obtain ⟨t, t1, t2, t3⟩ := h
  refine ⟨a.length + t, by rw [List.length_append]; omega, ?_, ?_⟩
  · rw [tk_r, wC_app]; omega
  · rw [tk_r, wR_app]; omega
theorem lnd_end (K : Nat → Nat) (a : List Op) : lnd K a (wC a : Nat) (wR K a : Nat) := ⟨a.length, Nat.le_refl _, by rw [List.take_length], by rw [List.take_length]⟩
theorem lnd_0 (K : Nat → Nat) (a : List Op) : lnd K a 0 0 := ⟨0, Nat.zero_le _, rfl, rfl⟩
theorem jG_nil : jG K X [] := fun i o h => by cases h
theorem jG_n (h : ¬ isJ o.1) : jG K X [o] := fun i w hw hj => by
  have hi := (List.getElem?_eq_some_iff.mp hw).1
  obtain rfl : i = 0 := by
    have : i < 1 := hi
    omega
  injection hw with hw
  rw [← hw] at hj
  exact absurd hj h
theorem jG_1 : jG K (fun p q => p = o.2.2.1 ∧ q = 1 + o.2.2.2) [o] := fun i w hw hj => by
  have hi := (List.getElem?_eq_some_iff.mp hw).1
  obtain rfl : i = 0 := by
    have : i < 1 := hi
    omega
  injection hw with hw
  subst hw
  exact Or.inr ⟨by show (0 : Int) + _ = _; omega, by show (0 : Int) + 1 + _ = _; omega⟩
/-- one row behind another -/
theorem jG_app (h1 : jG K X a) (h2 : jG K Y b) (hX : ∀ p q, X p q → lnd K (a ++ b) p q ∨ Z p q) (hY : ∀ p q, Y p q → lnd K (a ++ b) (p + (wC a : Nat)) (q + (wR K a : Nat)) ∨ Z (p + (wC a : Nat)) (q + (wR K a : Nat))) : jG K Z (a ++ b) := by
  intro i o hi hj
  rcases Nat.lt_or_ge i a.length with h | h
  · rw [List.getElem?_append_left h] at hi
    rw [List.take_append_of_le_length (Nat.le_of_lt h)]
    rcases h1 i o hi hj with g | g
    · exact Or.inl (lnd_l g)
    · exact hX _ _ g
  · obtain ⟨r, rfl⟩ : ∃ r, i = a.length + r := ⟨i - a.length, by omega⟩
    rw [List.getElem?_append_right h, Nat.add_sub_cancel_left] at hi
    rw [tk_r, wC_app, wR_app]
    have e1 : (((wC a + wC (b.take r) : Nat)) : Int) + o.2.2.1 = (((wC (b.take r) : Nat) : Int) + o.2.2.1) + (wC a : Nat) := by omega
    have e2 : (((wR K a + wR K (b.take r) : Nat)) : Int) + 1 + o.2.2.2 = (((wR K (b.take r) : Nat) : Int) + 1 + o.2.2.2) + (wR K a : Nat) := by omega
    rw [e1, e2]
    rcases h2 r o hi hj with g | g
    · exact Or.inl (lnd_r g)
    · exact hY _ _ g
theorem jG_X (h : jG K X a) (hX : ∀ p q, X p q → lnd K a p q ∨ Z p q) : jG K Z a := fun i o hi hj => (h i o hi hj).elim Or.inl (hX _ _)
/-- expressions: every jump lands inside -/
theorem px_jG {F t d k c e : Nat} {r : Nat × Nat × List Op} (h : px K F t d k c e = some r) : jG K (fun _ _ => False) r.2.2 := by
  refine px_J (Q := fun os => jG K (fun _ _ => False) os) jG_nil (fun a b h1 h2 => jG_app h1 h2 (fun p q h => h.elim) (fun p q h => h.elim)) (fun o ho => jG_n (fun hj => ?_)) (fun op a b hop h1 h2 => ?_) F t d k c e r h
  · unfold pk at ho
    unfold isJ at hj
    omega
  · have h3 : jG K (fun _ _ => False) (a ++ b) := jG_app h1 h2 (fun p q h => h.elim) (fun p q h => h.elim)
    show jG K _ ([jmp K op a] ++ (a ++ b))
    refine jG_app (jG_1 (o := jmp K op a)) h3 (fun p q h => Or.inl ?_) (fun p q h => h.elim)
    have e1 : lnd K ([jmp K op a] ++ a) ((wC ([jmp K op a] ++ a) : Nat) : Int) ((wR K ([jmp K op a] ++ a) : Nat) : Int) := lnd_end K _
    have e2 := lnd_l (b := b) e1
    rw [List.append_assoc] at e2
    have l1 : wC ([jmp K op a] ++ a) = 2 + wC a := by
      rw [wC_app]
      rcases hop with rfl | rfl <;> rfl
    have l2 : wR K ([jmp K op a] ++ a) = 2 + wR K a := by
      rw [wR_app]
      rcases hop with rfl | rfl <;> rfl
    rw [l1, l2] at e2
    obtain ⟨h4, h5⟩ := h
    have h4' : p = ((2 + wC a : Nat) : Int) := h4
    have h5' : q = 1 + ((1 + wR K a : Nat) : Int) := h5
    rw [h4', h5', show (1 : Int) + ((1 + wR K a : Nat) : Int) = ((2 + wR K a : Nat) : Int) by omega]
    exact e2
end
