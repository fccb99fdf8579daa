/-! JUMPS LAND ON STEPS (pure): pieces at their places -/
/-- the places of the steps of os, os at c, r -/
def bnd (K : Nat → Nat) (os : List Op) (c r p q : Int) : Prop := ∃ t, t ≤ os.length ∧ p = c + ((wC (os.take t) : Nat) : Int) ∧ q = r + ((wR K (os.take t) : Nat) : Int)
/-- every jump of os, os at c, r, lands where T says -/
def jA (K : Nat → Nat) (T : Int → Int → Prop) (c r : Int) (os : List Op) : Prop := ∀ i o, os[i]? = some o → isJ o.1 → T (c + ((wC (os.take i) : Nat) : Int) + o.2.2.1) (r + ((wR K (os.take i) : Nat) : Int) + 1 + o.2.2.2)
def lpP (lp : LpT) (p q : Int) : Prop := match lp with
  | none => False
  | some x => p = (x.1 : Nat) ∧ q = (x.2.1 : Nat)
def jO (K : Nat → Nat) (lp : LpT) (ca ra : Nat) (os : List Op) : Prop := jA K (fun p q => bnd K os ca ra p q ∨ lpP lp p q) ca ra os
section
variable {K : Nat → Nat} {T T' : Int → Int → Prop} {a b os : List Op} {c r p q : Int} {o : Op} {lp : LpT} {ca ra s k : Nat}
theorem bnd_0 : bnd K os c r c r := ⟨0, Nat.zero_le _, (by show c = c + 0; omega), (by show r = r + 0; omega)⟩
theorem bnd_l (h : bnd K a c r p q) : bnd K (a ++ b) c r p q := by
  obtain ⟨t, t1, t2, t3⟩ := h
  exact ⟨t, by rw [List.length_append]; omega, by rw [List.take_append_of_le_length t1]; exact t2, by rw [List.take_append_of_le_length t1]; exact t3⟩
theorem bnd_r (h : bnd K b (c + (wC a : Nat)) (r + (wR K a : Nat)) p q) : bnd K (a ++ b) c r p q := by
  obtain ⟨t, t1, t2, t3⟩ := h
  refine ⟨a.length + t, by rw [List.length_append]; omega, ?_, ?_⟩
  · rw [tk_r, wC_app, t2]; omega
  · rw [tk_r, wR_app, t3]; omega
theorem bnd_e : bnd K os c r (c + (wC os : Nat)) (r + (wR K os : Nat)) := ⟨os.length, Nat.le_refl _, by rw [List.take_length], by rw [List.take_length]⟩
theorem bnd_at {c' r' : Int} (h : bnd K os c r p q) (hc : c = c') (hr : r = r') : bnd K os c' r' p q := by rw [← hc, ← hr]; exact h
theorem bnd_pq {p' q' : Int} (h : bnd K os c r p q) (hp : p' = p) (hq : q' = q) : bnd K os c r p' q' := by rw [hp, hq]; exact h
theorem jA_nil : jA K T c r [] := fun i o h => by cases h
theorem jA_n (h : ¬ isJ o.1) : jA K T c r [o] := fun i w hw hj => by
  have hi := (List.getElem?_eq_some_iff.mp hw).1
  obtain rfl : i = 0 := by
    have : i < 1 := hi
    omega
  injection hw with hw
  rw [← hw] at hj
  exact absurd hj h
theorem jA_1 (h : T (c + o.2.2.1) (r + 1 + o.2.2.2)) : jA K T c r [o] := fun i w hw hj => by
  have hi := (List.getElem?_eq_some_iff.mp hw).1
  obtain rfl : i = 0 := by
    have : i < 1 := hi
    omega
  injection hw with hw
  subst hw
  show T (c + 0 + _) (r + 0 + 1 + _)
  rw [Int.add_zero, Int.add_zero]
  exact h
theorem jA_app (h1 : jA K T c r a) (h2 : jA K T (c + (wC a : Nat)) (r + (wR K a : Nat)) b) : jA K T c r (a ++ b) := by
  intro i o hi hj
  rcases Nat.lt_or_ge i a.length with h | h
  · rw [List.getElem?_append_left h] at hi
    rw [List.take_append_of_le_length (Nat.le_of_lt h)]
    exact h1 i o hi hj
  · obtain ⟨m, rfl⟩ : ∃ m, i = a.length + m := ⟨i - a.length, by omega⟩
    rw [List.getElem?_append_right h, Nat.add_sub_cancel_left] at hi
    rw [tk_r, wC_app, wR_app]
    have g := h2 m o hi hj
    have e1 : c + ((wC a + wC (b.take m) : Nat) : Int) + o.2.2.1 = c + (wC a : Nat) + ((wC (b.take m) : Nat) : Int) + o.2.2.1 := by omega
    have e2 : r + ((wR K a + wR K (b.take m) : Nat) : Int) + 1 + o.2.2.2 = r + (wR K a : Nat) + ((wR K (b.take m) : Nat) : Int) + 1 + o.2.2.2 := by omega
    rw [e1, e2]
    exact g
theorem jA_T (h : jA K T c r os) (hT : ∀ p q, T p q → T' p q) : jA K T' c r os := fun i o hi hj => hT _ _ (h i o hi hj)
theorem jA_at {c' r' : Int} (h : jA K T c r os) (hc : c = c') (hr : r = r') : jA K T c' r' os := by rw [← hc, ← hr]; exact h
/-- a row whose jumps land inside, anywhere -/
theorem jF_A (h : jG K jF os) (c r : Int) : jA K (fun p q => bnd K os c r p q) c r os := fun i o hi hj => by
  rcases h i o hi hj with g | g
  · obtain ⟨t, t1, t2, t3⟩ := g
    exact ⟨t, t1, by omega, by omega⟩
  · exact g.elim
theorem jF_O (h : jG K jF os) : jO K lp ca ra os := jA_T (jF_A h ca ra) (fun p q h => Or.inl h)
/-- a piece inside a row -/
theorem jO_in {lp' : LpT} {ca' ra' : Nat} (h : jO K lp' ca' ra' b) (hc : c = ca') (hr : r = ra') (hB : ∀ p q, bnd K b c r p q → T p q) (hl : ∀ p q, lpP lp' p q → T p q) : jA K T c r b := by
  subst hc; subst hr
  exact jA_T h (fun p q g => g.elim (hB p q) (hl p q))
theorem jF_in (h : jG K jF b) (hB : ∀ p q, bnd K b c r p q → T p q) : jA K T c r b := jA_T (jF_A h c r) hB
/-- expressions as statements have them -/
theorem jG_map {X : Int → Int → Prop} (s : Nat) (h : jG K X os) : jG K X (os.map (tgsc s)) := by
  intro i o hi hj
  rw [List.getElem?_map] at hi
  cases hw : os[i]? with
  | none => rw [hw] at hi; cases hi
  | some w =>
    rw [hw] at hi
    have e : tgsc s w = o := by injection hi
    have e1 : o.1 = w.1 := by rw [← e]; exact tgs_1 s w
    have e2 : o.2.2 = w.2.2 := by
      rw [← e]
      by_cases h : 18 ≤ w.1 ∧ w.1 ≤ 21
      · rw [tgs_y h]
      · rw [tgs_n h]
    have e3 : ∀ t, (os.map (tgsc s)).take t = (os.take t).map (tgsc s) := fun t => List.map_take.symm
    rw [e1] at hj
    rw [e2, e3, (map_wC s _).1, (map_wR K s _).1]
    rcases h i w hw hj with ⟨t, t1, t2, t3⟩ | g
    · exact Or.inl ⟨t, by rw [List.length_map]; exact t1, by rw [e3, (map_wC s _).1]; exact t2, by rw [e3, (map_wR K s _).1]; exact t3⟩
    · exact Or.inr g
theorem exs_jF {x : Nat × Nat × List Op} (h : exs K s k = some x) : jG K jF x.2.2 := by
  obtain ⟨r0, r1, r2⟩ := exs_px h
  rw [r2]
  exact jG_map s (px_jF r1)
theorem exs_tj {x : Nat × Nat × List Op} (h : exs K s k = some x) (hg : x.2.1 ≠ 0) : ∃ w o, x.2.2 = w ++ [o] ∧ jG K jF w := by
  obtain ⟨r0, r1, r2⟩ := exs_px h
  subst r2
  obtain ⟨w, o, w1, w2⟩ := px_tg _ _ _ _ _ (Or.inl rfl) r1 hg
  exact ⟨w.map (tgsc s), tgsc s o, by dsimp only; rw [w1, List.map_append]; rfl, jG_map s w2⟩
theorem rtl_jF {x y z : Nat} (h : ∃ w o, os = w ++ [o] ∧ jG K jF w) (hx : ¬ isJ x) (hy : ¬ isJ y) (hz : ¬ isJ z) : jG K jF (rtl x y z os) := by
  obtain ⟨w, o, rfl, h2⟩ := h
  unfold rtl
  rw [List.dropLast_concat, List.getLast?_concat]
  refine jF_app h2 (jF_n ?_)
  dsimp only
  split
  · exact hx
  · split
    · exact hy
    · exact hz
/-- breaks become jumps -/
theorem rsv_jA {ce re : Nat} : ∀ (os : List Op) (c r : Nat), jA K T (c : Int) (r : Int) os → T (ce : Int) (re : Int) → jA K T (c : Int) (r : Int) (rsv K ce re c r os) := by
  intro os
  induction os with
  | nil => intro c r _ _; exact jA_nil
  | cons o l ih =>
    intro c r h hT
    have hl : jA K T ((c + lC o : Nat) : Int) ((r + lR K o : Nat) : Int) l := fun i w hw hj => by
      have g := h (i + 1) w (by rw [List.getElem?_cons_succ]; exact hw) hj
      have e1 : ((wC ((o :: l).take (i + 1)) : Nat) : Int) = (lC o : Nat) + ((wC (l.take i) : Nat) : Int) := by
        show ((lC o + wC (l.take i) : Nat) : Int) = _
        omega
      have e2 : ((wR K ((o :: l).take (i + 1)) : Nat) : Int) = (lR K o : Nat) + ((wR K (l.take i) : Nat) : Int) := by
        show ((lR K o + wR K (l.take i) : Nat) : Int) = _
        omega
      rw [e1, e2] at g
      have e3 : (c : Int) + ((lC o : Nat) + ((wC (l.take i) : Nat) : Int)) + w.2.2.1 = ((c + lC o : Nat) : Int) + ((wC (l.take i) : Nat) : Int) + w.2.2.1 := by omega
      have e4 : (r : Int) + ((lR K o : Nat) + ((wR K (l.take i) : Nat) : Int)) + 1 + w.2.2.2 = ((r + lR K o : Nat) : Int) + ((wR K (l.take i) : Nat) : Int) + 1 + w.2.2.2 := by omega
      rw [e3, e4] at g
      exact g
    have h2 := ih _ _ hl hT
    have w1 : lC (if o.1 = 60 then ((4, [], (ce : Int) - c, (re : Int) - (r + 1)) : Op) else o) = lC o := by
      by_cases h : o.1 = 60
      · rw [if_pos h, lC_60 h]; rfl
      · rw [if_neg h]
    have w2 : lR K (if o.1 = 60 then ((4, [], (ce : Int) - c, (re : Int) - (r + 1)) : Op) else o) = lR K o := by
      by_cases h : o.1 = 60
      · rw [if_pos h, lR_60 h]; rfl
      · rw [if_neg h]
    show jA K T c r ([(if o.1 = 60 then ((4, [], (ce : Int) - c, (re : Int) - (r + 1)) : Op) else o)] ++ rsv K ce re (c + lC o) (r + lR K o) l)
    refine jA_app ?_ (jA_at h2 ?_ ?_)
    · by_cases h6 : o.1 = 60
      · rw [if_pos h6]
        refine jA_1 ?_
        have e1 : (c : Int) + ((ce : Int) - c) = ce := by omega
        have e2 : (r : Int) + 1 + ((re : Int) - (r + 1)) = re := by omega
        show T ((c : Int) + ((ce : Int) - c)) ((r : Int) + 1 + ((re : Int) - (r + 1)))
        rw [e1, e2]
        exact hT
      · rw [if_neg h6]
        intro i w hw hj
        have hi := (List.getElem?_eq_some_iff.mp hw).1
        obtain rfl : i = 0 := by
          have : i < 1 := hi
          omega
        injection hw with hw
        subst hw
        exact h 0 o rfl hj
    · show ((c + lC o : Nat) : Int) = (c : Int) + ((lC _ + 0 : Nat) : Int)
      rw [w1]; omega
    · show ((r + lR K o : Nat) : Int) = (r : Int) + ((lR K _ + 0 : Nat) : Int)
      rw [w2]; omega
end
