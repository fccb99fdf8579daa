/-! THE REFERENCE'S TABLE OF NAMES: found, or learnt, its arrays twice as long if need be.  own: what an address was made for -/
def RN (own : Nat → Nat × Nat) (S : cS) (nn g0 g1 g3 g4 g5 gn : Nat) : Prop := sI S 6102 = nI nn ∧ sV S 6100 = .ref g0 ∧ sV S 6101 = .ref g1 ∧ sV S 6103 = .ref g3 ∧ sV S 6104 = .ref g4 ∧ sV S 6105 = .ref g5 ∧ isK S g0 2 (12 * gn) ∧ isK S g1 0 gn ∧ isK S g3 0 gn ∧ isK S g4 1 gn ∧ isK S g5 1 gn ∧ nn ≤ gn ∧ 64 ≤ gn ∧ (own g0).1 = 20 ∧ (own g1).1 = 21 ∧ (own g3).1 = 23 ∧ (own g4).1 = 24 ∧ (own g5).1 = 25
/-- all else is as it was -/
def FrN (own : Nat → Nat × Nat) (S S' : cS) : Prop := sJ S' = sJ S ∧ sQ S' = sQ S ∧ (∀ i, i ≠ 6102 → sI S' i = sI S i) ∧ (∀ i, i ∉ [6100, 6101, 6103, 6104, 6105] → sV S' i = sV S i) ∧ (∃ l, sS S' = sS S ++ l) ∧ (∀ a, a < 108 + (sS S).length → (own a).1 ∉ [20, 21, 23] → sA S' a = sA S a) ∧ (∀ a, a < 108 + (sS S).length → (own a).1 ∉ [24, 25] → sL S' a = sL S a)
/-- a longer copy in the place of an array -/
def grI (id t n g N : Nat) (S : cS) : cS := wV id (.ref (108 + (sS S).length)) (newI t n (cpI (sA S g) N) S)
def grL (id n g N : Nat) (S : cS) : cS := wV id (.ref (108 + (sS S).length)) (newL n (cpL (sL S g) N) S)
theorem grI_A (id t n g N : Nat) (S : cS) (a : Nat) : sA (grI id t n g N S) a = if a = 108 + (sS S).length then cpI (sA S g) N else sA S a := rfl
theorem grL_A (id n g N : Nat) (S : cS) (a : Nat) : sA (grL id n g N S) a = sA S a := rfl
theorem grI_L (id t n g N : Nat) (S : cS) (a : Nat) : sL (grI id t n g N S) a = sL S a := rfl
theorem grL_L (id n g N : Nat) (S : cS) (a : Nat) : sL (grL id n g N S) a = if a = 108 + (sS S).length then cpL (sL S g) N else sL S a := rfl
theorem grI_V (id t n g N : Nat) (S : cS) (i : Nat) : sV (grI id t n g N S) i = if i = id then .ref (108 + (sS S).length) else sV S i := rfl
theorem grL_V (id n g N : Nat) (S : cS) (i : Nat) : sV (grL id n g N S) i = if i = id then .ref (108 + (sS S).length) else sV S i := rfl
theorem grI_S (id t n g N : Nat) (S : cS) : sS (grI id t n g N S) = sS S ++ [(t, n)] := rfl
theorem grL_S (id n g N : Nat) (S : cS) : sS (grL id n g N S) = sS S ++ [(1, n)] := rfl
theorem grI_I (id t n g N : Nat) (S : cS) : sI (grI id t n g N S) = sI S := rfl
theorem grL_I (id n g N : Nat) (S : cS) : sI (grL id n g N S) = sI S := rfl
theorem grI_J (id t n g N : Nat) (S : cS) : sJ (grI id t n g N S) = sJ S := rfl
theorem grL_J (id n g N : Nat) (S : cS) : sJ (grL id n g N S) = sJ S := rfl
theorem grI_Q (id t n g N : Nat) (S : cS) : sQ (grI id t n g N S) = sQ S := rfl
theorem grL_Q (id n g N : Nat) (S : cS) : sQ (grL id n g N S) = sQ S := rfl
theorem grI_m (id t n g N : Nat) (S : cS) : mu (grI id t n g N S) = mu S + n := rfl
theorem grL_m (id n g N : Nat) (S : cS) : mu (grL id n g N S) = mu S + n := rfl
theorem grI_k {id t n g N : Nat} {S : cS} : isK (grI id t n g N S) (108 + (sS S).length) t n := Or.inr ⟨Nat.le_add_right _ _, new_lt S (t, n)⟩
theorem grL_k {id n g N : Nat} {S : cS} : isK (grL id n g N S) (108 + (sS S).length) 1 n := Or.inr ⟨Nat.le_add_right _ _, new_lt S (1, n)⟩
theorem grI_o {id t n g N : Nat} {S : cS} {a t2 N2 : Nat} (h : isK S a t2 N2) : isK (grI id t n g N S) a t2 N2 := isK_K (l := [(t, n)]) rfl h
theorem grL_o {id n g N : Nat} {S : cS} {a t2 N2 : Nat} (h : isK S a t2 N2) : isK (grL id n g N S) a t2 N2 := isK_K (l := [(1, n)]) rfl h
/-- all five arrays twice as long -/
def r_more (g0 g1 g3 g4 g5 nn : Nat) (S : cS) : cS := grL 6105 (2 * nn) g5 nn (grL 6104 (2 * nn) g4 nn (grI 6103 0 (2 * nn) g3 nn (grI 6101 0 (2 * nn) g1 nn (grI 6100 2 (12 * (2 * nn)) g0 (12 * nn) S))))
theorem more_S {g0 g1 g3 g4 g5 nn : Nat} {S : cS} : sS (r_more g0 g1 g3 g4 g5 nn S) = sS S ++ [(2, 12 * (2 * nn)), (0, 2 * nn), (0, 2 * nn), (1, 2 * nn), (1, 2 * nn)] := by
  unfold r_more
  rw [grL_S, grL_S, grI_S, grI_S, grI_S, List.append_assoc, List.append_assoc, List.append_assoc, List.append_assoc]
  rfl
theorem more_m {g0 g1 g3 g4 g5 nn : Nat} {S : cS} : mu (r_more g0 g1 g3 g4 g5 nn S) = mu S + 32 * nn := by
  unfold r_more
  rw [grL_m, grL_m, grI_m, grI_m, grI_m]
  omega
theorem more_J {g0 g1 g3 g4 g5 nn : Nat} {S : cS} : sJ (r_more g0 g1 g3 g4 g5 nn S) = sJ S := by
  unfold r_more
  rw [grL_J, grL_J, grI_J, grI_J, grI_J]
theorem more_Q {g0 g1 g3 g4 g5 nn : Nat} {S : cS} : sQ (r_more g0 g1 g3 g4 g5 nn S) = sQ S := by
  unfold r_more
  rw [grL_Q, grL_Q, grI_Q, grI_Q, grI_Q]
theorem more_I {g0 g1 g3 g4 g5 nn : Nat} {S : cS} : sI (r_more g0 g1 g3 g4 g5 nn S) = sI S := by
  unfold r_more
  rw [grL_I, grL_I, grI_I, grI_I, grI_I]
theorem grI_len {id t n g N : Nat} {S : cS} : (sS (grI id t n g N S)).length = (sS S).length + 1 := by rw [grI_S, List.length_append]; rfl
theorem grL_len {id n g N : Nat} {S : cS} : (sS (grL id n g N S)).length = (sS S).length + 1 := by rw [grL_S, List.length_append]; rfl
theorem more_old {g0 g1 g3 g4 g5 nn : Nat} {S : cS} {a : Nat} (ha : a < 108 + (sS S).length) : sA (r_more g0 g1 g3 g4 g5 nn S) a = sA S a ∧ sL (r_more g0 g1 g3 g4 g5 nn S) a = sL S a := by
  unfold r_more
  constructor
  · rw [grL_A, grL_A, grI_A, if_neg (by rw [grI_len, grI_len]; omega), grI_A, if_neg (by rw [grI_len]; omega), grI_A, if_neg (by omega)]
  · rw [grL_L, if_neg (by rw [grL_len, grI_len, grI_len, grI_len]; omega), grL_L, if_neg (by rw [grI_len, grI_len, grI_len]; omega), grI_L, grI_L, grI_L]
def own_more (own : Nat → Nat × Nat) (b : Nat) : Nat → Nat × Nat := fun a => if a = b then (20, 0) else if a = b + 1 then (21, 0) else if a = b + 2 then (23, 0) else if a = b + 3 then (24, 0) else if a = b + 4 then (25, 0) else own a
theorem more_RN {own : Nat → Nat × Nat} {S : cS} {nn g0 g1 g3 g4 g5 : Nat} (h : RN own S nn g0 g1 g3 g4 g5 nn) : RN (own_more own (108 + (sS S).length)) (r_more g0 g1 g3 g4 g5 nn S) nn (108 + (sS S).length) (108 + (sS S).length + 1) (108 + (sS S).length + 2) (108 + (sS S).length + 3) (108 + (sS S).length + 4) (2 * nn) := by
  obtain ⟨h1, _, _, _, _, _, _, _, _, _, _, _, hn, _⟩ := h
  unfold r_more
  refine ⟨by rw [grL_I, grL_I, grI_I, grI_I, grI_I]; exact h1, ?_, ?_, ?_, ?_, ?_, ?_, ?_, ?_, ?_, ?_, by omega, by omega, ?_, ?_, ?_, ?_, ?_⟩
  · rw [grL_V, if_neg (by decide), grL_V, if_neg (by decide), grI_V, if_neg (by decide), grI_V, if_neg (by decide), grI_V, if_pos rfl]
  · rw [grL_V, if_neg (by decide), grL_V, if_neg (by decide), grI_V, if_neg (by decide), grI_V, if_pos rfl, grI_len]
    rfl
  · rw [grL_V, if_neg (by decide), grL_V, if_neg (by decide), grI_V, if_pos rfl, grI_len, grI_len]
    rfl
  · rw [grL_V, if_neg (by decide), grL_V, if_pos rfl, grI_len, grI_len, grI_len]
    rfl
  · rw [grL_V, if_pos rfl, grL_len, grI_len, grI_len, grI_len]
    rfl
  · exact grL_o (grL_o (grI_o (grI_o grI_k)))
  · have := grL_o (id := 6105) (n := 2 * nn) (g := g5) (N := nn) (grL_o (id := 6104) (n := 2 * nn) (g := g4) (N := nn) (grI_o (id := 6103) (t := 0) (n := 2 * nn) (g := g3) (N := nn) (grI_k (id := 6101) (t := 0) (n := 2 * nn) (g := g1) (N := nn) (S := grI 6100 2 (12 * (2 * nn)) g0 (12 * nn) S))))
    rw [grI_len] at this
    exact this
  · have := grL_o (id := 6105) (n := 2 * nn) (g := g5) (N := nn) (grL_o (id := 6104) (n := 2 * nn) (g := g4) (N := nn) (grI_k (id := 6103) (t := 0) (n := 2 * nn) (g := g3) (N := nn) (S := grI 6101 0 (2 * nn) g1 nn (grI 6100 2 (12 * (2 * nn)) g0 (12 * nn) S))))
    rw [grI_len, grI_len] at this
    exact this
  · have := grL_o (id := 6105) (n := 2 * nn) (g := g5) (N := nn) (grL_k (id := 6104) (n := 2 * nn) (g := g4) (N := nn) (S := grI 6103 0 (2 * nn) g3 nn (grI 6101 0 (2 * nn) g1 nn (grI 6100 2 (12 * (2 * nn)) g0 (12 * nn) S))))
    rw [grI_len, grI_len, grI_len] at this
    exact this
  · have := grL_k (id := 6105) (n := 2 * nn) (g := g5) (N := nn) (S := grL 6104 (2 * nn) g4 nn (grI 6103 0 (2 * nn) g3 nn (grI 6101 0 (2 * nn) g1 nn (grI 6100 2 (12 * (2 * nn)) g0 (12 * nn) S))))
    rw [grL_len, grI_len, grI_len, grI_len] at this
    exact this
  · unfold own_more; rw [if_pos rfl]
  · unfold own_more; rw [if_neg (by omega), if_pos rfl]
  · unfold own_more; rw [if_neg (by omega), if_neg (by omega), if_pos rfl]
  · unfold own_more; rw [if_neg (by omega), if_neg (by omega), if_neg (by omega), if_pos rfl]
  · unfold own_more; rw [if_neg (by omega), if_neg (by omega), if_neg (by omega), if_neg (by omega), if_pos rfl]
theorem own_more_old {own : Nat → Nat × Nat} {b a : Nat} (h : a < b) : own_more own b a = own a := by
  unfold own_more
  rw [if_neg (by omega), if_neg (by omega), if_neg (by omega), if_neg (by omega), if_neg (by omega)]
theorem more_at {S : cS} {nn g0 g1 g3 g4 g5 : Nat} (h0 : g0 < 108 + (sS S).length) (h1 : g1 < 108 + (sS S).length) (h3 : g3 < 108 + (sS S).length) : sA (r_more g0 g1 g3 g4 g5 nn S) (108 + (sS S).length) = cpI (sA S g0) (12 * nn) ∧ sA (r_more g0 g1 g3 g4 g5 nn S) (108 + (sS S).length + 1) = cpI (sA S g1) nn ∧ sA (r_more g0 g1 g3 g4 g5 nn S) (108 + (sS S).length + 2) = cpI (sA S g3) nn := by
  unfold r_more
  refine ⟨?_, ?_, ?_⟩
  · rw [grL_A, grL_A, grI_A, if_neg (by rw [grI_len, grI_len]; omega), grI_A, if_neg (by rw [grI_len]; omega), grI_A, if_pos rfl]
  · rw [grL_A, grL_A, grI_A, if_neg (by rw [grI_len, grI_len]; omega), grI_A, if_pos (by rw [grI_len]; omega), grI_A, if_neg (by omega)]
  · rw [grL_A, grL_A, grI_A, if_pos (by rw [grI_len, grI_len]; omega), grI_A, if_neg (by rw [grI_len]; omega), grI_A, if_neg (by omega)]
theorem more_atL {S : cS} {nn g0 g1 g3 g4 g5 : Nat} (h4 : g4 < 108 + (sS S).length) (h5 : g5 < 108 + (sS S).length) : sL (r_more g0 g1 g3 g4 g5 nn S) (108 + (sS S).length + 3) = cpL (sL S g4) nn ∧ sL (r_more g0 g1 g3 g4 g5 nn S) (108 + (sS S).length + 4) = cpL (sL S g5) nn := by
  unfold r_more
  refine ⟨?_, ?_⟩
  · rw [grL_L, if_neg (by rw [grL_len, grI_len, grI_len, grI_len]; omega), grL_L, if_pos (by rw [grI_len, grI_len, grI_len]; omega), grI_L, grI_L, grI_L]
  · rw [grL_L, if_pos (by rw [grL_len, grI_len, grI_len, grI_len]; omega), grL_L, if_neg (by rw [grI_len, grI_len, grI_len]; omega), grI_L, grI_L, grI_L]
/-- what a learnt name leaves as it was -/
def r_kept (S S' : cS) (ab fr n nn g0 g1 g3 g4 g5 h0 h1 h3 h4 h5 : Nat) : Prop := (∀ k i, k < nn → i < 12 → sA S' h0 (12 * k + i) = sA S g0 (12 * k + i)) ∧ (∀ i, i < n → sA S' h0 (12 * nn + i) = sA S ab (fr + i)) ∧ (∀ k, k < nn → sA S' h1 k = sA S g1 k) ∧ sA S' h1 nn = nI n ∧ (∀ k, k < nn → sA S' h3 k = sA S g3 k) ∧ sA S' h3 nn = Int32.ofInt (-1) ∧ (∀ k, k < nn → sL S' h4 k = sL S g4 k) ∧ (∀ k, k < nn → sL S' h5 k = sL S g5 k)
theorem learn_kept {own : Nat → Nat × Nat} {S : cS} {nn g0 g1 g3 g4 g5 gn ab fr n : Nat} (h : RN own S nn g0 g1 g3 g4 g5 gn) (hlt : nn < gn) (hn12 : n ≤ 12) : RN own (r_learn S g0 g1 g3 ab fr n nn) (nn + 1) g0 g1 g3 g4 g5 gn ∧ FrN own S (r_learn S g0 g1 g3 ab fr n nn) ∧ r_kept S (r_learn S g0 g1 g3 ab fr n nn) ab fr n nn g0 g1 g3 g4 g5 g0 g1 g3 g4 g5 ∧ mu (r_learn S g0 g1 g3 ab fr n nn) = mu S ∧ sS (r_learn S g0 g1 g3 ab fr n nn) = sS S := by
  obtain ⟨q1, q2, q3, q4, q5, q6, k0, k1, k3, k4, k5, qn, q64, o0, o1, o3, o4, o5⟩ := h
  have n01 : g0 ≠ g1 := fun e => by rw [e] at o0; omega
  have n03 : g0 ≠ g3 := fun e => by rw [e] at o0; omega
  have n13 : g1 ≠ g3 := fun e => by rw [e] at o1; omega
  unfold r_learn
  refine ⟨⟨rIe _ _ _, q2, q3, q4, q5, q6, isK_S rfl k0, isK_S rfl k1, isK_S rfl k3, isK_S rfl k4, isK_S rfl k5, by omega, q64, o0, o1, o3, o4, o5⟩, ⟨rfl, rfl, fun i hi => rIn _ _ hi, fun i _ => rfl, ⟨[], (List.append_nil _).symm⟩, fun a _ ha => ?_, fun a _ _ => rfl⟩, ⟨?_, ?_, ?_, ?_, ?_, ?_, fun k _ => rfl, fun k _ => rfl⟩, rfl, rfl⟩
  · have a0 : a ≠ g0 := fun e => ha (by rw [e, o0]; decide)
    have a1 : a ≠ g1 := fun e => ha (by rw [e, o1]; decide)
    have a3 : a ≠ g3 := fun e => ha (by rw [e, o3]; decide)
    rw [rIA, rA, if_neg a3, rA, if_neg a1, rF, if_neg a0]
  · intro k i hk hi
    rw [rIA, rA, if_neg n03, rA, if_neg n01, rF, if_pos rfl]
    unfold va_cpy
    rw [if_neg (by omega)]
  · intro i hi
    rw [rIA, rA, if_neg n03, rA, if_neg n01, rF, if_pos rfl]
    unfold va_cpy
    rw [if_pos (by omega), Nat.add_sub_cancel_left]
  · intro k hk
    rw [rIA, rA, if_neg n13, rA, if_pos rfl, upd_at, if_neg (by omega), rF, if_neg (fun e => n01 e.symm)]
  · rw [rIA, rA, if_neg n13, rA, if_pos rfl, upd_at, if_pos rfl]
  · intro k hk
    rw [rIA, rA, if_pos rfl, upd_at, if_neg (by omega), rA, if_neg (fun e => n13 e.symm), rF, if_neg (fun e => n03 e.symm)]
  · rw [rIA, rA, if_pos rfl, upd_at, if_pos rfl]
theorem learn_fit {own : Nat → Nat × Nat} {S : cS} {nn g0 g1 g3 g4 g5 gn ab fr n : Nat} (h : RN own S nn g0 g1 g3 g4 g5 gn) (hb : ∀ i, i < n → fits .byte (.int (sA S ab (fr + i))) = true) (hb0 : ∀ i, fits .byte (.int (sA S g0 i)) = true) (i : Nat) : fits .byte (.int (sA (r_learn S g0 g1 g3 ab fr n nn) g0 i)) = true := by
  obtain ⟨q1, q2, q3, q4, q5, q6, k0, k1, k3, k4, k5, qn, q64, o0, o1, o3, o4, o5⟩ := h
  have n01 : g0 ≠ g1 := fun e => by rw [e] at o0; omega
  have n03 : g0 ≠ g3 := fun e => by rw [e] at o0; omega
  unfold r_learn
  rw [rIA, rA, if_neg n03, rA, if_neg n01, rF, if_pos rfl]
  unfold va_cpy
  split
  · rename_i hc
    exact hb (i - 12 * nn) (by omega)
  · exact hb0 i
/-- a new name: its number, and the table behind it -/
theorem nameOf_new {d : Nat} {own : Nat → Nat × Nat} {S : cS} {nn g0 g1 g3 g4 g5 gn ab NB fr n : Nat} (h : RN own S nn g0 g1 g3 g4 g5 gn) (hgn : gn < 2 ^ 18) (hab : (mk S)[ab]? = some (.inl (2, NB, .inl (sA S ab)))) (hab2 : ab < 108 + (sS S).length) (hNB : NB < 2 ^ 30) (hfr : fr + n ≤ NB) (hn1 : 1 ≤ n) (hn12 : n ≤ 12) (hb : ∀ i, i < n → fits .byte (.int (sA S ab (fr + i))) = true) (hb0 : ∀ i, fits .byte (.int (sA S g0 i)) = true) (hmk : ∀ S' : cS, sA S' ab = sA S ab → (∃ l, sS S' = sS S ++ l) → (mk S')[ab]? = some (.inl (2, NB, .inl (sA S' ab)))) (hno : ∀ p, p < nn → ¬ r_same S g0 g1 ab fr n p) : ∃ S' own' h0 h1 h3 h4 h5 gn', Ans (d + 3) 294 [.ref 61, .ref ab, .int (nI fr), .int (nI n)] S (some (.int (nI nn))) S' ∧ RN own' S' (nn + 1) h0 h1 h3 h4 h5 gn' ∧ FrN own S S' ∧ (∀ a, a < 108 + (sS S).length → own' a = own a) ∧ r_kept S S' ab fr n nn g0 g1 g3 g4 g5 h0 h1 h3 h4 h5 ∧ mu S' + 32 * gn = mu S + 32 * gn' ∧ (sS S').length + gn ≤ (sS S).length + gn' ∧ (gn' = gn ∨ gn = nn ∧ gn' = 2 * nn) ∧ (∀ i, fits .byte (.int (sA S' h0 i)) = true) := by
  have hh := h
  obtain ⟨q1, q2, q3, q4, q5, q6, k0, k1, k3, k4, k5, qn, q64, o0, o1, o3, o4, o5⟩ := h
  by_cases hlt : nn < gn
  · obtain ⟨a1, a2, a3, a4, a5⟩ := learn_kept (ab := ab) (fr := fr) hh hlt hn12
    refine ⟨_, own, g0, g1, g3, g4, g5, gn, nameOf_none q1 q2 q3 k0 k1 (by omega) qn hab hNB hfr hn1 hn12 hno ?_ ?_, a1, a2, fun _ _ => rfl, a3, by rw [a4], by rw [a5]; omega, Or.inl rfl, learn_fit hh hb hb0⟩
    · intro _
      exact nl_fitF (k := 0) (w := 0) (z := 0) q1 q3 k1 (by omega) hlt (nl_putF (k := 0) (w := 0) (z := 0) q1 q2 q3 q4 k0 k1 k3 (by omega) hlt hab hNB hfr hn12 hb)
    · intro w z
      exact nl_fitN q1 q3 k1 (by omega) hlt (nl_putN q1 q2 q3 q4 k0 k1 k3 (by omega) hlt hab hNB hfr hn12 hb)
  · obtain rfl : nn = gn := by omega
    have l0 := isK_lt k0
    have l1 := isK_lt k1
    have l3 := isK_lt k3
    have l4 := isK_lt k4
    have l5 := isK_lt k5
    have hR := more_RN hh
    have hold := fun a ha => more_old (g0 := g0) (g1 := g1) (g3 := g3) (g4 := g4) (g5 := g5) (nn := nn) (S := S) (a := a) ha
    have hmS := more_S (g0 := g0) (g1 := g1) (g3 := g3) (g4 := g4) (g5 := g5) (nn := nn) (S := S)
    have hmm := more_m (g0 := g0) (g1 := g1) (g3 := g3) (g4 := g4) (g5 := g5) (nn := nn) (S := S)
    obtain ⟨c0, c1, c3⟩ := more_at (nn := nn) (g4 := g4) (g5 := g5) l0 l1 l3
    obtain ⟨c4, c5⟩ := more_atL (nn := nn) (g0 := g0) (g1 := g1) (g3 := g3) l4 l5
    have hgrow : ∀ w z v Sf, Bod (d + 2) 294 181 (sm_p1 (sm_p1 (sm_p1 (lv_args 0 [.ref 61, .ref ab, .int (nI fr), .int (nI n)]) 5 (.int w)) 6 (.int z)) 4 (.int (nI (2 * nn)))) [] (r_more g0 g1 g3 g4 g5 nn S) v Sf → Bod (d + 2) 294 93 (sm_p1 (sm_p1 (sm_p1 (lv_args 0 [.ref 61, .ref ab, .int (nI fr), .int (nI n)]) 5 (.int w)) 6 (.int z)) 4 (.int (nI nn))) [] S v Sf := by
      intro w z v Sf hx
      refine nl_more q1 q3 k1 (by omega) ?_
      refine nl_grow0 (m := 2 * nn) q2 k0 (by omega) (copyOfB (d := d) k0 (by omega) (by omega) (fun i _ => hb0 i)) ?_
      refine nl_grow1 (m := 2 * nn) (S := grI 6100 2 (12 * (2 * nn)) g0 (12 * nn) S) (by rw [grI_V, if_neg (by decide)]; exact q3) (grI_o k1) (by omega) (copyOfI (d := d) (grI_o k1) (by omega) (by omega)) ?_
      refine nl_grow3 (m := 2 * nn) (S := grI 6101 0 (2 * nn) g1 nn (grI 6100 2 (12 * (2 * nn)) g0 (12 * nn) S)) (by rw [grI_V, if_neg (by decide), grI_V, if_neg (by decide)]; exact q4) (grI_o (grI_o k3)) (by omega) (copyOfI (d := d) (grI_o (grI_o k3)) (by omega) (by omega)) ?_
      refine nl_grow4 (m := 2 * nn) (S := grI 6103 0 (2 * nn) g3 nn (grI 6101 0 (2 * nn) g1 nn (grI 6100 2 (12 * (2 * nn)) g0 (12 * nn) S))) (by rw [grI_V, if_neg (by decide), grI_V, if_neg (by decide), grI_V, if_neg (by decide)]; exact q5) (grI_o (grI_o (grI_o k4))) (by omega) (copyOfL (d := d) (grI_o (grI_o (grI_o k4))) (by omega) (by omega)) ?_
      refine nl_grow5 (m := 2 * nn) (S := grL 6104 (2 * nn) g4 nn (grI 6103 0 (2 * nn) g3 nn (grI 6101 0 (2 * nn) g1 nn (grI 6100 2 (12 * (2 * nn)) g0 (12 * nn) S)))) (by rw [grL_V, if_neg (by decide), grI_V, if_neg (by decide), grI_V, if_neg (by decide), grI_V, if_neg (by decide)]; exact q6) (grL_o (grI_o (grI_o (grI_o k5)))) (by omega) (copyOfL (d := d) (grL_o (grI_o (grI_o (grI_o k5)))) (by omega) (by omega)) ?_
      exact hx
    have hab3 : sA (r_more g0 g1 g3 g4 g5 nn S) ab = sA S ab := (hold ab hab2).1
    obtain ⟨a1, a2, a3, a4, a5⟩ := learn_kept (ab := ab) (fr := fr) hR (by omega) hn12
    have hfit := learn_fit (ab := ab) (fr := fr) (n := n) hR (by rw [hab3]; exact hb) (fun i => by
      rw [c0]
      unfold cpI va_cpy
      split
      · exact hb0 _
      · exact (by decide : fits .byte (.int 0) = true))
    obtain ⟨r1, r2, r3, r4, _, _, s0, s1, s3, _⟩ := hR
    refine ⟨_, own_more own (108 + (sS S).length), _, _, _, _, _, 2 * nn, nameOf_none q1 q2 q3 k0 k1 (by omega) qn hab hNB hfr hn1 hn12 hno (fun h0 => by omega) (fun w z => hgrow w z _ _ ?_), a1, ?_, fun a ha => own_more_old ha, ?_, by rw [a4, hmm]; omega, by rw [a5, hmS, List.length_append]; show (sS S).length + 5 + nn ≤ _; omega, Or.inr ⟨rfl, rfl⟩, hfit⟩
    · exact nl_putN r1 r2 r3 r4 s0 s1 s3 (by omega) (by omega) (hmk _ hab3 ⟨_, hmS⟩) hNB hfr hn12 (by rw [hab3]; exact hb)
    · obtain ⟨b1, b2, b3, b4, ⟨l, b5⟩, b6, b7⟩ := a2
      refine ⟨b1.trans more_J, b2.trans more_Q, fun i hi => (b3 i hi).trans (by rw [more_I]), fun i hi => ?_, ⟨_, by rw [b5, hmS, List.append_assoc]⟩, fun a ha ho => ?_, fun a ha ho => ?_⟩
      · rw [b4 i hi]
        have n0 : i ≠ 6100 := fun e => hi (by rw [e]; decide)
        have n1 : i ≠ 6101 := fun e => hi (by rw [e]; decide)
        have n3 : i ≠ 6103 := fun e => hi (by rw [e]; decide)
        have n4 : i ≠ 6104 := fun e => hi (by rw [e]; decide)
        have n5 : i ≠ 6105 := fun e => hi (by rw [e]; decide)
        unfold r_more
        rw [grL_V, if_neg n5, grL_V, if_neg n4, grI_V, if_neg n3, grI_V, if_neg n1, grI_V, if_neg n0]
      · rw [b6 a (by rw [hmS, List.length_append]; omega) (by rw [own_more_old ha]; exact ho), (hold a ha).1]
      · rw [b7 a (by rw [hmS, List.length_append]; omega) (by rw [own_more_old ha]; exact ho), (hold a ha).2]
    · obtain ⟨b1, b2, b3, b4, b5, b6, b7, b8⟩ := a3
      refine ⟨fun k i hk hi => ?_, fun i hi => ?_, fun k hk => ?_, b4, fun k hk => ?_, b6, fun k hk => ?_, fun k hk => ?_⟩
      · rw [b1 k i hk hi, c0, cpI_at (by omega)]
      · rw [b2 i hi, hab3]
      · rw [b3 k hk, c1, cpI_at hk]
      · rw [b5 k hk, c3, cpI_at hk]
      · rw [b7 k hk, c4, cpL_at hk]
      · rw [b8 k hk, c5, cpL_at hk]
