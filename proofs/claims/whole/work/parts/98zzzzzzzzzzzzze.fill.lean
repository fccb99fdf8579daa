/-! CALLS, THE CLASS: a frame is filled -/
section
variable {F : Nat → Nat → Nat → Prop} {loc par : Nat → Nat → Nat} {ty : Nat → Nat × Nat} {G : Nat → Nat → Nat → Nat × Nat × LL → Prop} {d n m p q k j f s o t i e z y u v kd md nb f1 gv : Nat} {g g' : Nat → Nat} {tq : Nat → Nat × Nat} {r : List Lv} {x : Lv} {S S' S1 X W : cS} {hi lo : Int64}
/-- entry e of the new frame: its instance, then the values behind t0, then none -/
def frH (S : cS) (se f1 gv t0 e : Nat) : Int64 := if e < f1 then (if se = 0 then 0 else 4611686018427387904) else if e < f1 + gv then sL S 47 (t0 + (e - f1)) else 0
def frL (S : cS) (se f1 gv t0 e : Nat) : Int64 := if e < f1 then (if se = 0 then 0 else lN se) else if e < f1 + gv then sL S 48 (t0 + (e - f1)) else 0
/-- a frame k filled so far: n values -/
def frN (S X : cS) (se f1 n t0 k z : Nat) : Prop := sA X 3 k = nI 7 ∧ sA X 10 k = nI z ∧ ∀ e, e < z → sL X (h_row X k) (2 * e) = frH S se f1 n t0 e ∧ sL X (h_row X k) (2 * e + 1) = frL S se f1 n t0 e
theorem frH_n {se n t0 e : Nat} (h : e ≠ f1 + n) : frH S se f1 (n + 1) t0 e = frH S se f1 n t0 e ∧ frL S se f1 (n + 1) t0 e = frL S se f1 n t0 e := by
  unfold frH frL
  by_cases c : e < f1
  · rw [if_pos c, if_pos c, if_pos c, if_pos c]
    exact ⟨rfl, rfl⟩
  · rw [if_neg c, if_neg c, if_neg c, if_neg c]
    by_cases c2 : e < f1 + n
    · rw [if_pos c2, if_pos (show e < f1 + (n + 1) by omega), if_pos c2, if_pos (show e < f1 + (n + 1) by omega)]
      exact ⟨rfl, rfl⟩
    · rw [if_neg c2, if_neg (show ¬ e < f1 + (n + 1) by omega), if_neg c2, if_neg (show ¬ e < f1 + (n + 1) by omega)]
      exact ⟨rfl, rfl⟩
/-- one entry more -/
theorem fr_one {se t0 : Nat} (h : nbX k g t S X) (hf : frN S X se f1 n t0 k z) (hz2 : z ≤ 300) (he : f1 + n < z) (ho : c_obj (sL S 47 (t0 + n)) (sL S 48 (t0 + n)) = nI o) (hol : o = 0 ∨ lv X o) : ∃ W, Ans (d + 3) 260 [.ref 2, .int (nI k), .int (nI (f1 + n)), .long (sL S 47 (t0 + n)), .long (sL S 48 (t0 + n))] X none W ∧ nbX k g t S W ∧ sI W = sI X ∧ (∀ b, b ≠ 4 → b ≠ 10 → sA W b = sA X b) ∧ frN S W se f1 (n + 1) t0 k z := by
  obtain ⟨f3, f10, fv⟩ := hf
  obtain ⟨u1, u2⟩ := fv (f1 + n) he
  have eH : frH S se f1 n t0 (f1 + n) = 0 ∧ frL S se f1 n t0 (f1 + n) = 0 := by
    unfold frH frL
    rw [if_neg (by omega), if_neg (by omega), if_neg (by omega), if_neg (by omega)]
    exact ⟨rfl, rfl⟩
  obtain ⟨W, b1, b2, b3, b4, b5, b6, b7, b8, b9⟩ := nb_fill (d := d) (e := f1 + n) (hi := sL S 47 (t0 + n)) (lo := sL S 48 (t0 + n)) h f3 f10 hz2 he ⟨by rw [u1, eH.1], by rw [u2, eH.2]⟩ ho hol
  refine ⟨W, b1, b2, b3, b4, by rw [b4 3 (by omega) (by omega)]; exact f3, b5, fun e he' => ?_⟩
  rw [b6]
  by_cases c : e = f1 + n
  · subst c
    rw [b8, b9]
    unfold frH frL
    rw [if_neg (by omega), if_pos (by omega), if_neg (by omega), if_pos (by omega), show f1 + n - f1 = n by omega]
    exact ⟨rfl, rfl⟩
  · rw [b7 _ (by omega) (by omega), b7 _ (by omega) (by omega), (frH_n c).1, (frH_n c).2]
    exact fv e he'
/-- the loop of enter: the values of the call -/
theorem fr_loop {se t0 : Nat} (hz2 : z ≤ 300) (hT : ∀ X, nbX k g t S X → sI X 4603 = nI t) (ht : t ≤ 20480) (h0 : t0 + gv = t) (hgv : f1 + gv ≤ z) (hf1 : f1 < 2) (hk : k ≤ 1500) (hmd : md < 2 ^ 20) (hnb : nb < 2 ^ 20) (hst : ∀ i, i < t → ∃ o, c_obj (sL S 47 i) (sL S 48 i) = nI o ∧ (o = 0 ∨ lv S o)) : ∀ {rem n : Nat} {X : cS}, n + rem = gv → nbX k g t S X → frN S X se f1 n t0 k z → ∃ W, nbX k g t S W ∧ frN S W se f1 gv t0 k z ∧ sI W = sI X ∧ (∀ b, b ≠ 4 → b ≠ 10 → sA W b = sA X b) ∧ ∀ {v : Option Value} {Sf : cS}, (∀ lv1, sm_get lv1 0 = some (.ref 52) → sm_get lv1 2 = some (.int (nI gv)) → sm_get lv1 4 = some (.int (nI md)) → sm_get lv1 5 = some (.int (nI nb)) → sm_get lv1 6 = some (.int (nI f1)) → sm_get lv1 8 = some (.int (nI k)) → sm_get lv1 9 = some (.int (nI gv)) → Bod (d + 8) 254 168 lv1 [] W v Sf) → ∀ lv1, sm_get lv1 0 = some (.ref 52) → sm_get lv1 2 = some (.int (nI gv)) → sm_get lv1 4 = some (.int (nI md)) → sm_get lv1 5 = some (.int (nI nb)) → sm_get lv1 6 = some (.int (nI f1)) → sm_get lv1 8 = some (.int (nI k)) → sm_get lv1 9 = some (.int (nI n)) → Bod (d + 8) 254 168 lv1 [] X v Sf := by
  intro rem
  induction rem with
  | zero =>
    intro n X hn hX hf
    have e : n = gv := by omega
    subst e
    exact ⟨X, hX, hf, rfl, fun _ _ _ => rfl, fun hc lv1 q0 q2 q4 q5 q6 q8 q9 => hc lv1 q0 q2 q4 q5 q6 q8 q9⟩
  | succ rem ih =>
    intro n X hn hX hf
    obtain ⟨o, o1, o2⟩ := hst (t0 + n) (by omega)
    have tX := hT X hX
    have ih1 := hi_ev (d := d + 6) (S := X) (b := gv - 1 - n) tX (by omega) ht
    have il1 := lo_ev (d := d + 6) (S := X) (b := gv - 1 - n) tX (by omega) ht
    have n7 := hX.2.2.2.2.2.2.1
    rw [show t - 1 - (gv - 1 - n) = t0 + n by omega, n7 47 (by omega)] at ih1
    rw [show t - 1 - (gv - 1 - n) = t0 + n by omega, n7 48 (by omega)] at il1
    obtain ⟨W, b1, b2, b3, b4, b5⟩ := fr_one (d := d + 5) hX hf hz2 (by omega) o1 (nbX_lv hX o2)
    obtain ⟨W2, c1, c2, c3, c4, c5⟩ := ih (n := n + 1) (by omega) b2 b5
    exact ⟨W2, c1, c2, c3.trans b3, fun b h4 h10 => (c4 b h4 h10).trans (b4 b h4 h10), fun hc lv1 q0 q2 q4 q5 q6 q8 q9 => mEnL_2 (d := d) q0 q2 q4 q5 q6 q8 q9 (by omega) (by omega) (by omega) (by omega) (by omega) (by omega) (by omega) (by omega) (by omega) ih1 (by omega) (by omega) il1 b1 (fun lv2 p0 p2 p4 p5 p6 p8 p9 => c5 hc lv2 p0 p2 p4 p5 p6 p8 p9)⟩
end
