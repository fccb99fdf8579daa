/-! CALLS: the frame on both sides; a step that may end behind the beginning of a call -/
/-- the next thing of the top call is a statement: its line is yet to be told -/
def lnXy (w : Nat → Int32) (C : List Lv) : Prop := C ≠ [] ∧ w (hP C) = nI 1
/-- both machines agree, but for the line of a call that has just begun -/
def XRl (P : Nat → Prop) (T : cS) (gT : Nat) (Q : Nat → Prop) (β : Nat → Nat) (F : Nat → Nat → Nat → Prop) (D : List Nat) (z nn g0 g1 g3 g4 g5 gn : Nat) (tq : Nat → Nat × Nat) (w : Nat → Int32) (C : List Lv) (Sc Sr : cS) : Prop := XR P T gT Q β F D z nn g0 g1 g3 g4 g5 gn tq C Sc Sr ∨ (lnXy w C ∧ ∀ e, e < 2 ^ 20 → XR P T gT Q β F D z nn g0 g1 g3 g4 g5 gn tq C (wI 5217 (nI e) Sc) (wA 98 (C.length - 1) (nI e) Sr))
/-- a step of both that may end behind the beginning of a call -/
def stpl (St : (Nat → Prop) → cS → Prop) (F : Nat → Nat → Nat → Prop) (loc par : Nat → Nat → Nat) (G : Nat → Nat → Nat → Nat × Nat × LL → Prop) (tq : Nat → Nat × Nat) (w : Nat → Int32) (pT d : Nat) (C : List Lv) (S : cS) (ok : List Lv → Prop) : Prop :=
  (∃ (ty' : Nat → Nat × Nat) (tq' : Nat → Nat × Nat) (C' : List Lv) (S' : cS), ok C' ∧ tnC d S S' ∧ CI F loc par ty' G tq' C' S' ∧ (sI S' 5216 = nI (hP C') ∧ PC w pT S' ∧ clk S' ∧ CFw S S') ∧ ∀ P T gT Q β D z nn g0 g1 g3 g4 g5 gn Sr, St P T → XR P T gT Q β F D z nn g0 g1 g3 g4 g5 gn tq C S Sr → ∃ Q' β' D' nn' h0 h1 h3 h4 h5 hn W, (∃ n, rRn (d + 1) n Sr 1 W) ∧ XRl P T gT Q' β' F D' z nn' h0 h1 h3 h4 h5 hn tq' w C' S' W) ∨ ∃ (e : Nat) (ty' : Nat → Nat × Nat) (x' : Lv) (r' : List Lv) (S' : cS), (1 ≤ e ∧ e ≤ 100) ∧ tnE' d S S' e ∧ CI F loc par ty' G tq (x' :: r') S' ∧ (PC w pT S' ∧ clk S' ∧ CFw S S') ∧ ∀ P T gT Q β D z nn g0 g1 g3 g4 g5 gn Sr, St P T → XR P T gT Q β F D z nn g0 g1 g3 g4 g5 gn tq C S Sr → ∃ Q' β' D' nn' h0 h1 h3 h4 h5 hn W, (∃ n, rRn (d + 1) n Sr 0 W) ∧ sI W 6164 = nI e ∧ XRe P T gT Q' β' F D' z nn' h0 h1 h3 h4 h5 hn tq x' r' S' W
/-- the top call is at a good place -/
def okG (G : Nat → Nat → Nat → Nat × Nat × LL → Prop) : List Lv → Prop
  | [] => False
  | y :: _ => G (vM y) (vP y) (vQ y) (vS y)
/-- what both sides know of the functions of a text -/
def fnOK (St : (Nat → Prop) → cS → Prop) (F : Nat → Nat → Nat → Prop) (loc : Nat → Nat → Nat) (G : Nat → Nat → Nat → Nat × Nat × LL → Prop) (w : Nat → Int32) (S : cS) : Prop := ∀ f m j, F f m j → 108 ≤ m → ∃ np nl st qt, (sA S 28 f = nI np ∧ sA S 29 f = nI nl ∧ sA S 27 f = nI st) ∧ (np ≤ nl ∧ nl < 2 ^ 20 ∧ st < 2 ^ 20 ∧ qt < 2 ^ 20) ∧ loc m (j + 1) = nl ∧ G m st qt (0, 0, ([], j + 1)) ∧ w st = nI 1 ∧ ∀ P T, St P T → riT P T m 9 j (nI np) ∧ riT P T m 10 j (nI nl) ∧ riT P T m 8 j (nI qt)
section
variable {P : Nat → Prop} {T : cS} {gT : Nat} {Q : Nat → Prop} {β β' : Nat → Nat} {F : Nat → Nat → Nat → Prop} {loc par : Nat → Nat → Nat} {ty : Nat → Nat × Nat} {G : Nat → Nat → Nat → Nat × Nat × LL → Prop} {D D' K : List Nat} {z nn g0 g1 g3 g4 g5 gn d n m p q p' q' pT k e e1 oc ln a nl t t' r0 se gv f1 t0 u0 i s f fn np st qt j : Nat} {tq : Nat → Nat × Nat} {C r : List Lv} {x : Lv} {S S' S0 S1 X W Sc Sr : cS} {w : Nat → Int32} {l' : List (Nat × Nat)} {St : (Nat → Prop) → cS → Prop} {ok : List Lv → Prop} {V : Nat → Int32 × Int64 × Int64}
theorem stp_l (h : stp St F loc par G tq w pT d C S ok) : stpl St F loc par G tq w pT d C S ok := by
  rcases h with ⟨ty', tq', C', S', h1, h2, h3, h4, h5⟩ | h
  · refine Or.inl ⟨ty', tq', C', S', h1, h2, h3, h4, fun P T gT Q β D z nn g0 g1 g3 g4 g5 gn Sr hS hX => ?_⟩
    obtain ⟨Q', β', D', nn', h0, h1', h3', h4', h5', hn, W, a1, a2⟩ := h5 P T gT Q β D z nn g0 g1 g3 g4 g5 gn Sr hS hX
    exact ⟨Q', β', D', nn', h0, h1', h3', h4', h5', hn, W, a1, Or.inl a2⟩
  · exact Or.inr h
/-- the frame of both, as objects -/
theorem obR_frm (h3 : sA S' 3 k = nI 7) (h7 : sA S' 7 k = nI a) (h8 : sA S' 8 k = nI 0) (hn : h_n S' k = nl) (hfr : frT β W r0 t' nl a V) (hbk : β' k = r0) (hr : r0 < 1500) (h87 : sA W 87 r0 = nI 1) (hv : ∀ e, e < nl → vrel β' (h_hi S' k e) (h_lo S' k e) (V e).1 (V e).2.1 (V e).2.2) (ha : a = 0 ∨ (1 ≤ a ∧ a ≤ 1500)) (hba : a ≠ 0 → β' a = β a) : obR β' F S' W g0 g1 nn k := by
  obtain ⟨v2, v3, v4, v5, v6, v7, n, m, q1, q2, q3, q4, q5, q6, q7⟩ := hfr
  have k7 : h_kd S' k = 7 := kd_of h3 (by omega)
  refine ⟨by rw [hbk]; exact hr, by rw [hbk, h87]; decide, t', v2, v3, v4, v5, v6, v7, n, m, by rw [hbk]; exact q1, by rw [q2, h3], by rw [q3, hn], by rw [hn]; exact q4, fun i hi => ?_, fun c => ?_, ?_, ?_, fun c => ?_, fun c => ?_⟩
  · rw [hn] at hi
    obtain ⟨c1, c2, c3⟩ := q5 i hi
    rw [c1, c2, c3]
    exact hv i hi
  · rw [k7] at c
    exact absurd c (by decide)
  · rw [h7, q6]
    exact lkI_R ha hba
  · rw [h8, q7]
    exact Or.inl ⟨rfl, rfl⟩
  · rw [h3] at c
    exact absurd c (by decide)
  · rw [h3] at c
    exact absurd c (by decide)
/-- its values -/
theorem vr_frm (hf1 : f1 = f1O se) (hse : se ≠ 0 → 1 ≤ se ∧ se ≤ 1500 ∧ β' se = β se) (hv : ∀ n, n < gv → vrel β' (sL S 47 (t0 + n)) (sL S 48 (t0 + n)) (sA Sr 91 (u0 + n)) (sL Sr 92 (u0 + n)) (sL Sr 93 (u0 + n))) (e : Nat) : vrel β' (frH S se f1 gv t0 e) (frL S se f1 gv t0 e) (rfV Sr f1 gv u0 (lN (β se)) e).1 (rfV Sr f1 gv u0 (lN (β se)) e).2.1 (rfV Sr f1 gv u0 (lN (β se)) e).2.2 := by
  unfold frH frL rfV
  by_cases c : e < f1
  · rw [if_pos c, if_pos c, if_pos c]
    have s0 : se ≠ 0 := fun c0 => by
      rw [hf1, c0] at c
      exact absurd c (Nat.not_lt_zero e)
    obtain ⟨b1, b2, b3⟩ := hse s0
    rw [if_neg s0, if_neg s0]
    exact Or.inr (Or.inr (Or.inr (Or.inr (Or.inl ⟨se, b1, b2, rfl, rfl, rfl, by rw [b3]⟩))))
  · rw [if_neg c, if_neg c, if_neg c]
    by_cases c2 : e < f1 + gv
    · rw [if_pos c2, if_pos c2, if_pos c2]
      exact hv (e - f1) (by omega)
    · rw [if_neg c2, if_neg c2, if_neg c2]
      exact Or.inl ⟨rfl, rfl, rfl⟩
end
