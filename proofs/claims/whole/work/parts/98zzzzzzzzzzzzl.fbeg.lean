/-! FLOW ON BOTH SIDES: a loop begins (9 | 31) -/
section
variable {P : Nat → Prop} {T : cS} {gT : Nat} {Q : Nat → Prop} {β β' : Nat → Nat} {F : Nat → Nat → Nat → Prop} {loc par : Nat → Nat → Nat} {ty : Nat → Nat × Nat} {G : Nat → Nat → Nat → Nat × Nat × LL → Prop} {D D' K : List Nat} {z nn g0 g1 g3 g4 g5 gn d n m p q pT k e y o : Nat} {tq : Nat → Nat × Nat} {C r : List Lv} {x : Lv} {S S' S1 X W Sc Sr : cS} {w : Nat → Int32} {St : (Nat → Prop) → cS → Prop} {ok : List Lv → Prop} {kd : Int32} {hi lo a b : Int64}
theorem CI_lcn (h : CI F loc par ty G tq (x :: r) S) (hH : vH x = y + 2) (hl : lob (vL x) ≤ y) (ho : ∃ o, lv S o ∧ sA S 3 o = nI 1 ∧ sL S 47 (vB x + y) = 4611686018427387904 ∧ sL S 48 (vB x + y) = lN o) (hi : ∃ i, i ≤ 300 ∧ sL S 47 (vB x + (y + 1)) = 2305843009213693952 ∧ sL S 48 (vB x + (y + 1)) = lN i) (p q : Nat) : CI F loc par ty G tq (vAt x p q (vH x, vU x, lcn y (vL x)) :: r) S := by
  obtain ⟨a1, a2, a3, a4, a5, a6, a7, a8, a9⟩ := h
  obtain ⟨m1, m2, m3⟩ := a3
  obtain ⟨l1, l2, l3, l4, l5⟩ := m2
  refine ⟨a1, a2, ⟨⟨fun j hj => ⟨(m1.1 j hj).1, fun c => List.mem_cons_of_mem _ ((m1.1 j hj).2 c)⟩, fun z hz => ?_⟩, ⟨?_, ⟨hl, l2⟩, by show y + 2 ≤ vH x; omega, l4, l5⟩, m3⟩, a4, ?_, ?_, a7, ?_, a9⟩
  · have hz' : (z, 2) ∈ (y, 2) :: (vL x).1 := hz
    rcases List.mem_cons.mp hz' with c | c
    · injection c with c1 _
      subst c1
      exact ⟨ho, hi⟩
    · exact m1.2 z c
  · have l1' : vU x = tms (vL x).1 := l1
    show vU x = (if (2 : Nat) = 0 then 1 else 0) + tms (vL x).1
    rw [if_neg (by omega)]
    omega
  · cases r with
    | nil => exact a5
    | cons y r => exact a5
  · obtain ⟨c1, c2, c3⟩ := a6
    exact ⟨c1, c2, c3⟩
  · obtain ⟨c1, c2⟩ := a8
    refine ⟨fun e' z l'' hl'' => ?_, c2⟩
    have hl3 : (y, 2) :: (vL x).1 = e' ++ (z, 0) :: l'' := hl''
    cases e' with
    | nil =>
      have h2 : (y, 2) :: (vL x).1 = (z, 0) :: l'' := hl3
      injection h2 with h3 _
      injection h3 with _ h4
      exact absurd h4 (by omega)
    | cons a e' =>
      have h2 : (y, 2) :: (vL x).1 = a :: (e' ++ (z, 0) :: l'') := hl3
      injection h2 with _ h3
      exact c1 e' z l'' h3
theorem XR_lcn (hX : XR P T gT Q β F D z nn g0 g1 g3 g4 g5 gn tq (x :: r) S Sr) (p q : Nat) (hq : q = vQ x) : XR P T gT Q β F D z nn g0 g1 g3 g4 g5 gn tq (vAt x p q (vH x, vU x, lcn y (vL x)) :: r) S Sr := by
  subst hq
  obtain ⟨a1, a2, a3, a4, a5, a6, a7, a8, a9, a10, a11⟩ := hX
  refine ⟨a1, a2, a3, a4, a5, a6, ?_, a8, a9, a10, a11⟩
  obtain ⟨c1, c2⟩ := a7
  refine ⟨fun e' z l'' hl'' => ?_, c2⟩
  have hl3 : (y, 2) :: (vL x).1 = e' ++ (z, 0) :: l'' := hl''
  cases e' with
  | nil =>
    have h2 : (y, 2) :: (vL x).1 = (z, 0) :: l'' := hl3
    injection h2 with h3 _
    injection h3 with _ h4
    exact absurd h4 (by omega)
  | cons a e' =>
    have h2 : (y, 2) :: (vL x).1 = a :: (e' ++ (z, 0) :: l'') := hl3
    injection h2 with _ h3
    exact c1 e' z l'' h3
/-- an object on the stack is told in one way only -/
theorem vrel_o (h : vrel β hi lo kd a b) (h0 : c_kind hi ≠ 0) (ho : c_obj hi lo = nI o) (o0 : o ≠ 0) (o1 : o ≤ 1500) : hi = 4611686018427387904 ∧ lo = lN o := by
  have h4 := ob_k4 ho o0 o1
  obtain ⟨e, e4, ek, ec⟩ := vr_k h h0
  have e3 : e = 3 := by
    have := nI_j (i := e + 1) (j := 4) (by omega) (by omega) (ec.symm.trans h4)
    omega
  subst e3
  rcases h with ⟨_, _, c⟩ | ⟨_, _, c⟩ | ⟨_, c, _⟩ | ⟨c, _⟩ | ⟨k, k1, k2, c1, c2, _, _⟩ | ⟨q, _, _, _, c, _⟩
  · rw [ek] at c; exact absurd c (by decide)
  · rw [ek] at c; exact absurd c (by decide)
  · rw [ek] at c; exact absurd c (by decide)
  · rw [ek] at c; exact absurd c (by decide)
  · have hk := (ob_obj (k := k) k2).1
    rw [c1, c2] at ho
    have : k = o := nI_j (by omega) (by omega) (hk.symm.trans ho)
    exact ⟨c1, by rw [c2, this]⟩
  · rw [ek] at c; exact absurd c (by decide)
end
