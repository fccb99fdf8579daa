/-! FLOW ON BOTH SIDES: a try begins (12 | 34) -/
section
variable {P : Nat → Prop} {T : cS} {gT : Nat} {Q : Nat → Prop} {β β' : Nat → Nat} {F : Nat → Nat → Nat → Prop} {loc par : Nat → Nat → Nat} {ty : Nat → Nat × Nat} {G : Nat → Nat → Nat → Nat × Nat × LL → Prop} {D D' K : List Nat} {z nn g0 g1 g3 g4 g5 gn d d' v n m p q p' q' P' Q' pT k e e1 oc ln tp rc i s t u2 b : Nat} {tq tq' : Nat → Nat × Nat} {C r : List Lv} {x : Lv} {S S' S1 S2 X W Sc Sr : cS} {w : Nat → Int32} {s' : Nat × Nat × LL} {St : (Nat → Prop) → cS → Prop} {ok : List Lv → Prop} {l2 : LL}
theorem tms_lt {y : Nat} {l'' : List (Nat × Nat)} : ∀ {e : List (Nat × Nat)}, tms l'' < tms (e ++ (y, 0) :: l'') := by
  intro e
  induction e with
  | nil =>
    show tms l'' < (if (0 : Nat) = 0 then 1 else 0) + tms l''
    rw [if_pos rfl]
    omega
  | cons a e ih =>
    show tms l'' < (if a.2 = 0 then 1 else 0) + tms (e ++ (y, 0) :: l'')
    omega
/-- tries above do not touch those below -/
theorem triC_up (hA : ∀ i, i < 3 * b → sA S' 60 i = sA S 60 i) (hq : ∀ j, j < b → tq' j = tq j) : ∀ {C : List Lv}, cCal Sc C → stkC Sc C → (∀ x, C.head? = some x → vT x + vU x ≤ b) → triC G tq S C → triC G tq' S' C := by
  intro C
  induction C with
  | nil => intro _ _ _ _; trivial
  | cons y r ih =>
    intro hc hs hb ht
    have h1 := hb y rfl
    have hu : vU y = tms (vL y).1 := hs.2.1.1
    refine ⟨fun e z l'' hl => ?_, ?_⟩
    · have hlt := tms_lt (y := z) (l'' := l'') (e := e)
      rw [← hl] at hlt
      obtain ⟨a1, a2, a3, a4, a5, a6⟩ := ht.1 e z l'' hl
      have ej := hq (vT y + tms l'') (by omega)
      rw [ej, hA _ (by omega), hA _ (by omega), hA _ (by omega)]
      exact ⟨a1, a2, a3, a4, a5, a6⟩
    · cases r with
      | nil => trivial
      | cons y2 r =>
        obtain ⟨⟨_, _, _, _, _, _, _, h8, _⟩, hc2⟩ := hc
        exact ih hc2 hs.2.2 (fun x hx => by
          have e := Option.some.inj hx
          subst e
          omega) ht.2
theorem triX_up (hA : ∀ a, a ∈ [101, 102, 103] → ∀ i, i < b → sA W a i = sA Sr a i) (hq : ∀ j, j < b → tq' j = tq j) : ∀ {C : List Lv}, cCal Sc C → stkC Sc C → (∀ x, C.head? = some x → vT x + vU x ≤ b) → triX tq Sr C → triX tq' W C := by
  intro C
  induction C with
  | nil => intro _ _ _ _; trivial
  | cons y r ih =>
    intro hc hs hb ht
    have h1 := hb y rfl
    have hu : vU y = tms (vL y).1 := hs.2.1.1
    refine ⟨fun e z l'' hl => ?_, ?_⟩
    · have hlt := tms_lt (y := z) (l'' := l'') (e := e)
      rw [← hl] at hlt
      obtain ⟨a1, a2, a3⟩ := ht.1 e z l'' hl
      have ej := hq (vT y + tms l'') (by omega)
      rw [ej, hA 101 (by decide) _ (by omega), hA 102 (by decide) _ (by omega), hA 103 (by decide) _ (by omega)]
      exact ⟨a1, a2, a3⟩
    · cases r with
      | nil => trivial
      | cons y2 r =>
        obtain ⟨⟨_, _, _, _, _, _, _, h8, _⟩, hc2⟩ := hc
        exact ih hc2 hs.2.2 (fun x hx => by
          have e := Option.some.inj hx
          subst e
          omega) ht.2
theorem lbo_tr (hb : lbo (vS x)) (hu : vU x + 1 ≤ 10) : lbo (vH x, vU x + 1, ltr (vH x) (vL x)) := by
  obtain ⟨l1, l2, l3, l4, l5⟩ := hb
  have l1' : vU x = tms (vL x).1 := l1
  refine ⟨?_, ⟨l3, l2⟩, Nat.le_refl _, l4, hu⟩
  show vU x + 1 = (if (0 : Nat) = 0 then 1 else 0) + tms (vL x).1
  rw [if_pos rfl]
  omega
theorem mkOk_tr {h' : Nat} (hm : mkOk S (vB x) (vH x) (vL x)) : mkOk S (vB x) (vH x) (ltr h' (vL x)) := by
  refine ⟨fun i hi => ⟨(hm.1 i hi).1, fun c => List.mem_cons_of_mem _ ((hm.1 i hi).2 c)⟩, fun y hy => hm.2 y ?_⟩
  have hy' : (y, 2) ∈ (h', 0) :: (vL x).1 := hy
  rcases List.mem_cons.mp hy' with c | c
  · injection c with _ c2
    exact absurd c2 (by omega)
  · exact c
/-- the label's tries behind a new one -/
theorem ltr_sp {h' y : Nat} {l : LL} {e l'' : List (Nat × Nat)} (hl : (ltr h' l).1 = e ++ (y, 0) :: l'') : (e = [] ∧ y = h' ∧ l'' = l.1) ∨ ∃ e', l.1 = e' ++ (y, 0) :: l'' := by
  have hl' : (h', 0) :: l.1 = e ++ (y, 0) :: l'' := hl
  cases e with
  | nil =>
    have h2 : (h', 0) :: l.1 = (y, 0) :: l'' := hl'
    injection h2 with c1 c2
    injection c1 with c3 _
    exact Or.inl ⟨rfl, c3.symm, c2.symm⟩
  | cons a e =>
    have h2 : (h', 0) :: l.1 = a :: (e ++ (y, 0) :: l'') := hl'
    injection h2 with _ c2
    exact Or.inr ⟨e, c2⟩
theorem CI_try (h : CI F loc par ty G tq (x :: r) S) (hu : vU x + 1 ≤ 10) (hp' : p' < 2 ^ 20) (hq' : q' < 2 ^ 20) (hG : G (vM x) p' q' (vH x + 1000, vU x, vL x)) (ht : t = vT x + vU x) (p q : Nat) : CI F loc par ty G (fun j => if j = t then (p', q') else tq j) (vAt x p q (vH x, vU x + 1, ltr (vH x) (vL x)) :: r) (wI 5214 (nI (t + 1)) (wA 60 (3 * t + 2) (nI r.length) (wA 60 (3 * t + 1) (nI (topC (x :: r))) (wA 60 (3 * t) (nI p') S)))) := by
  obtain ⟨W, hW⟩ : ∃ W, W = wI 5214 (nI (t + 1)) (wA 60 (3 * t + 2) (nI r.length) (wA 60 (3 * t + 1) (nI (topC (x :: r))) (wA 60 (3 * t) (nI p') S))) := ⟨_, rfl⟩
  have h60 : ∀ i, sA W 60 i = if i = 3 * t + 2 then nI r.length else if i = 3 * t + 1 then nI (topC (x :: r)) else if i = 3 * t then nI p' else sA S 60 i := fun i => by
    rw [hW]
    show va_up (va_up (va_up (sA S 60) (3 * t) (nI p')) (3 * t + 1) (nI (topC (x :: r)))) (3 * t + 2) (nI r.length) i = _
    unfold va_up
    rfl
  have hF : FrL [5214] [60] [] S W := by
    rw [hW]
    refine ⟨rfl, fun _ _ => rfl, rfl, rfl, rfl, rfl, fun i hi => by rw [rI, if_neg (fun c => hi (List.mem_singleton.mpr c))]; rfl, fun a ha => ?_⟩
    have hne : a ≠ 60 := fun c => ha (List.mem_singleton.mpr c)
    show (if a = 60 then _ else (if a = 60 then _ else (if a = 60 then _ else sA S a))) = sA S a
    rw [if_neg hne, if_neg hne, if_neg hne]
  have hs := h.2.2.1
  have hul : vU x = tms (vL x).1 := hs.2.1.1
  rw [← hW]
  refine CI_tr h hF (mkOk_tr hs.1) (lbo_tr hs.2.1 hu) (by rw [hW, rIe, ht]; rfl) rfl ⟨fun e y l'' hl => ?_, ?_⟩
  · show ((fun j => if j = t then (p', q') else tq j) (vT x + tms l'')).1 < 2 ^ 20 ∧ ((fun j => if j = t then (p', q') else tq j) (vT x + tms l'')).2 < 2 ^ 20 ∧ sA W 60 (3 * (vT x + tms l'')) = nI ((fun j => if j = t then (p', q') else tq j) (vT x + tms l'')).1 ∧ sA W 60 (3 * (vT x + tms l'') + 1) = nI (vB x + y) ∧ sA W 60 (3 * (vT x + tms l'') + 2) = nI r.length ∧ G (vM x) ((fun j => if j = t then (p', q') else tq j) (vT x + tms l'')).1 ((fun j => if j = t then (p', q') else tq j) (vT x + tms l'')).2 (y + 1000, tms l'', (l'', (vL x).2))
    rcases ltr_sp hl with ⟨_, c2, c3⟩ | ⟨e', c2⟩
    · subst c3
      have et : vT x + tms (vL x).1 = t := by omega
      rw [et]
      dsimp only
      rw [if_pos rfl, h60, h60, h60, if_neg (by omega), if_neg (by omega), if_pos rfl, if_neg (by omega), if_pos rfl, if_pos rfl, c2]
      exact ⟨hp', hq', rfl, rfl, rfl, by rw [← hul]; exact hG⟩
    · have hlt := tms_lt (y := y) (l'' := l'') (e := e')
      rw [← c2] at hlt
      obtain ⟨a1, a2, a3, a4, a5, a6⟩ := h.2.2.2.2.2.2.2.1.1 e' y l'' c2
      dsimp only
      rw [if_neg (by omega), h60, h60, h60, if_neg (by omega), if_neg (by omega), if_neg (by omega), if_neg (by omega), if_neg (by omega), if_neg (by omega), if_neg (by omega), if_neg (by omega), if_neg (by omega)]
      exact ⟨a1, a2, a3, a4, a5, a6⟩
  · cases r with
    | nil => trivial
    | cons y r =>
      obtain ⟨⟨_, _, _, _, _, _, _, h8, _⟩, hc2⟩ := h.2.2.2.2.1
      exact triC_up (b := t) (S := S) (tq := tq) (fun i hi => by rw [h60, if_neg (by omega), if_neg (by omega), if_neg (by omega)]) (fun j hj => if_neg (by omega)) hc2 hs.2.2 (fun x' hx' => by
        have e := Option.some.inj hx'
        subst e
        omega) h.2.2.2.2.2.2.2.1.2
end
