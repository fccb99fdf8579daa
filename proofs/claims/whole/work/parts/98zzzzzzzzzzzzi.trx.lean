/-! FLOW ON BOTH SIDES: a try begins, a step (12 | 34) -/
section
variable {P : Nat → Prop} {T : cS} {gT : Nat} {Q : Nat → Prop} {β β' : Nat → Nat} {F : Nat → Nat → Nat → Prop} {loc par : Nat → Nat → Nat} {ty : Nat → Nat × Nat} {G : Nat → Nat → Nat → Nat × Nat × LL → Prop} {D D' K : List Nat} {z nn g0 g1 g3 g4 g5 gn d d' v n m p q p' q' P' Q' pT k e e1 oc ln tp rc i s t u2 b : Nat} {tq tq' : Nat → Nat × Nat} {C r : List Lv} {x : Lv} {S S' S1 S2 X W Sc Sr : cS} {w : Nat → Int32} {s' : Nat × Nat × LL} {St : (Nat → Prop) → cS → Prop} {ok : List Lv → Prop} {l2 : LL}
theorem XR_try (h : CI F loc par ty G tq (x :: r) S) (hX : XR P T gT Q β F D z nn g0 g1 g3 g4 g5 gn tq (x :: r) S Sr) (ht : t = vT x + vU x) : XR P T gT Q β F D z nn g0 g1 g3 g4 g5 gn (fun j => if j = t then (p', q') else tq j) (vAt x (vP x) (vQ x) (vH x, vU x + 1, ltr (vH x) (vL x)) :: r) S (wI 6163 (nI (t + 1)) (wA 103 t (nI (topC (x :: r) + offC (x :: r))) (wA 102 t (nI q') (wA 101 t (nI r.length) Sr)))) := by
  obtain ⟨W, hW⟩ : ∃ W, W = wI 6163 (nI (t + 1)) (wA 103 t (nI (topC (x :: r) + offC (x :: r))) (wA 102 t (nI q') (wA 101 t (nI r.length) Sr))) := ⟨_, rfl⟩
  have hs := h.2.2.1
  have hul : vU x = tms (vL x).1 := hs.2.1.1
  obtain ⟨a1, a2, a3, a4, a5, a6, a7, a8, a9, a10, a11⟩ := hX
  have hgs := a3.2.2.2.2.2.2.2.1
  have eI : ∀ j, j ≠ 6163 → sI W j = sI Sr j := fun j hj => by rw [hW, rI, if_neg hj]; rfl
  have eA : ∀ a, a ≠ 101 → a ≠ 102 → a ≠ 103 → sA W a = sA Sr a := fun a c1 c2 c3 => by
    rw [hW]
    show (if a = 103 then _ else (if a = 102 then _ else (if a = 101 then _ else sA Sr a))) = sA Sr a
    rw [if_neg c3, if_neg c2, if_neg c1]
  have x1 : ∀ i, sA W 101 i = if i = t then nI r.length else sA Sr 101 i := fun i => by rw [hW]; rfl
  have x2 : ∀ i, sA W 102 i = if i = t then nI q' else sA Sr 102 i := fun i => by rw [hW]; rfl
  have x3 : ∀ i, sA W 103 i = if i = t then nI (topC (x :: r) + offC (x :: r)) else sA Sr 103 i := fun i => by rw [hW]; rfl
  have hN : tnE Sr W g0 g1 := ⟨eA g0 (nG_ne hgs.1 (by omega)) (nG_ne hgs.1 (by omega)) (nG_ne hgs.1 (by omega)), eA g1 (nG_ne hgs.2.1 (by omega)) (nG_ne hgs.2.1 (by omega)) (nG_ne hgs.2.1 (by omega)), by rw [hW]; rfl, by rw [hW]; rfl⟩
  have hM : rM Sr W := by
    rw [hW]
    exact rM_I (by omega) (rM_A ⟨by omega, by omega⟩ (rM_A ⟨by omega, by omega⟩ (rM_A ⟨by omega, by omega⟩ (rM.refl _))))
  have a4' : stkR β S Sr (vAt x (vP x) (vQ x) (vH x, vU x + 1, ltr (vH x) (vL x)) :: r) := a4
  have a5' : rCal β Sr (vAt x (vP x) (vQ x) (vH x, vU x + 1, ltr (vH x) (vL x)) :: r) := a5
  have a8' : lnC S Sr (vAt x (vP x) (vQ x) (vH x, vU x + 1, ltr (vH x) (vL x)) :: r) := a8
  have eL : sL W = sL Sr := by rw [hW]; rfl
  have eQ : sQ W = sQ Sr := by rw [hW]; rfl
  have eS : sS W = sS Sr := by rw [hW]; rfl
  have eV : sV W = sV Sr := by rw [hW]; rfl
  have eJ : sJ W = sJ Sr := by rw [hW]; rfl
  have h63 : sI W 6163 = nI (vT x + (vU x + 1)) := by
    rw [hW, rIe, ht]
    rfl
  have er : rtC W = rtC Sr ∧ rtN W = rtN Sr ∧ mu W = mu Sr := by
    rw [hW]
    exact ⟨rfl, rfl, rfl⟩
  rw [← hW]
  refine ⟨HR_M hM hN a1, NMw_E a2 rfl rfl rfl rfl hN (eA g3 (nG_ne hgs.2.2.1 (by omega)) (nG_ne hgs.2.2.1 (by omega)) (nG_ne hgs.2.2.1 (by omega))) (by rw [eL]) (by rw [eL]), rTb_E a3 eS (fun i _ _ => by rw [eV]) (eI _ (by omega)), stkR_s a4' rfl rfl (eA 91 (by omega) (by omega) (by omega)) (by rw [eL]) (by rw [eL]), rCal_E a5' (by rw [eQ]) (fun a ha => eA a (fun c => by rw [c] at ha; revert ha; decide) (fun c => by rw [c] at ha; revert ha; decide) (fun c => by rw [c] at ha; revert ha; decide)), ⟨by rw [eI _ (by omega)]; exact a6.1, by rw [eI _ (by omega)]; exact a6.2.1, h63⟩, ⟨fun e y l'' hl => ?_, ?_⟩, lnC_E a8' rfl rfl (eA 98 (by omega) (by omega) (by omega)), ?_, ?_, a11⟩
  · show sA W 101 (vT x + tms l'') = nI r.length ∧ sA W 102 (vT x + tms l'') = nI ((fun j => if j = t then (p', q') else tq j) (vT x + tms l'')).2 ∧ sA W 103 (vT x + tms l'') = nI (vB x + y + offC (x :: r))
    rcases ltr_sp hl with ⟨_, c2, c3⟩ | ⟨e', c2⟩
    · subst c3
      have et : vT x + tms (vL x).1 = t := by omega
      rw [et, x1, x2, x3, if_pos rfl, if_pos rfl, if_pos rfl, c2]
      dsimp only
      rw [if_pos rfl]
      exact ⟨rfl, rfl, rfl⟩
    · have hlt := tms_lt (y := y) (l'' := l'') (e := e')
      rw [← c2] at hlt
      obtain ⟨b1, b2, b3⟩ := a7.1 e' y l'' c2
      dsimp only
      rw [if_neg (by omega), x1, x2, x3, if_neg (by omega), if_neg (by omega), if_neg (by omega)]
      exact ⟨b1, b2, b3⟩
  · cases r with
    | nil => trivial
    | cons y r =>
      obtain ⟨⟨_, _, _, _, _, _, _, h8, _⟩, hc2⟩ := h.2.2.2.2.1
      refine triX_up (b := t) (Sr := Sr) (tq := tq) (fun a ha i hi => ?_) (fun j hj => if_neg (by omega)) hc2 hs.2.2 (fun x' hx' => by
        have e := Option.some.inj hx'
        subst e
        omega) a7.2
      simp only [List.mem_cons, List.not_mem_nil, or_false] at ha
      rcases ha with c | c | c
      · rw [c, x1, if_neg (by omega)]
      · rw [c, x2, if_neg (by omega)]
      · rw [c, x3, if_neg (by omega)]
  · obtain ⟨⟨b1, b2⟩, ⟨o, o1, o2, o3, o4⟩, u, u1, u2⟩ := a9
    exact ⟨⟨by rw [eI _ (by omega)]; exact b1, by rw [eI _ (by omega)]; exact b2⟩, ⟨o, o1, o2, by rw [eI _ (by omega)]; exact o3, fun i hi => by rw [eA 106 (by omega) (by omega) (by omega)]; exact o4 i hi⟩, u, u1, by rw [eI _ (by omega)]; exact u2⟩
  · obtain ⟨b1, b2, b3, ⟨l, b4⟩, b5, b6, b7, b8, b9⟩ := a10
    exact ⟨eJ.trans b1, fun j hj => by rw [eI _ (by omega)]; exact b2 j hj, fun i hi hn => by rw [eV]; exact b3 i hi hn, ⟨l, by rw [eS]; exact b4⟩, fun a ha => ⟨by rw [eA a (by have := (a11.1 a ha).2; omega) (by have := (a11.1 a ha).2; omega) (by have := (a11.1 a ha).2; omega)]; exact (b5 a ha).1, by rw [eL]; exact (b5 a ha).2⟩, fun b h1 h2 => by rw [eQ]; exact b6 b h1 h2, fun m zm hm hs j hj => ⟨by rw [eI _ (by omega)]; exact (b7 m zm hm hs j hj).1, by rw [eV]; exact (b7 m zm hm hs j hj).2⟩, by rw [er.2.2, er.1]; exact b8, by rw [eS, er.2.1]; exact b9⟩
end
