/-! FLOW ON BOTH SIDES: tries left (13 | 35 so many times); what tries change of the class -/
section
variable {P : Nat → Prop} {T : cS} {gT : Nat} {Q : Nat → Prop} {β β' : Nat → Nat} {F : Nat → Nat → Nat → Prop} {loc par : Nat → Nat → Nat} {ty : Nat → Nat × Nat} {G : Nat → Nat → Nat → Nat × Nat × LL → Prop} {D D' K : List Nat} {z nn g0 g1 g3 g4 g5 gn d d' v n m p q p' q' P' Q' pT k e e1 oc ln tp rc i s t u2 : Nat} {tq tq' : Nat → Nat × Nat} {C r : List Lv} {x : Lv} {S S' S1 S2 X W Sc Sr : cS} {w : Nat → Int32} {s' : Nat × Nat × LL} {St : (Nat → Prop) → cS → Prop} {ok : List Lv → Prop} {l2 : LL}
/-- the class with other tries -/
theorem CI_tr (h : CI F loc par ty G tq (x :: r) S) (hF : FrL [5214] [60] [] S S') (hm : mkOk S (vB x) (vH x) l2) (hb : lbo (vH x, u2, l2)) (h14 : sI S' 5214 = nI (vT x + u2)) (hs : l2.2 = (vL x).2) (htri : triC G tq' S' (vAt x p q (vH x, u2, l2) :: r)) : CI F loc par ty G tq' (vAt x p q (vH x, u2, l2) :: r) S' := by
  obtain ⟨a1, a2, a3, a4, a5, a6, a7, a8, a9⟩ := h
  have eA : ∀ a, a ≠ 60 → sA S' a = sA S a := fun a ha => hF.A (fun c => ha (List.mem_singleton.mp c))
  have eI : ∀ i, i ≠ 5214 → sI S' i = sI S i := fun i hi => hF.I (fun c => hi (List.mem_singleton.mp c))
  have eL : ∀ a, sL S' a = sL S a := fun a => hF.2.1 a List.not_mem_nil
  have hmH := mHS_F a1 hF (fun i hi c => by rw [List.mem_singleton] at hi; subst hi; revert c; decide) (fun a ha c => by rw [List.mem_singleton] at ha; subst ha; revert c; decide) (fun a ha => by cases ha)
  have hl : ∀ k, lv S' k ↔ lv S k := fun k => by unfold lv; rw [eA 3 (by decide)]
  have hE : ∀ k, lv S k → obE S S' k := fun k hk => by
    obtain ⟨r1, r2⟩ := FrL_row hF (fun a ha => by cases ha) (mHS_ok a1 k hk.1 hk.2.1)
    exact obE_of (by rw [eA 3 (by decide)]) (by rw [eA 7 (by decide)]) (by rw [eA 8 (by decide)]) (by rw [eA 9 (by decide)]) (by rw [eA 10 (by decide)]) r1 r2
  refine ⟨hmH, fun k a hk hq => ?_, ?_, fun k hk => ?_, ?_, ?_, ?_, htri, fun q hq => by rw [eL 21]; exact a9 q hq⟩
  · rw [hF.2.2.2.1] at hq
    rw [hF.2.2.2.2.1]
    exact a2 k a hk hq
  · have h3 : stkC S (vAt x p q (vH x, u2, l2) :: r) := ⟨hm, hb, a3.2.2⟩
    refine stkC_K (n := topC (x :: r)) h3 (fun y hy => ?_) (fun i _ => by rw [eL 47, eL 48]; exact ⟨rfl, rfl⟩) hmH.2.2.2.2.1 (fun o _ => by rw [eA 3 (by decide)])
    rcases List.mem_cons.mp hy with e | hy
    · rw [e]; exact Nat.le_refl _
    · have := cCal_lo a5 y hy
      show _ ≤ vB x + vH x
      omega
  · have hk' := (hl k).mp hk
    obtain ⟨b1, b2⟩ := a4 k hk'
    exact ⟨tyO_K b1 (hE k hk') (fun o ho => ⟨fun _ => (hl o).mpr ho, fun _ => by rw [eA 3 (by decide)]⟩), vlO_K b2 (hE k hk')⟩
  · have h5 : cCal S (vAt x p q (vH x, u2, l2) :: r) := by
      cases r with
      | nil => exact a5
      | cons y r => exact a5
    exact cCal_E h5 (fun a ha => eA a (fun c => by subst c; revert ha; decide))
  · have h6 : lvOk G ty S (vAt x p q (vH x, u2, l2) :: r) := by
      obtain ⟨c1, c2, c3⟩ := a6
      rw [← hs] at c1 c2
      exact ⟨c1, c2, c3⟩
    exact lvOk_K h6 (fun y hy => by
      obtain ⟨c1, c2⟩ := gC_pos hy
      exact ⟨fun c => hmH.2.2.2.2.2.2.1 _ (c1 c), fun c => hmH.2.2.2.2.2.2.1 _ (c2 c)⟩) (fun o _ => by rw [eA 3 (by decide)])
  · obtain ⟨b1, b2, b3, b4⟩ := a7
    exact ⟨by rw [eI 5213 (by decide)]; exact b1, h14, by rw [eI 5215 (by decide)]; exact b3, b4⟩
theorem tms_dr : ∀ {n : Nat} {l : List (Nat × Nat)}, n ≤ l.length → (∀ y, y ∈ l.take n → y.2 = 0) → tms l = n + tms (l.drop n) := by
  intro n
  induction n with
  | zero => intro l _ _; rw [List.drop_zero]; omega
  | succ n ih =>
    intro l h1 h2
    cases l with
    | nil => exact absurd h1 (by rw [List.length_nil]; omega)
    | cons y l =>
      have hy : y.2 = 0 := h2 y (by rw [List.take_succ_cons]; exact List.mem_cons_self)
      have := ih (l := l) (by rw [List.length_cons] at h1; omega) (fun y hy => h2 y (by rw [List.take_succ_cons]; exact List.mem_cons_of_mem _ hy))
      show (if y.2 = 0 then 1 else 0) + tms l = n + 1 + tms (l.drop n)
      rw [if_pos hy, this]
      omega
theorem srt_dr {s : Nat} : ∀ {n : Nat} {l : List (Nat × Nat)}, srt l → srt (l.drop n) ∧ lob (l.drop n, s) ≤ lob (l, s) := by
  intro n
  induction n with
  | zero => intro l h; rw [List.drop_zero]; exact ⟨h, Nat.le_refl _⟩
  | succ n ih =>
    intro l h
    cases l with
    | nil => exact ⟨h, Nat.le_refl _⟩
    | cons y l =>
      obtain ⟨c1, c2⟩ := ih (l := l) h.2
      have h1 : lob (l, s) ≤ y.1 := h.1
      refine ⟨c1, ?_⟩
      show lob (l.drop n, s) ≤ y.1 + y.2
      omega
/-- a label with so many tries fewer -/
theorem lbo_dr (hb : lbo (vS x)) (hn : tmk (vL x) n) : lbo (vH x, vU x - n, ldr n (vL x)) ∧ n ≤ vU x ∧ vU x - n = tms ((vL x).1.drop n) := by
  obtain ⟨l1, l2, l3, l4, l5⟩ := hb
  have e := tms_dr hn.1 hn.2
  have l1' : vU x = tms (vL x).1 := l1
  obtain ⟨c1, c2⟩ := srt_dr (n := n) (s := (vL x).2) (l := (vL x).1) l2
  have l3' : lob (vL x) ≤ vH x := l3
  have l5' : vU x ≤ 10 := l5
  refine ⟨⟨by show vU x - n = tms ((vL x).1.drop n); omega, c1, ?_, l4, by show vU x - n ≤ 10; omega⟩, by omega, by omega⟩
  show lob ((vL x).1.drop n, (vL x).2) ≤ vH x
  have : lob ((vL x).1, (vL x).2) = lob (vL x) := rfl
  omega
theorem mkOk_dr (hm : mkOk S (vB x) (vH x) (vL x)) (hn : tmk (vL x) n) : mkOk S (vB x) (vH x) (ldr n (vL x)) := by
  have hsub : ∀ y, y ∈ (vL x).1.drop n → y ∈ (vL x).1 := fun y hy => List.mem_of_mem_drop hy
  refine ⟨fun i hi => ⟨(hm.1 i hi).1, fun c => ?_⟩, fun y hy => hm.2 y (hsub _ hy)⟩
  have h1 := (hm.1 i hi).2 c
  rw [← List.take_append_drop n (vL x).1] at h1
  rcases List.mem_append.mp h1 with c1 | c1
  · exact absurd (hn.2 _ c1) (by show (1 : Nat) ≠ 0; omega)
  · exact c1
theorem CI_un (h : CI F loc par ty G tq (x :: r) S) (hn : tmk (vL x) n) (p q : Nat) : CI F loc par ty G tq (vAt x p q (vH x, vU x - n, ldr n (vL x)) :: r) (wI 5214 (nI (vT x + (vU x - n))) S) := by
  obtain ⟨b1, b2, b3⟩ := lbo_dr h.2.2.1.2.1 hn
  refine CI_tr h ⟨rfl, fun _ _ => rfl, rfl, rfl, rfl, rfl, fun i hi => by rw [rI, if_neg (fun c => hi (List.mem_singleton.mpr c))], fun _ _ => rfl⟩ (mkOk_dr h.2.2.1.1 hn) b1 (rIe _ _ _) rfl ?_
  obtain ⟨c1, c2⟩ := h.2.2.2.2.2.2.2.1
  refine ⟨fun e' y l'' hl'' => ?_, triC_E c2 rfl⟩
  have hl3 : (vL x).1.drop n = e' ++ (y, 0) :: l'' := hl''
  exact c1 ((vL x).1.take n ++ e') y l'' (by rw [List.append_assoc, ← hl3, List.take_append_drop])
/-- one try fewer of the reference -/
theorem XR_un (hX : XR P T gT Q β F D z nn g0 g1 g3 g4 g5 gn tq (x :: r) S Sr) (hn : tmk (vL x) n) (hb : n ≤ vU x) : XR P T gT Q β F D z nn g0 g1 g3 g4 g5 gn tq (vAt x (vP x) (vQ x) (vH x, vU x - n, ldr n (vL x)) :: r) S (wI 6163 (nI (vT x + (vU x - n))) Sr) := by
  obtain ⟨a1, a2, a3, a4, a5, a6, a7, a8, a9, a10, a11⟩ := hX
  have eI : ∀ j, j ≠ 6163 → sI (wI 6163 (nI (vT x + (vU x - n))) Sr) j = sI Sr j := fun j hj => if_neg hj
  have hN : tnE Sr (wI 6163 (nI (vT x + (vU x - n))) Sr) g0 g1 := ⟨rfl, rfl, rfl, rfl⟩
  have a4' : stkR β S Sr (vAt x (vP x) (vQ x) (vH x, vU x - n, ldr n (vL x)) :: r) := a4
  have a5' : rCal β Sr (vAt x (vP x) (vQ x) (vH x, vU x - n, ldr n (vL x)) :: r) := a5
  have a8' : lnC S Sr (vAt x (vP x) (vQ x) (vH x, vU x - n, ldr n (vL x)) :: r) := a8
  refine ⟨HR_M (rM_I (by omega) (rM.refl _)) hN a1, NMw_E a2 rfl rfl rfl rfl hN rfl rfl rfl, rTb_E a3 rfl (fun _ _ _ => rfl) (eI _ (by omega)), stkR_s a4' rfl rfl rfl rfl rfl, rCal_E a5' rfl (fun _ _ => rfl), ⟨by rw [eI _ (by omega)]; exact a6.1, by rw [eI _ (by omega)]; exact a6.2.1, rIe _ _ _⟩, ?_, lnC_E a8' rfl rfl rfl, ?_, ?_, a11⟩
  · obtain ⟨c1, c2⟩ := a7
    refine ⟨fun e' y l'' hl'' => ?_, triX_E c2 (fun _ _ => rfl)⟩
    have hl3 : (vL x).1.drop n = e' ++ (y, 0) :: l'' := hl''
    exact c1 ((vL x).1.take n ++ e') y l'' (by rw [List.append_assoc, ← hl3, List.take_append_drop])
  · obtain ⟨⟨b1, b2⟩, ⟨o, o1, o2, o3, o4⟩, u, u1, u2⟩ := a9
    exact ⟨⟨by rw [eI _ (by omega)]; exact b1, by rw [eI _ (by omega)]; exact b2⟩, ⟨o, o1, o2, by rw [eI _ (by omega)]; exact o3, o4⟩, u, u1, by rw [eI _ (by omega)]; exact u2⟩
  · obtain ⟨b1, b2, b3, b4, b5, b6, b7, b8, b9⟩ := a10
    exact ⟨b1, fun j hj => by rw [eI _ (by omega)]; exact b2 j hj, b3, b4, b5, b6, fun m zm hm hs j hj => ⟨by rw [eI _ (by omega)]; exact (b7 m zm hm hs j hj).1, (b7 m zm hm hs j hj).2⟩, b8, b9⟩
end
