/-! CALLS, THE CLASS: a call begins -/
section
variable {F : Nat → Nat → Nat → Prop} {loc par : Nat → Nat → Nat} {ty : Nat → Nat × Nat} {G : Nat → Nat → Nat → Nat × Nat × LL → Prop} {d n m p q k j f s o t i e z y u v kd md nb f1 gv fn se np nl st a ln : Nat} {l' : List (Nat × Nat)} {g g' : Nat → Nat} {tq : Nat → Nat × Nat} {r : List Lv} {x : Lv} {S S' S1 X W : cS} {hi lo : Int64}
/-- the registers of a call that begins -/
def entW (cl p ln b tr fr md op a : Nat) (S : cS) : cS := wI 5216 (nI a) (wI 5215 (nI op) (wI 5213 (nI (cl + 1)) (wA 59 cl (nI md) (wA 58 cl (nI fr) (wA 57 cl (nI tr) (wA 56 cl (nI b) (wA 55 cl (nI ln) (wA 54 cl (nI p) S))))))))
theorem entW_F {cl p ln b tr fr md op a : Nat} {S : cS} : FrL [5213, 5215, 5216] [54, 55, 56, 57, 58, 59] [] S (entW cl p ln b tr fr md op a S) := FrL_wI (by decide) (FrL_wI (by decide) (FrL_wI (by decide) (FrL_wA (by decide) (FrL_wA (by decide) (FrL_wA (by decide) (FrL_wA (by decide) (FrL_wA (by decide) (FrL_wA (by decide) (FrL.refl _ _ _ _)))))))))
theorem entW_A {cl p ln b tr fr md op a : Nat} {S : cS} : (∀ i, sA (entW cl p ln b tr fr md op a S) 54 i = if i = cl then nI p else sA S 54 i) ∧ (∀ i, sA (entW cl p ln b tr fr md op a S) 55 i = if i = cl then nI ln else sA S 55 i) ∧ (∀ i, sA (entW cl p ln b tr fr md op a S) 56 i = if i = cl then nI b else sA S 56 i) ∧ (∀ i, sA (entW cl p ln b tr fr md op a S) 57 i = if i = cl then nI tr else sA S 57 i) ∧ (∀ i, sA (entW cl p ln b tr fr md op a S) 58 i = if i = cl then nI fr else sA S 58 i) ∧ ∀ i, sA (entW cl p ln b tr fr md op a S) 59 i = if i = cl then nI md else sA S 59 i := ⟨fun _ => rfl, fun _ => rfl, fun _ => rfl, fun _ => rfl, fun _ => rfl, fun _ => rfl⟩
theorem cCal_X {C : List Lv} (h : cCal S C) (e : ∀ a, a ∈ [54, 56, 57, 58, 59] → ∀ i, i + 1 < C.length → sA S' a i = sA S a i) : cCal S' C := by
  induction C with
  | nil => exact h
  | cons x r ih =>
    cases r with
    | nil => exact h
    | cons y r =>
      obtain ⟨h1, h2⟩ := h
      have hl : r.length + 1 < (x :: y :: r).length := by simp only [List.length_cons]; omega
      exact ⟨by rw [e 54 (by decide) _ hl, e 56 (by decide) _ hl, e 57 (by decide) _ hl, e 58 (by decide) _ hl, e 59 (by decide) _ hl]; exact h1, ih h2 (fun a ha i hi => e a ha i (by rw [List.length_cons]; omega))⟩
/-- the class behind the beginning of a call -/
theorem enter_CI {ty' : Nat → Nat × Nat} (h : CIg k (fun q => gC (x :: r) q + dl md q + dl k q) F loc par ty' G tq (x :: r) X) (hm : mHS 0 (fun q => gC (x :: r) q + dl md q + dl k q) (vB x + i + 1) S1) (hK : KX [] X S1) (hL1 : sL S1 = sL X) (hx : vL x = ((i, 1) :: l', s)) (hi : vH x = i + 1 + gv) (hk : lv X k) (hk7 : sA X 3 k = nI 7) (hty : ty' k = (m, j + 1)) (hmd : md = 0 ∨ (lv X md ∧ sA X 3 md = nI 5)) (hG : G (vM x) (vP x) (vQ x) (i + 1, vU x, (l', s))) (hkc : c_kind (sL X 47 (vB x + i)) ≠ nI 5) (hr30 : r.length < 30) (hp : vP x < 2 ^ 20) : CI F loc par ty' G tq ((m, vB x + i + 1, k, md, vT x + vU x, (st, q), (0, 0, ([], j + 1))) :: vAt x (vP x) (vQ x) (i + 1, vU x, (l', s)) :: r) (entW r.length (vP x) ln (vB x + i) (vT x + vU x) (vF x) md k st S1) := by
  obtain ⟨a1, a2, a3, a4, a5, a6, a7, a8, a9⟩ := h
  obtain ⟨W, hW⟩ : ∃ W, W = entW r.length (vP x) ln (vB x + i) (vT x + vU x) (vF x) md k st S1 := ⟨_, rfl⟩
  rw [← hW]
  have hF : FrL [5213, 5215, 5216] [54, 55, 56, 57, 58, 59] [] S1 W := by rw [hW]; exact entW_F
  obtain ⟨w54, w55, w56, w57, w58, w59⟩ := entW_A (cl := r.length) (p := vP x) (ln := ln) (b := vB x + i) (tr := vT x + vU x) (fr := vF x) (md := md) (op := k) (a := st) (S := S1)
  rw [← hW] at w54 w55 w56 w57 w58 w59
  have hmW : mHS 0 (fun q => gC (x :: r) q + dl md q + dl k q) (vB x + i + 1) W := mHS_F hm hF (by decide) (by decide) (fun a ha => by cases ha)
  have hlk := lv_KX hK
  have eA1 : ∀ a, a ∉ kxA → sA S1 a = sA X a := fun a ha => hK.1.A ha
  have eI1 : ∀ i, i ∉ kxI → sI S1 i = sI X i := fun i hi => hK.1.I hi
  have e3 : sA W 3 = sA S1 3 := hF.A (by decide)
  have hlW : ∀ o, lv W o ↔ lv X o := fun o => by
    have : lv W o ↔ lv S1 o := by unfold lv; rw [e3]
    rw [this, hlk o]
    exact ⟨fun c => c.1, fun c => ⟨c, List.not_mem_nil⟩⟩
  have hE : ∀ o, lv X o → obE X W o := fun o ho => by
    have h1 := obE_KX hK (mHS_ok a1 o ho.1 ho.2.1) List.not_mem_nil
    obtain ⟨r1, r2⟩ := FrL_row hF (fun a ha => by cases ha) (mHS_ok hm o ho.1 ho.2.1)
    exact h1.trans (obE_of (by rw [e3]) (by rw [hF.A (by decide)]) (by rw [hF.A (by decide)]) (by rw [hF.A (by decide)]) (by rw [hF.A (by decide)]) r1 r2)
  have hk3 : ∀ o, lv W o → sA W 3 o = sA X 3 o := fun o ho => (hE o ((hlW o).mp ho)).1
  have eL : sL W = sL X := by rw [← hL1]; exact funext fun a => hF.2.1 a List.not_mem_nil
  have hg : gC ((m, vB x + i + 1, k, md, vT x + vU x, (st, q), (0, 0, ([], j + 1))) :: vAt x (vP x) (vQ x) (i + 1, vU x, (l', s)) :: r) = fun q => gC (x :: r) q + dl md q + dl k q := by
    funext w
    show dl k w + dl md w + gC (x :: r) w = _
    omega
  obtain ⟨m1, m2, m3⟩ := a3
  obtain ⟨b1, b2, b3, b4, b5⟩ := m2
  rw [hx] at m1
  have hxS : (vS x).2.2 = ((i, 1) :: l', s) := hx
  have l1' : vU x = tms l' := by
    have : (vS x).2.1 = tms (vS x).2.2.1 := b1
    rw [hxS] at this
    have e2 : tms ((i, 1) :: l') = (if (i, 1).2 = 0 then 1 else 0) + tms l' := rfl
    rw [e2, if_neg (show ¬ (1 : Nat) = 0 by omega), Nat.zero_add] at this
    exact this
  have l2' : lob (l', s) ≤ i ∧ srt l' := by
    have : srt (vS x).2.2.1 := b2
    rw [hxS] at this
    exact this
  have hlb1 : lob (l', s) ≤ i + 1 := by have := l2'.1; omega
  have hsv : stLv (vB x + i + 1) W := hmW.2.2.2.2.1
  have hmk' : mkOk X (vB x) (i + 1) (l', s) := ⟨fun w hw => ⟨(m1.1 w (by omega)).1, fun c => by
    have := (m1.1 w (by omega)).2 c
    rcases List.mem_cons.mp this with c2 | c2
    · injection c2 with c2 _
      rw [c2] at c
      exact absurd c hkc
    · exact c2⟩, fun w hw => m1.2 w (List.mem_cons_of_mem _ hw)⟩
  have es : (vL x).2 = s := by rw [hx]
  refine ⟨?_, ?_, ⟨⟨fun w hw => absurd hw (Nat.not_lt_zero _), fun w hw => by cases hw⟩, ⟨rfl, trivial, Nat.le_refl _, Nat.zero_le _, Nat.zero_le _⟩, ⟨mkOk_K (n := vB x + i + 1) (b := vB x) (h := i + 1) (l := (l', s)) hmk' (Nat.le_refl _) hlb1 l2'.2 (fun w _ => by rw [eL]; exact ⟨rfl, rfl⟩) hsv hk3, ⟨l1', l2'.2, by show lob (l', s) ≤ i + 1; omega, by show i + 1 ≤ 600; have : vH x ≤ 600 := b4; omega, b5⟩, stkC_K (n := vB x + i + 1) m3 (fun w hw => by have := cCal_lo a5 w hw; omega) (fun w _ => by rw [eL]; exact ⟨rfl, rfl⟩) hsv hk3⟩⟩, fun o ho => ?_, ⟨⟨?_, ?_, ?_, ?_, ?_, ?_, ?_, ?_, ?_, hp⟩, ?_⟩, ?_, ?_, ?_, fun w hw => ?_⟩
  · rw [hg]
    exact hmW
  · exact rwL_FrL hF (rwL_KX a2 hK)
  · obtain ⟨c1, c2⟩ := a4 o ((hlW o).mp ho)
    have ho' := (hlW o).mp ho
    exact ⟨tyO_K c1 (hE o ho') (fun o' ho2 => ⟨fun _ => (hlW o').mpr ho2, hk3 o'⟩), vlO_K c2 (hE o ho')⟩
  · rw [w54]; exact if_pos rfl
  · rw [w56]
    exact if_pos rfl
  · rw [w57]; exact if_pos rfl
  · rw [w58]; exact if_pos rfl
  · rw [w59]; exact if_pos rfl
  · rfl
  · show 1 ≤ i + 1; omega
  · rfl
  · show k ≠ 0
    have := hk.1
    omega
  · have h5 : cCal X (vAt x (vP x) (vQ x) (i + 1, vU x, (l', s)) :: r) := by
      cases r with
      | nil => exact a5
      | cons w r => exact a5
    refine cCal_X h5 (fun a ha w hw => ?_)
    have hw' : w + 1 < r.length + 1 := hw
    have hne : w ≠ r.length := by omega
    have e5 : ∀ c, c ∈ [54, 56, 57, 58, 59] → sA S1 c = sA X c := fun c hc => eA1 c (fun c' => by revert hc c'; revert c; decide)
    simp only [List.mem_cons, List.not_mem_nil, or_false] at ha
    rcases ha with c | c | c | c | c
    · subst c; rw [w54, if_neg hne, e5 54 (by decide)]
    · subst c; rw [w56, if_neg hne, e5 56 (by decide)]
    · subst c; rw [w57, if_neg hne, e5 57 (by decide)]
    · subst c; rw [w58, if_neg hne, e5 58 (by decide)]
    · subst c; rw [w59, if_neg hne, e5 59 (by decide)]
  · have h6 : lvOk G ty' X (vAt x (vP x) (vQ x) (i + 1, vU x, (l', s)) :: r) := by
      obtain ⟨c1, c2, c3⟩ := a6
      rw [es] at c1 c2
      exact ⟨c1, c2, c3⟩
    have h6' := lvOk_K (S' := W) h6 (fun y hy => by
      have h61 := lvOk_mem h6 y hy
      exact ⟨fun c => (hlW _).mpr (h61.1 c), fun c => (hlW _).mpr (h61.2 c)⟩) hk3
    refine ⟨fun c => absurd c (by have := hk.1; show k ≠ 0; omega), fun _ => ⟨(hlW k).mpr hk, by show sA W 3 k = _; rw [hk3 k ((hlW k).mpr hk)]; exact hk7, by show j + 1 ≠ 0; omega, hty⟩, fun c => ?_, fun w hw => ?_, h6'⟩
    · rcases hmd with c' | ⟨c1, c2⟩
      · exact absurd c' c
      · exact ⟨(hlW md).mpr c1, by show sA W 3 md = _; rw [hk3 md ((hlW md).mpr c1)]; exact c2⟩
    · rcases List.mem_cons.mp hw with c | c
      · subst c
        refine ⟨hG, ?_⟩
        have hs : srt (vL x).1 := b2
        rw [hx] at hs
        have hl : lob (l', 0) ≤ i := hs.1
        have e : lob (l', s) = lob (l', 0) := rfl
        show lob (l', s) < i + 1
        omega
      · exact a6.2.2.2.1 w c
  · obtain ⟨c1, c2, c3, c4⟩ := a7
    refine ⟨?_, ?_, ?_, by show r.length + 1 ≤ 30; omega⟩
    · rw [hW]
      exact (rIn _ _ (by decide)).trans ((rIn _ _ (by decide)).trans (rIe _ _ _))
    · rw [hF.I (by decide), eI1 5214 (by decide), c2]
      rfl
    · rw [hW]
      exact (rIn _ _ (by decide)).trans (rIe _ _ _)
  · have h8 : triC G tq X (vAt x (vP x) (vQ x) (i + 1, vU x, (l', s)) :: r) := by
      obtain ⟨c1, c2⟩ := a8
      refine ⟨fun e' y l'' hl'' => ?_, c2⟩
      have hl3 : l' = e' ++ (y, 0) :: l'' := hl''
      have := c1 ((i, 1) :: e') y l'' (by rw [hx, hl3]; rfl)
      rw [hx] at this
      exact this
    have h8' := triC_E (S' := W) h8 (by rw [hF.A (by decide), eA1 60 (by decide)])
    refine ⟨fun e' y l'' hl'' => ?_, h8'⟩
    have hl3 : ([] : List (Nat × Nat)) = e' ++ (y, 0) :: l'' := hl''
    cases e' <;> cases hl3
  · rw [eL]
    exact a9 w hw
end
