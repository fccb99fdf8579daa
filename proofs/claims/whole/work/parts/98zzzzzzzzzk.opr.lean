/-! THE MACHINES, STEP BY STEP: what a deed does on both sides -/
/-- behind an error: of the topmost level only what lies below its marks is told -/
def XRe (P : Nat → Prop) (T : cS) (gT : Nat) (Q : Nat → Prop) (β : Nat → Nat) (F : Nat → Nat → Nat → Prop) (D : List Nat) (z nn g0 g1 g3 g4 g5 gn : Nat) (tq : Nat → Nat × Nat) (x : Lv) (r : List Lv) (Sc Sr : cS) : Prop :=
  HR Q β F D Sc Sr g0 g1 nn ∧ NMw F β Sc Sr z nn g0 g1 g3 g4 g5 ∧ rTb Q Sr nn g0 g1 g3 g4 g5 gn ∧ stkR β Sc Sr (vAt x (vP x) (vQ x) (lob (vL x), vU x, vL x) :: r) ∧ rCal β Sr (x :: r) ∧ (sI Sr 6159 = nI (r.length + 1) ∧ sI Sr 6163 = nI (vT x + vU x)) ∧ triX tq Sr (x :: r) ∧ lnC Sc Sr (x :: r) ∧ rMs Sc Sr ∧ rKp P T gT gn Sr ∧ pQ P Q g0 g1 g3 g4 g5
/-- the reference does it too -/
def rSt (F : Nat → Nat → Nat → Prop) (tq : Nat → Nat × Nat) (d jr : Nat) (ar : List Value) (C C' : List Lv) (S S' : cS) : Prop := ∀ P T gT Q β D z nn g0 g1 g3 g4 g5 gn Sr, XR P T gT Q β F D z nn g0 g1 g3 g4 g5 gn tq C S Sr → ∃ Q' β' D' nn' h0 h1 h3 h4 h5 hn W, Ans d jr ar Sr (some (.int 1)) W ∧ XR P T gT Q' β' F D' z nn' h0 h1 h3 h4 h5 hn tq C' S' W
/-- the reference gives the same error -/
def rEt (F : Nat → Nat → Nat → Prop) (tq : Nat → Nat × Nat) (d jr : Nat) (ar : List Value) (e : Nat) (x : Lv) (r : List Lv) (S S' : cS) : Prop := ∀ P T gT Q β D z nn g0 g1 g3 g4 g5 gn Sr, XR P T gT Q β F D z nn g0 g1 g3 g4 g5 gn tq (x :: r) S Sr → ∃ Q' β' D' nn' h0 h1 h3 h4 h5 hn W, Ans d jr ar Sr (some (.int 0)) W ∧ sI W 6164 = nI e ∧ XRe P T gT Q' β' F D' z nn' h0 h1 h3 h4 h5 hn tq x r S' W
/-- a deed: it ends with the label s', or with an error -/
def opR (F : Nat → Nat → Nat → Prop) (loc par : Nat → Nat → Nat) (ty : Nat → Nat × Nat) (G : Nat → Nat → Nat → Nat × Nat × LL → Prop) (tq : Nat → Nat × Nat) (d jc : Nat) (ac : List Value) (jr : Nat) (ar : List Value) (x : Lv) (r : List Lv) (s' : Nat × Nat × LL) (S : cS) : Prop :=
  (∃ S', Ans d jc ac S (some (.int (nI 0))) S' ∧ (∀ p q, CI F loc par ty G tq (vAt x p q s' :: r) S') ∧ CFr S S' ∧ rSt F tq d jr ar (x :: r) (vAt x (vP x) (vQ x) s' :: r) S S') ∨ ∃ e S', (1 ≤ e ∧ e ≤ 99) ∧ Ans d jc ac S (some (.int (nI e))) S' ∧ CI F loc par ty G tq (x :: r) S' ∧ CFr S S' ∧ rEt F tq d jr ar e x r S S'
section
variable {P : Nat → Prop} {T : cS} {gT : Nat} {Q : Nat → Prop} {β : Nat → Nat} {F : Nat → Nat → Nat → Prop} {loc par : Nat → Nat → Nat} {ty : Nat → Nat × Nat} {G : Nat → Nat → Nat → Nat × Nat × LL → Prop} {D K : List Nat} {z nn g0 g1 g3 g4 g5 gn d v o jc jr e : Nat} {ac ar : List Value} {tq : Nat → Nat × Nat} {C r : List Lv} {x : Lv} {Sc Sr S S' W : cS} {hi lo : Int64}
theorem stkR_s (h : stkR β Sc Sr C) (e1 : sL S' 47 = sL Sc 47) (e2 : sL S' 48 = sL Sc 48) (e3 : sA W 91 = sA Sr 91) (e4 : sL W 92 = sL Sr 92) (e5 : sL W 93 = sL Sr 93) : stkR β S' W C := by
  induction C with
  | nil => exact h
  | cons x r ih =>
    obtain ⟨h1, h2, h3⟩ := h
    exact ⟨by rw [e1, e2, e3, e4, e5]; exact h1, by rw [e3, e4]; exact h2, ih h3⟩
/-- a register of the reference that no relation speaks of -/
theorem XRe_I (h : XRe P T gT Q β F D z nn g0 g1 g3 g4 g5 gn tq x r Sc Sr) {i : Nat} {n : Int32} (hi : i = 6164 ∨ i = 6167) : XRe P T gT Q β F D z nn g0 g1 g3 g4 g5 gn tq x r Sc (wI i n Sr) := by
  obtain ⟨a1, a2, a3, a4, a5, a6, a7, a8, a9, a10, a11⟩ := h
  have eI : ∀ j, j ≠ i → sI (wI i n Sr) j = sI Sr j := fun j hj => if_neg hj
  have hN : tnE Sr (wI i n Sr) g0 g1 := ⟨rfl, rfl, rfl, rfl⟩
  refine ⟨HR_M (rM_I (by omega) (rM.refl _)) hN a1, NMw_E a2 rfl rfl rfl rfl hN rfl rfl rfl, rTb_E a3 rfl (fun _ _ _ => rfl) (eI _ (by omega)), stkR_s a4 rfl rfl rfl rfl rfl, rCal_E a5 rfl (fun _ _ => rfl), ⟨by rw [eI _ (by omega)]; exact a6.1, by rw [eI _ (by omega)]; exact a6.2⟩, triX_E a7 (fun _ _ => rfl), lnC_E a8 rfl rfl rfl, ?_, ?_, a11⟩
  · obtain ⟨⟨b1, b2⟩, ⟨o, o1, o2, o3, o4⟩, u, u1, u2⟩ := a9
    exact ⟨⟨by rw [eI _ (by omega)]; exact b1, by rw [eI _ (by omega)]; exact b2⟩, ⟨o, o1, o2, by rw [eI _ (by omega)]; exact o3, o4⟩, u, u1, by rw [eI _ (by omega)]; exact u2⟩
  · obtain ⟨b1, b2, b3, b4, b5, b6, b7, b8, b9⟩ := a10
    exact ⟨b1, fun j hj => by rw [eI _ (by omega)]; exact b2 j hj, b3, b4, b5, b6, fun m zm hm hs j hj => ⟨by rw [eI _ (by omega)]; exact (b7 m zm hm hs j hj).1, (b7 m zm hm hs j hj).2⟩, b8, b9⟩
theorem XR_XRe (h : XR P T gT Q β F D z nn g0 g1 g3 g4 g5 gn tq (x :: r) Sc Sr) (hl : lob (vL x) ≤ vH x) : XRe P T gT Q β F D z nn g0 g1 g3 g4 g5 gn tq x r Sc Sr := by
  obtain ⟨a1, a2, a3, ⟨b1, b2, b3⟩, a5, ⟨c1, c2, c3⟩, a7, a8, a9, a10, a11⟩ := h
  exact ⟨a1, a2, a3, ⟨fun i hi => b1 i (by have : i < lob (vL x) := hi; omega), b2, b3⟩, a5, ⟨c2, c3⟩, a7, a8, a9, a10, a11⟩
theorem CI_lob (h : CI F loc par ty G tq (x :: r) S) : lob (vL x) ≤ vH x := h.2.2.1.2.1.2.2.1
/-- a deed that gives an error at once -/
theorem opR_err (h : CI F loc par ty G tq (x :: r) S) (he : 1 ≤ e ∧ e ≤ 99) (hc : Ans d jc ac S (some (.int (nI e))) S) {s' : Nat × Nat × LL} (hr : ∀ P T gT Q β D z nn g0 g1 g3 g4 g5 gn Sr, XR P T gT Q β F D z nn g0 g1 g3 g4 g5 gn tq (x :: r) S Sr → Ans d jr ar Sr (some (.int 0)) (wI 6164 (nI e) Sr)) : opR F loc par ty G tq d jc ac jr ar x r s' S :=
  Or.inr ⟨e, S, he, hc, h, CFr.refl S, fun P T gT Q β D z nn g0 g1 g3 g4 g5 gn Sr hX => ⟨Q, β, D, nn, g0, g1, g3, g4, g5, gn, _, hr P T gT Q β D z nn g0 g1 g3 g4 g5 gn Sr hX, rIe _ _ _, XRe_I (XR_XRe hX (CI_lob h)) (Or.inl rfl)⟩⟩
/-- a deed that puts a value in the place of v -/
theorem opR_give (h : CI F loc par ty G tq (x :: r) S) (hl : lob (vL x) + v ≤ vH x) (h6 : vH x - v + 1 ≤ 600) (ho : c_obj hi lo = nI o) (ho2 : o ≤ 1500) (hol : o = 0 ∨ lv S o) (h0 : c_kind hi ≠ 0 ∧ c_kind hi ≠ nI 5) {dg : Nat} (hc : ∀ S', Ans (dg + 9) 148 [.ref 46, .int (nI v), .long hi, .long lo] S (some (.int (nI 0))) S' → Ans d jc ac S (some (.int (nI 0))) S') (hr : ∀ P T gT Q β D z nn g0 g1 g3 g4 g5 gn Sr, XR P T gT Q β F D z nn g0 g1 g3 g4 g5 gn tq (x :: r) S Sr → ∃ W, Ans d jr ar Sr (some (.int 1)) W ∧ sFr (topC (x :: r) - v + offC (x :: r)) Sr W ∧ sI W 6151 = nI (topC (x :: r) - v + offC (x :: r) + 1) ∧ vrel β hi lo (sA W 91 (topC (x :: r) - v + offC (x :: r))) (sL W 92 (topC (x :: r) - v + offC (x :: r))) (sL W 93 (topC (x :: r) - v + offC (x :: r)))) : opR F loc par ty G tq d jc ac jr ar x r (vH x - v + 1, vU x, vL x) S := by
  obtain ⟨S', K, b1, b2, b3, b4⟩ := CI_give2 (d := dg) h (v := v) (by omega) hl h6 ho ho2 hol h0
  refine Or.inl ⟨S', hc S' b1, b3, CFr_KX b2, fun P T gT Q β D z nn g0 g1 g3 g4 g5 gn Sr hX => ?_⟩
  obtain ⟨W, w1, w2, w3, w4⟩ := hr P T gT Q β D z nn g0 g1 g3 g4 g5 gn Sr hX
  exact ⟨Q, β, _, nn, g0, g1, g3, g4, g5, gn, W, w1, b4 P T gT Q β D z nn g0 g1 g3 g4 g5 gn Sr W hX w2 w3 w4⟩
end
