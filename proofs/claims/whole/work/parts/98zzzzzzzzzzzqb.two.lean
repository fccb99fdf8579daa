/-! TWO WORDS OF THE REFERENCE FOR ONE DEED OF THE CLASS: op 40 (28, then 15) -/
def rSw (F : Nat → Nat → Nat → Prop) (tq : Nat → Nat × Nat) (R : cS → Int32 → cS → Prop) (C C' : List Lv) (S S' : cS) : Prop := ∀ P T gT Q β D z nn g0 g1 g3 g4 g5 gn Sr, XR P T gT Q β F D z nn g0 g1 g3 g4 g5 gn tq C S Sr → ∃ Q' β' D' nn' h0 h1 h3 h4 h5 hn W, R Sr 1 W ∧ XR P T gT Q' β' F D' z nn' h0 h1 h3 h4 h5 hn tq C' S' W
def rEw (F : Nat → Nat → Nat → Prop) (tq : Nat → Nat × Nat) (R : cS → Int32 → cS → Prop) (e : Nat) (x : Lv) (r : List Lv) (S S' : cS) : Prop := ∀ P T gT Q β D z nn g0 g1 g3 g4 g5 gn Sr, XR P T gT Q β F D z nn g0 g1 g3 g4 g5 gn tq (x :: r) S Sr → ∃ Q' β' D' nn' h0 h1 h3 h4 h5 hn W, R Sr 0 W ∧ sI W 6164 = nI e ∧ XRe P T gT Q' β' F D' z nn' h0 h1 h3 h4 h5 hn tq x r S' W
/-- a deed, whatever the reference does for it -/
def opG (F : Nat → Nat → Nat → Prop) (loc par : Nat → Nat → Nat) (ty : Nat → Nat × Nat) (G : Nat → Nat → Nat → Nat × Nat × LL → Prop) (tq : Nat → Nat × Nat) (d jc : Nat) (ac : List Value) (R : cS → Int32 → cS → Prop) (x : Lv) (r : List Lv) (s' : Nat × Nat × LL) (S : cS) : Prop :=
  (∃ S', Ans d jc ac S (some (.int (nI 0))) S' ∧ (∀ p q, CI F loc par ty G tq (vAt x p q s' :: r) S') ∧ CFr S S' ∧ rSw F tq R (x :: r) (vAt x (vP x) (vQ x) s' :: r) S S') ∨ ∃ e S', (1 ≤ e ∧ e ≤ 99) ∧ Ans d jc ac S (some (.int (nI e))) S' ∧ CI F loc par ty G tq (x :: r) S' ∧ CFr S S' ∧ rEw F tq R e x r S S'
/-- two words: at place q1, then at the place behind both -/
def rT2 (d n : Nat) (q1 q2 : Int32) (k1 k2 e2 : Nat) (Sr : cS) (b : Int32) (W : cS) : Prop := ∃ W1, Ans d 400 [.ref 61, .int (nI k1), .int (nI 0)] (wA 95 n q1 Sr) (some (.int 1)) W1 ∧ sFr 0 (wA 95 n q1 Sr) W1 ∧ Ans d 400 [.ref 61, .int (nI k2), .int (nI e2)] (wA 95 n q2 W1) (some (.int b)) W
section
variable {P : Nat → Prop} {T : cS} {gT : Nat} {Q : Nat → Prop} {β β' : Nat → Nat} {F : Nat → Nat → Nat → Prop} {loc par : Nat → Nat → Nat} {ty : Nat → Nat × Nat} {G : Nat → Nat → Nat → Nat × Nat × LL → Prop} {D D' K : List Nat} {z nn g0 g1 g3 g4 g5 gn d d' n m p q q' q1 k e jc o xx v : Nat} {ac : List Value} {tq : Nat → Nat × Nat} {C r : List Lv} {x : Lv} {S S' S1 X W W1 Sc Sr : cS} {hi lo : Int64} {R : cS → Int32 → cS → Prop}
theorem opG_give (h : CI F loc par ty G tq (x :: r) S) (hl : lob (vL x) + v ≤ vH x) (h6 : vH x - v + 1 ≤ 600) (ho : c_obj hi lo = nI o) (ho2 : o ≤ 1500) (hol : o = 0 ∨ lv S o) (h0 : c_kind hi ≠ 0 ∧ c_kind hi ≠ nI 5) {dg : Nat} (hc : ∀ S', Ans (dg + 9) 148 [.ref 46, .int (nI v), .long hi, .long lo] S (some (.int (nI 0))) S' → Ans d jc ac S (some (.int (nI 0))) S') (hr : ∀ P T gT Q β D z nn g0 g1 g3 g4 g5 gn Sr, XR P T gT Q β F D z nn g0 g1 g3 g4 g5 gn tq (x :: r) S Sr → ∃ W, R Sr 1 W ∧ sFr (topC (x :: r) - v + offC (x :: r)) Sr W ∧ sI W 6151 = nI (topC (x :: r) - v + offC (x :: r) + 1) ∧ vrel β hi lo (sA W 91 (topC (x :: r) - v + offC (x :: r))) (sL W 92 (topC (x :: r) - v + offC (x :: r))) (sL W 93 (topC (x :: r) - v + offC (x :: r)))) : opG F loc par ty G tq d jc ac R x r (vH x - v + 1, vU x, vL x) S := by
  obtain ⟨S', K, b1, b2, b3, b4⟩ := CI_give2 (d := dg) h (v := v) (by omega) hl h6 ho ho2 hol h0
  refine Or.inl ⟨S', hc S' b1, b3, CFr_KX b2, fun P T gT Q β D z nn g0 g1 g3 g4 g5 gn Sr hX => ?_⟩
  obtain ⟨W, w1, w2, w3, w4⟩ := hr P T gT Q β D z nn g0 g1 g3 g4 g5 gn Sr hX
  exact ⟨Q, β, _, nn, g0, g1, g3, g4, g5, gn, W, w1, b4 P T gT Q β D z nn g0 g1 g3 g4 g5 gn Sr W hX w2 w3 w4⟩
/-- the reference at an error: its stack above is of no matter -/
theorem XRe_W (h : XR P T gT Q β F D z nn g0 g1 g3 g4 g5 gn tq (x :: r) S Sr) (hcal : cCal S (x :: r)) (hl : lob (vL x) ≤ vH x) (hW : sFr (topC (x :: r) + offC (x :: r)) Sr W) : XRe P T gT Q β F D z nn g0 g1 g3 g4 g5 gn tq x r S W := by
  obtain ⟨a1, a2, a3, a4, a5, a6, a7, a8, a9, a10, a11⟩ := XR_XRe h hl
  have hgs := a3.2.2.2.2.2.2.2.1
  have hN := sFr_N hW ⟨hgs.1, hgs.2.1⟩
  have eWI : ∀ i, i ≠ 6151 → sI W i = sI Sr i := hW.2.2.2.2.2.1
  have eWA : ∀ a, a ≠ 91 → a ≠ 104 → a ≠ 104 → sA W a = sA Sr a := hW.2.2.2.2.2.2.1
  have eWL : ∀ a, a ≠ 92 → a ≠ 93 → sL W a = sL Sr a := hW.2.2.2.2.2.2.2.1
  have ht : topC (x :: r) = vB x + vH x := rfl
  have eo : offC (x :: r) = mkb x + offC r := rfl
  refine ⟨HR_M (sFr_M hW) hN a1, ?_, rTb_E a3 hW.1 (fun i _ _ => by rw [hW.2.2.1]) (eWI _ (by decide)), ?_, ?_, ?_, triX_E (C := x :: r) a7 (fun a ha => eWA a (fun c => by rw [c] at ha; revert ha; decide) (fun c => by rw [c] at ha; revert ha; decide) (fun c => by rw [c] at ha; revert ha; decide)), lnC_E (C := x :: r) a8 rfl rfl (eWA 98 (by decide) (by decide) (by decide)), ?_, rKp_s a10 a11 hW, a11⟩
  · exact NMw_E a2 rfl rfl rfl rfl hN (eWA g3 (nG_ne hgs.2.2.1 (by omega)) (nG_ne hgs.2.2.1 (by omega)) (nG_ne hgs.2.2.1 (by omega))) (eWL g4 (nG_ne hgs.2.2.2.1 (by omega)) (nG_ne hgs.2.2.2.1 (by omega))) (eWL g5 (nG_ne hgs.2.2.2.2 (by omega)) (nG_ne hgs.2.2.2.2 (by omega)))
  · refine stkR_E (n := topC (x :: r)) a4 (fun y hy => ?_) (fun i _ => ⟨rfl, rfl⟩) (fun i hi => hW.2.2.2.2.2.2.2.2 i hi)
    rcases List.mem_cons.mp hy with c | c
    · subst c
      show vB x + lob (vL x) ≤ _
      omega
    · have := cCal_lo hcal y c
      omega
  · exact rCal_E (C := x :: r) a5 (by rw [hW.2.1]) (fun a ha => eWA a (fun c => by rw [c] at ha; revert ha; decide) (fun c => by rw [c] at ha; revert ha; decide) (fun c => by rw [c] at ha; revert ha; decide))
  · exact ⟨by rw [eWI _ (by decide)]; exact a6.1, by rw [eWI _ (by decide)]; exact a6.2⟩
  · obtain ⟨⟨b1, b2⟩, ⟨o, o1, o2, o3, o4⟩, u, u1, u2⟩ := a9
    exact ⟨⟨by rw [eWI _ (by decide)]; exact b1, by rw [eWI _ (by decide)]; exact b2⟩, ⟨o, o1, o2, by rw [eWI _ (by decide)]; exact o3, fun i hi => by rw [eWA 106 (by decide) (by decide) (by decide)]; exact o4 i hi⟩, u, u1, by rw [eWI _ (by decide)]; exact u2⟩
/-- the place written over -/
theorem wA_wA' {a n : Nat} {k k' : Int32} {S : cS} : wA a n k (wA a n k' S) = wA a n k S := by
  have e : (fun b => if b = a then va_up (va_up (sA S a) n k') n k else (fun b => if b = a then va_up (sA S a) n k' else sA S b) b) = fun b => if b = a then va_up (sA S a) n k else sA S b := funext (fun b => by
    by_cases c : b = a
    · rw [if_pos c, if_pos c]
      funext i
      unfold va_up
      by_cases c2 : i = n
      · rw [if_pos c2, if_pos c2]
      · rw [if_neg c2, if_neg c2, if_neg c2]
    · rw [if_neg c, if_neg c]
      exact if_neg c)
  have e1 : sA (wA a n k' S) a = va_up (sA S a) n k' := if_pos rfl
  show (S.1, S.2.1, (fun b => if b = a then va_up (sA (wA a n k' S) a) n k else (fun b => if b = a then va_up (sA S a) n k' else sA S b) b), S.2.2.2) = (S.1, S.2.1, (fun b => if b = a then va_up (sA S a) n k else sA S b), S.2.2.2)
  rw [e1, e]
/-- .. what moved at another place -/
theorem sFr_95 {tp : Nat} {k q2 : Int32} (hF : sFr tp (wA 95 n k Sr) W) (hq : sA Sr 95 n = q2) : sFr tp Sr (wA 95 n q2 W) := by
  obtain ⟨f1, f2, f3, f4, f5, f6, f7, f8, f9⟩ := hF
  refine ⟨f1, f2, f3, f4, f5, f6, fun a h1 h2 h3 => ?_, f8, fun i hi => ?_⟩
  · by_cases c : a = 95
    · subst c
      funext i
      show (if 95 = 95 then va_up (sA W 95) n q2 else sA W 95) i = _
      rw [if_pos rfl]
      have e := congrFun (f7 95 (by omega) (by omega) (by omega)) i
      have e2 : sA (wA 95 n k Sr) 95 i = va_up (sA Sr 95) n k i := by
        show (if 95 = 95 then va_up (sA Sr 95) n k else sA Sr 95) i = _
        rw [if_pos rfl]
      rw [e2] at e
      unfold va_up at e ⊢
      by_cases c2 : i = n
      · rw [if_pos c2, c2, hq]
      · rw [if_neg c2] at e ⊢
        exact e
    · show (if a = 95 then _ else sA W a) = _
      rw [if_neg c, f7 a h1 h2 h3]
      exact if_neg c
  · obtain ⟨g1, g2, g3⟩ := f9 i hi
    exact ⟨g1, g2, g3⟩
theorem opR_G {d jc jr : Nat} {ac ar : List Value} {s' : Nat × Nat × LL} (h : opR F loc par ty G tq d jc ac jr ar x r s' S) : opG F loc par ty G tq d jc ac (fun Sr b W => Ans d jr ar Sr (some (.int b)) W) x r s' S := h
end
