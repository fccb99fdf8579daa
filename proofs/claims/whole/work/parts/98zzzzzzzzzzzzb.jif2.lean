/-! FLOW ON BOTH SIDES: jumps that look at the topmost value, as steps -/
section
variable {P : Nat → Prop} {T : cS} {gT : Nat} {Q : Nat → Prop} {β β' : Nat → Nat} {F : Nat → Nat → Nat → Prop} {loc par : Nat → Nat → Nat} {ty : Nat → Nat × Nat} {G : Nat → Nat → Nat → Nat × Nat × LL → Prop} {D D' K : List Nat} {z nn g0 g1 g3 g4 g5 gn d d' v n m p q p' q' P' Q' pT k e e1 oc ln tp rc tu al : Nat} {tq : Nat → Nat × Nat} {C r : List Lv} {x : Lv} {S S' S1 S2 X W Sc Sr : cS} {w : Nat → Int32} {s' : Nat × Nat × LL} {St : (Nat → Prop) → cS → Prop} {ok : List Lv → Prop} {a1 a2 : Int32}
/-- both pop and go on at P', Q' -/
theorem fin_pop (h : CI F loc par ty G tq (x :: r) S) (hpc : PC w pT S) (hck : clk S) (hl : lob (vL x) + 1 ≤ vH x) (hF : CFw S X) (hX : X = S ∨ ∃ k, X = wI 5216 k S) (h5 : sI X 5216 = nI P') (hC : ∀ S', Ans (d + 9) 141 [.ref 46, .int (nI 1)] X none S' → tnC d' Sc S') (hSc : CFw Sc S) (hR : ∀ P T gT Q β D z nn g0 g1 g3 g4 g5 gn Sr, St P T → XR P T gT Q β F D z nn g0 g1 g3 g4 g5 gn tq (x :: r) Sc Sr → XR P T gT Q β F D z nn g0 g1 g3 g4 g5 gn tq (x :: r) S Sr ∧ ∃ n, rRn (d' + 1) n Sr 1 (wA 95 r.length (nI Q') (wI 6151 (nI (topC (x :: r) + offC (x :: r) - 1)) Sr))) (hq : Q' < 2 ^ 20) (hok : ok (vAt x P' Q' (vH x - 1, vU x, vL x) :: r)) : stp St F loc par G tq w pT d' (x :: r) Sc ok := by
  have hCX : CI F loc par ty G tq (x :: r) X := by
    rcases hX with c | ⟨k, c⟩
    · rw [c]
      exact h
    · rw [c]
      exact CI_pl h
  have hpX : PC w pT X ∧ clk X := by
    rcases hX with c | ⟨k, c⟩
    · rw [c]
      exact ⟨hpc, hck⟩
    · rw [c]
      exact ⟨PC_I hpc (by decide), clk_I hck (by decide) (by decide)⟩
  obtain ⟨S', b1, b2, b3, b4⟩ := pop_B (d := d) hCX hl
  refine Or.inl ⟨ty, tq, _, S', hok, hC S' b1, b2 P' Q', ⟨(b3.2.2.1 5216 (by decide)).trans h5, PC_r hpX.1 b3, clk_r hpX.2 b3, (hSc.trans hF).trans b3.w⟩, fun P T gT Q β D z nn g0 g1 g3 g4 g5 gn Sr hS hX1 => ?_⟩
  obtain ⟨hX2, hn⟩ := hR P T gT Q β D z nn g0 g1 g3 g4 g5 gn Sr hS hX1
  have hX3 : XR P T gT Q β F D z nn g0 g1 g3 g4 g5 gn tq (x :: r) X Sr := by
    rcases hX with c | ⟨k, c⟩
    · rw [c]
      exact hX2
    · rw [c]
      exact XR_pl hX2
  obtain ⟨D', hX4⟩ := b4 P T gT Q β D z nn g0 g1 g3 g4 g5 gn Sr (wI 6151 (nI (topC (x :: r) + offC (x :: r) - 1)) Sr) hX3 (sFr_I ⟨rfl, rfl, rfl, rfl, rfl, fun _ _ => rfl, fun _ _ _ _ => rfl, fun _ _ _ => rfl, fun _ _ => ⟨rfl, rfl, rfl⟩⟩) (rIe _ _ _)
  exact ⟨Q, β, D', nn, g0, g1, g3, g4, g5, gn, _, hn, XR_at hX4 hq P'⟩
theorem wI_51 (hX : XR P T gT Q β F D z nn g0 g1 g3 g4 g5 gn tq (x :: r) S Sr) : wI 6151 (nI (topC (x :: r) + offC (x :: r))) Sr = Sr := by
  rw [← XR_51 hX]
  exact wI_slf Sr 6151
theorem cj_tn (hr1 : Ans (d + 14) 127 [.ref 52] S (some (.int (nI oc))) S1) (hc : (oc = 5 ∧ tu = 0 ∧ al = 1) ∨ (oc = 6 ∧ tu = 0 ∧ al = 0) ∨ (oc = 7 ∧ tu = 1 ∧ al = 0)) (hb : Bod (d + 12) 130 0 [(0, .ref 52), (1, .int (nI tu)), (2, .int (nI al))] [] S1 (some (.int (nI 0))) S') : tnC (d + 14) S S' := by
  have m128 := ml_128
  have m130 := ml_130
  have ha : Ans (d + 13) 130 [.ref 52, .int (nI tu), .int (nI al)] S1 (some (.int (nI 0))) S' := Ans.of (by rw [m130]; exact Nat.le_of_ble_eq_true rfl) (Bod.lv (by rfl) hb)
  have hb2 : Ans (d + 14) 128 [.ref 52, .int (nI oc)] S1 (some (.int (nI 0))) S' := by
    rcases hc with ⟨c1, c2, c3⟩ | ⟨c1, c2, c3⟩ | ⟨c1, c2, c3⟩
    · subst c1 c2 c3
      exact Ans.of (by rw [m128]; exact Nat.le_of_ble_eq_true rfl) (Bod.lv (by rfl) (mFw5_1 (d := d + 5) ha))
    · subst c1 c2 c3
      exact Ans.of (by rw [m128]; exact Nat.le_of_ble_eq_true rfl) (Bod.lv (by rfl) (mFw6_1 (d := d + 5) ha))
    · subst c1 c2 c3
      exact Ans.of (by rw [m128]; exact Nat.le_of_ble_eq_true rfl) (Bod.lv (by rfl) (mFw7_1 (d := d + 5) ha))
  have ho : 1 ≤ oc ∧ oc ≤ 15 := by omega
  intro tn v Sf
  exact flw_C (d := d + 6) hr1 ho hb2
theorem cj_set (h : CI F loc par ty G tq (x :: r) S) (hpc : PC w pT S) (hck : clk S) (h5 : sI S 5216 = nI (vP x)) (hp : vP x + 1 < pT) (hw0 : w (vP x) = nI oc) (hw1 : w (vP x + 1) = nI p') : ∃ S1 S2, Ans (d + 14) 127 [.ref 52] S (some (.int (nI oc))) S1 ∧ Ans (d + 12) 127 [.ref 52] S1 (some (.int (nI p'))) S2 ∧ CI F loc par ty G tq (x :: r) S2 ∧ PC w pT S2 ∧ clk S2 ∧ CFw S S2 ∧ sI S2 5216 = nI (vP x + 2) ∧ ∀ {P T gT Q β D z nn g0 g1 g3 g4 g5 gn Sr}, XR P T gT Q β F D z nn g0 g1 g3 g4 g5 gn tq (x :: r) S Sr → XR P T gT Q β F D z nn g0 g1 g3 g4 g5 gn tq (x :: r) S2 Sr := by
  have hr1 := rd_T (d := d + 12) hpc h5 (by omega)
  rw [hw0] at hr1
  have hpc1 : PC w pT (wI 5216 (nI (vP x + 1)) S) := PC_I hpc (by decide)
  have hr2 := rd_T (d := d + 10) hpc1 (rIe _ _ _) hp
  rw [hw1] at hr2
  exact ⟨_, _, hr1, hr2, CI_pl (CI_pl h), PC_I hpc1 (by decide), clk_I (clk_I hck (by decide) (by decide)) (by decide) (by decide), (CFw_I (by decide)).trans (CFw_I (by decide)), rIe _ _ _, fun hX => XR_pl (XR_pl hX)⟩
/-- both jump and keep the value -/
theorem fin_keep (h : CI F loc par ty G tq (x :: r) S2) (hpc : PC w pT S2) (hck : clk S2) (hF : CFw S S2) (hC : tnC d S (wI 5216 (nI p') S2)) (hX2 : ∀ {P T gT Q β D z nn g0 g1 g3 g4 g5 gn Sr}, XR P T gT Q β F D z nn g0 g1 g3 g4 g5 gn tq (x :: r) S Sr → XR P T gT Q β F D z nn g0 g1 g3 g4 g5 gn tq (x :: r) S2 Sr) (hR : ∀ {P T gT Q β D z nn g0 g1 g3 g4 g5 gn Sr}, St P T → XR P T gT Q β F D z nn g0 g1 g3 g4 g5 gn tq (x :: r) S Sr → ∃ n, rRn (d + 1) n Sr 1 (wA 95 r.length (nI q') Sr)) (hq' : q' < 2 ^ 20) (hok : ok (vAt x p' q' (vS x) :: r)) : stp St F loc par G tq w pT d (x :: r) S ok :=
  Or.inl ⟨ty, tq, _, _, hok, hC, CI_pl (CI_at h p' q'), ⟨rIe _ _ _, PC_I hpc (by decide), clk_I hck (by decide) (by decide), hF.trans (CFw_I (by decide))⟩, fun P T gT Q β D z nn g0 g1 g3 g4 g5 gn Sr hS hX => ⟨Q, β, D, nn, g0, g1, g3, g4, g5, gn, _, hR hS hX, XR_pl (XR_at (hX2 hX) hq' p')⟩⟩
/-- what the reference looks at -/
theorem cj_ref {b : Int32} (h : CI F loc par ty G tq (x :: r) S2) (hX : XR P T gT Q β F D z nn g0 g1 g3 g4 g5 gn tq (x :: r) S2 Sr) (hl : 1 ≤ vH x) {nx : Int32} (hn : b = 1 ∧ truV S2 (sL S2 47 (topC (x :: r) - 1 - 0)) (sL S2 48 (topC (x :: r) - 1 - 0)) ∨ b = 0 ∧ ¬ truV S2 (sL S2 47 (topC (x :: r) - 1 - 0)) (sL S2 48 (topC (x :: r) - 1 - 0))) : Ans (d + 11) 359 [.ref 61, .int (nI (topC (x :: r) + offC (x :: r) - 1))] (wI 6151 nx Sr) (some (.int b)) (wI 6151 nx Sr) := by
  obtain ⟨k1, k0⟩ := tru_R (d := d) (i := 0) (nx := nx) h hX (by omega)
  rw [Nat.sub_zero (topC (x :: r) + offC (x :: r) - 1)] at k1 k0
  rcases hn with ⟨c1, c2⟩ | ⟨c1, c2⟩
  · rw [c1]
    exact k1 c2
  · rw [c1]
    exact k0 c2
theorem jf_S (h : CI F loc par ty G tq (x :: r) S) (hpc : PC w pT S) (hck : clk S) (h5 : sI S 5216 = nI (vP x)) (hp : vP x + 1 < pT) (hw0 : w (vP x) = nI 5) (hw1 : w (vP x + 1) = nI p') (hl : lob (vL x) + 1 ≤ vH x) (hq : vQ x + 2 < 2 ^ 20) (hq' : q' < 2 ^ 20) (hr : ∀ P T, St P T → rwT P T (vM x) (vQ x) (nI 12) ∧ ∃ e, rwT P T (vM x) (vQ x + 1) e ∧ nI (vQ x + 1) + e = nI q') (hokJ : ok (vAt x p' q' (vH x - 1, vU x, vL x) :: r)) (hokN : ok (vAt x (vP x + 2) (vQ x + 2) (vH x - 1, vU x, vL x) :: r)) : stp St F loc par G tq w pT (d + 14) (x :: r) S ok := by
  have hr30 : r.length ≤ 30 := h.2.2.2.2.2.2.1.2.2.2
  obtain ⟨l1, l2, l3, l4, l5⟩ := CI_len h
  have hT := CI_T h
  obtain ⟨S1, S2, hr1, hr2, h2, hp2, hk2, hF2, h52, hX2⟩ := cj_set (d := d) h hpc hck h5 hp hw0 hw1
  obtain ⟨t1, t0⟩ := tru_C (d := d + 1) (i := 0) h2 (by omega)
  by_cases ct : truV S2 (sL S2 47 (topC (x :: r) - 1 - 0)) (sL S2 48 (topC (x :: r) - 1 - 0))
  · refine fin_pop (d := d + 3) (X := S2) (S := S2) h2 hp2 hk2 hl (CFg.refl _ _ _) (Or.inl rfl) h52 (fun S' hA => cj_tn (tu := 0) (al := 1) hr1 (Or.inl ⟨rfl, rfl, rfl⟩) (mJf_1 (d := d + 4) (by omega) (by omega) hr2 (t1 ct) (by decide) (by decide) hA)) hF2 (fun P T gT Q β D z nn g0 g1 g3 g4 g5 gn Sr hS hX => ⟨hX2 hX, ?_⟩) hq hokN
    obtain ⟨hw, e, hw2, he⟩ := hr P T hS
    have k := cj_ref (d := d + 1) (nx := nI (topC (x :: r) + offC (x :: r) - 1)) h2 (hX2 hX) (by omega) (Or.inl ⟨rfl, ct⟩)
    exact rRn_1 (ftR_of (XR_top hX) hr30 (rw_of hX hw) (by omega) (by omega)) (Or.inr rfl) (rcj_12t (d := d + 6) (XR_top hX) hr30 (rw_of hX hw) (XR_51 hX) (by omega) (by omega) (k.up (by omega)))
  · refine fin_pop (d := d + 3) (X := (wI 5216 (nI p') S2)) (S := S2) h2 hp2 hk2 hl (CFw_I (by decide)) (Or.inr ⟨_, rfl⟩) (rIe _ _ _) (fun S' hA => cj_tn (tu := 0) (al := 1) hr1 (Or.inl ⟨rfl, rfl, rfl⟩) (mJf_7 (d := d + 4) (by omega) (by omega) hr2 (t0 ct) rfl (by decide) hA)) hF2 (fun P T gT Q β D z nn g0 g1 g3 g4 g5 gn Sr hS hX => ⟨hX2 hX, ?_⟩) hq' hokJ
    obtain ⟨hw, e, hw2, he⟩ := hr P T hS
    have k := cj_ref (d := d + 1) (nx := nI (topC (x :: r) + offC (x :: r) - 1)) h2 (hX2 hX) (by omega) (Or.inr ⟨rfl, ct⟩)
    exact rRn_1 (ftR_of (XR_top hX) hr30 (rw_of hX hw) (by omega) (by omega)) (Or.inr rfl) (rcj_12f (d := d + 6) (XR_top hX) hr30 (rw_of hX hw) (rw_of hX hw2) he (XR_51 hX) (by omega) (by omega) (k.up (by omega)))
theorem and_S (h : CI F loc par ty G tq (x :: r) S) (hpc : PC w pT S) (hck : clk S) (h5 : sI S 5216 = nI (vP x)) (hp : vP x + 1 < pT) (hw0 : w (vP x) = nI 6) (hw1 : w (vP x + 1) = nI p') (hl : lob (vL x) + 1 ≤ vH x) (hq : vQ x + 2 < 2 ^ 20) (hq' : q' < 2 ^ 20) (hr : ∀ P T, St P T → rwT P T (vM x) (vQ x) (nI 13) ∧ ∃ e, rwT P T (vM x) (vQ x + 1) e ∧ nI (vQ x + 1) + e = nI q') (hokJ : ok (vAt x p' q' (vS x) :: r)) (hokN : ok (vAt x (vP x + 2) (vQ x + 2) (vH x - 1, vU x, vL x) :: r)) : stp St F loc par G tq w pT (d + 14) (x :: r) S ok := by
  have hr30 : r.length ≤ 30 := h.2.2.2.2.2.2.1.2.2.2
  obtain ⟨l1, l2, l3, l4, l5⟩ := CI_len h
  have hT := CI_T h
  obtain ⟨S1, S2, hr1, hr2, h2, hp2, hk2, hF2, h52, hX2⟩ := cj_set (d := d) h hpc hck h5 hp hw0 hw1
  obtain ⟨t1, t0⟩ := tru_C (d := d + 1) (i := 0) h2 (by omega)
  by_cases ct : truV S2 (sL S2 47 (topC (x :: r) - 1 - 0)) (sL S2 48 (topC (x :: r) - 1 - 0))
  · refine fin_pop (d := d + 3) (X := S2) (S := S2) h2 hp2 hk2 hl (CFg.refl _ _ _) (Or.inl rfl) h52 (fun S' hA => cj_tn (tu := 0) (al := 0) hr1 (Or.inr (Or.inl ⟨rfl, rfl, rfl⟩)) (mJf_2 (d := d + 4) (by omega) (by omega) hr2 (t1 ct) (by decide) rfl hA)) hF2 (fun P T gT Q β D z nn g0 g1 g3 g4 g5 gn Sr hS hX => ⟨hX2 hX, ?_⟩) hq hokN
    obtain ⟨hw, e, hw2, he⟩ := hr P T hS
    have k := cj_ref (d := d + 1) (nx := nI (topC (x :: r) + offC (x :: r))) h2 (hX2 hX) (by omega) (Or.inl ⟨rfl, ct⟩)
    rw [wI_51 hX] at k
    exact rRn_1 (ftR_of (XR_top hX) hr30 (rw_of hX hw) (by omega) (by omega)) (Or.inr rfl) (rcj_13t (d := d + 6) (XR_top hX) hr30 (rw_of hX hw) (XR_51 hX) (by omega) (by omega) (k.up (by omega)))
  · refine fin_keep h2 hp2 hk2 hF2 (cj_tn (tu := 0) (al := 0) hr1 (Or.inr (Or.inl ⟨rfl, rfl, rfl⟩)) (mJf_8 (d := d + 4) (by omega) (by omega) hr2 (t0 ct) rfl rfl)) hX2 (fun {P T gT Q β D z nn g0 g1 g3 g4 g5 gn Sr} hS hX => ?_) hq' hokJ
    obtain ⟨hw, e, hw2, he⟩ := hr P T hS
    have k := cj_ref (d := d + 1) (nx := nI (topC (x :: r) + offC (x :: r))) h2 (hX2 hX) (by omega) (Or.inr ⟨rfl, ct⟩)
    rw [wI_51 hX] at k
    exact rRn_1 (ftR_of (XR_top hX) hr30 (rw_of hX hw) (by omega) (by omega)) (Or.inr rfl) (rcj_13f (d := d + 6) (XR_top hX) hr30 (rw_of hX hw) (rw_of hX hw2) he (XR_51 hX) (by omega) (by omega) (k.up (by omega)))
theorem or_S (h : CI F loc par ty G tq (x :: r) S) (hpc : PC w pT S) (hck : clk S) (h5 : sI S 5216 = nI (vP x)) (hp : vP x + 1 < pT) (hw0 : w (vP x) = nI 7) (hw1 : w (vP x + 1) = nI p') (hl : lob (vL x) + 1 ≤ vH x) (hq : vQ x + 2 < 2 ^ 20) (hq' : q' < 2 ^ 20) (hr : ∀ P T, St P T → rwT P T (vM x) (vQ x) (nI 14) ∧ ∃ e, rwT P T (vM x) (vQ x + 1) e ∧ nI (vQ x + 1) + e = nI q') (hokJ : ok (vAt x p' q' (vS x) :: r)) (hokN : ok (vAt x (vP x + 2) (vQ x + 2) (vH x - 1, vU x, vL x) :: r)) : stp St F loc par G tq w pT (d + 14) (x :: r) S ok := by
  have hr30 : r.length ≤ 30 := h.2.2.2.2.2.2.1.2.2.2
  obtain ⟨l1, l2, l3, l4, l5⟩ := CI_len h
  have hT := CI_T h
  obtain ⟨S1, S2, hr1, hr2, h2, hp2, hk2, hF2, h52, hX2⟩ := cj_set (d := d) h hpc hck h5 hp hw0 hw1
  obtain ⟨t1, t0⟩ := tru_C (d := d + 1) (i := 0) h2 (by omega)
  by_cases ct : truV S2 (sL S2 47 (topC (x :: r) - 1 - 0)) (sL S2 48 (topC (x :: r) - 1 - 0))
  · refine fin_keep h2 hp2 hk2 hF2 (cj_tn (tu := 1) (al := 0) hr1 (Or.inr (Or.inr ⟨rfl, rfl, rfl⟩)) (mJf_4 (d := d + 4) (by omega) (by omega) hr2 (t1 ct) rfl rfl)) hX2 (fun {P T gT Q β D z nn g0 g1 g3 g4 g5 gn Sr} hS hX => ?_) hq' hokJ
    obtain ⟨hw, e, hw2, he⟩ := hr P T hS
    have k := cj_ref (d := d + 1) (nx := nI (topC (x :: r) + offC (x :: r))) h2 (hX2 hX) (by omega) (Or.inl ⟨rfl, ct⟩)
    rw [wI_51 hX] at k
    exact rRn_1 (ftR_of (XR_top hX) hr30 (rw_of hX hw) (by omega) (by omega)) (Or.inr rfl) (rcj_14t (d := d + 6) (XR_top hX) hr30 (rw_of hX hw) (rw_of hX hw2) he (XR_51 hX) (by omega) (by omega) (k.up (by omega)))
  · refine fin_pop (d := d + 3) (X := S2) (S := S2) h2 hp2 hk2 hl (CFg.refl _ _ _) (Or.inl rfl) h52 (fun S' hA => cj_tn (tu := 1) (al := 0) hr1 (Or.inr (Or.inr ⟨rfl, rfl, rfl⟩)) (mJf_6 (d := d + 4) (by omega) (by omega) hr2 (t0 ct) (by decide) rfl hA)) hF2 (fun P T gT Q β D z nn g0 g1 g3 g4 g5 gn Sr hS hX => ⟨hX2 hX, ?_⟩) hq hokN
    obtain ⟨hw, e, hw2, he⟩ := hr P T hS
    have k := cj_ref (d := d + 1) (nx := nI (topC (x :: r) + offC (x :: r))) h2 (hX2 hX) (by omega) (Or.inr ⟨rfl, ct⟩)
    rw [wI_51 hX] at k
    exact rRn_1 (ftR_of (XR_top hX) hr30 (rw_of hX hw) (by omega) (by omega)) (Or.inr rfl) (rcj_14f (d := d + 6) (XR_top hX) hr30 (rw_of hX hw) (XR_51 hX) (by omega) (by omega) (k.up (by omega)))
end
