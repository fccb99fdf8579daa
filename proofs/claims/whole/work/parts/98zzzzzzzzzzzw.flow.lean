/-! FLOW ON BOTH SIDES: a step in general; a statement, a line, a jump -/
def cfI1 : List Nat := [213, 214, 215, 216, 1608, 4603, 4906, 4907, 5213, 5214, 5215, 5216, 5217]
def cfA1 : List Nat := [3, 4, 5, 6, 7, 8, 9, 10, 12, 13, 14, 15, 50, 51, 54, 55, 56, 57, 58, 59, 60]
/-- what a run of the class's machine leaves alone -/
def CFw (S W : cS) : Prop := CFg cfI1 cfA1 S W
/-- the class's clock -/
def clk (S : cS) : Prop := ∃ s f : Nat, sI S 5218 = nI s ∧ sI S 5219 = nI f ∧ s ≤ f ∧ f < 2 ^ 31
def hP (C : List Lv) : Nat := match C with
  | [] => 0
  | x :: _ => vP x
/-- a step of both: they go on with frames that are ok, or meet an error -/
def stp (St : (Nat → Prop) → cS → Prop) (F : Nat → Nat → Nat → Prop) (loc par : Nat → Nat → Nat) (G : Nat → Nat → Nat → Nat × Nat × LL → Prop) (tq : Nat → Nat × Nat) (w : Nat → Int32) (pT d : Nat) (C : List Lv) (S : cS) (ok : List Lv → Prop) : Prop :=
  (∃ (ty' : Nat → Nat × Nat) (tq' : Nat → Nat × Nat) (C' : List Lv) (S' : cS), ok C' ∧ tnC d S S' ∧ CI F loc par ty' G tq' C' S' ∧ (sI S' 5216 = nI (hP C') ∧ PC w pT S' ∧ clk S' ∧ CFw S S') ∧ ∀ P T gT Q β D z nn g0 g1 g3 g4 g5 gn Sr, St P T → XR P T gT Q β F D z nn g0 g1 g3 g4 g5 gn tq C S Sr → ∃ Q' β' D' nn' h0 h1 h3 h4 h5 hn W, (∃ n, rRn (d + 1) n Sr 1 W) ∧ XR P T gT Q' β' F D' z nn' h0 h1 h3 h4 h5 hn tq' C' S' W) ∨ ∃ (e : Nat) (ty' : Nat → Nat × Nat) (x' : Lv) (r' : List Lv) (S' : cS), (1 ≤ e ∧ e ≤ 100) ∧ tnE' d S S' e ∧ CI F loc par ty' G tq (x' :: r') S' ∧ (PC w pT S' ∧ clk S' ∧ CFw S S') ∧ ∀ P T gT Q β D z nn g0 g1 g3 g4 g5 gn Sr, St P T → XR P T gT Q β F D z nn g0 g1 g3 g4 g5 gn tq C S Sr → ∃ Q' β' D' nn' h0 h1 h3 h4 h5 hn W, (∃ n, rRn (d + 1) n Sr 0 W) ∧ sI W 6164 = nI e ∧ XRe P T gT Q' β' F D' z nn' h0 h1 h3 h4 h5 hn tq x' r' S' W
theorem CFr.w {S W : cS} (h : CFr S W) : CFw S W := by
  obtain ⟨a1, a2, a3, a4, a5⟩ := h
  have s1 : ∀ i, i ∈ cfI → i ∈ cfI1 := by decide
  have s2 : ∀ i, i ∈ cfA → i ∈ cfA1 := by decide
  exact ⟨a1, a2, fun i hi => a3 i (fun c => hi (s1 i c)), fun i hi => a4 i (fun c => hi (s2 i c)), a5⟩
theorem CFw.trans {S S1 S2 : cS} (h : CFw S S1) (g : CFw S1 S2) : CFw S S2 := CFg.trans h g
theorem CFw_I {i : Nat} {k : Int32} {S : cS} (hi : i ∈ cfI1) : CFw S (wI i k S) := ⟨rfl, rfl, fun j hj => by rw [rI, if_neg (fun c => hj (by rw [c]; exact hi))], fun _ _ => rfl, fun _ _ _ => rfl, fun _ _ _ _ => rfl, fun _ _ => rfl, ⟨[], (List.append_nil _).symm⟩, fun _ _ _ h => Or.inl h, Nat.le_refl _, Nat.le_refl _⟩
theorem ne_0' {e : Nat} (h : 1 ≤ e ∧ e ≤ 100) : sm_c1 .ne (nI e) true false = true := by
  show (if nI e = 0 then false else true) = true
  exact if_neg (nI_ne (b := 0) (by omega) (by omega) (by omega) : nI e ≠ nI 0)
theorem CFw_ck {i : Nat} {k : Int32} {S W : cS} (h : CFw S W) : CFw (wI i k S) (wI i k W) := by
  obtain ⟨a1, a2, a3, a4⟩ := h
  refine ⟨a1, a2, fun j hj => ?_, a4⟩
  rw [rI, rI, a3 j hj]
/-- a step of both that is counted -/
def stps (St : (Nat → Prop) → cS → Prop) (F : Nat → Nat → Nat → Prop) (loc par : Nat → Nat → Nat) (G : Nat → Nat → Nat → Nat × Nat × LL → Prop) (tq : Nat → Nat × Nat) (w : Nat → Int32) (pT d : Nat) (C : List Lv) (S : cS) (ok : List Lv → Prop) : Prop :=
  (∃ (ty' : Nat → Nat × Nat) (tq' : Nat → Nat × Nat) (C' : List Lv) (S' : cS), ok C' ∧ tnC d S S' ∧ CI F loc par ty' G tq' C' S' ∧ (sI S' 5216 = nI (hP C') ∧ PC w pT S' ∧ clk S' ∧ ∃ s, sI S 5218 = nI s ∧ CFw (wI 5218 (nI (s + 1)) S) S') ∧ ∀ P T gT Q β D z nn g0 g1 g3 g4 g5 gn Sr, St P T → XR P T gT Q β F D z nn g0 g1 g3 g4 g5 gn tq C S Sr → ∃ Q' β' D' nn' h0 h1 h3 h4 h5 hn W, (∃ n, rRn (d + 1) n Sr 1 W) ∧ XR P T gT Q' β' F D' z nn' h0 h1 h3 h4 h5 hn tq' C' S' W) ∨ ∃ (e : Nat) (ty' : Nat → Nat × Nat) (x' : Lv) (r' : List Lv) (S' : cS), e = 100 ∧ tnE' d S S' e ∧ CI F loc par ty' G tq (x' :: r') S' ∧ (PC w pT S' ∧ clk S' ∧ CFw S S') ∧ ∀ P T gT Q β D z nn g0 g1 g3 g4 g5 gn Sr, St P T → XR P T gT Q β F D z nn g0 g1 g3 g4 g5 gn tq C S Sr → ∃ Q' β' D' nn' h0 h1 h3 h4 h5 hn W, (∃ n, rRn (d + 1) n Sr 0 W) ∧ sI W 6164 = nI e ∧ XRe P T gT Q' β' F D' z nn' h0 h1 h3 h4 h5 hn tq x' r' S' W
section
variable {P : Nat → Prop} {T : cS} {gT : Nat} {Q : Nat → Prop} {β β' : Nat → Nat} {F : Nat → Nat → Nat → Prop} {loc par : Nat → Nat → Nat} {ty : Nat → Nat × Nat} {G : Nat → Nat → Nat → Nat × Nat × LL → Prop} {D D' K : List Nat} {z nn g0 g1 g3 g4 g5 gn d d' v n m p q p' q' pT k e e1 oc ln : Nat} {tq : Nat → Nat × Nat} {C r : List Lv} {x : Lv} {S S' S1 X W Sc Sr : cS} {w : Nat → Int32} {s' : Nat × Nat × LL} {St : (Nat → Prop) → cS → Prop} {ok : List Lv → Prop}
theorem clk_r (h : clk S) (hF : CFr S S') : clk S' := by
  obtain ⟨s, f, h1, h2, h3⟩ := h
  exact ⟨s, f, (hF.2.2.1 5218 (by decide)).trans h1, (hF.2.2.1 5219 (by decide)).trans h2, h3⟩
theorem clk_I {i : Nat} {k : Int32} (h : clk S) (h1 : i ≠ 5218) (h2 : i ≠ 5219) : clk (wI i k S) := by
  obtain ⟨s, f, a1, a2, h3⟩ := h
  exact ⟨s, f, by rw [rI, if_neg (fun c => h1 c.symm)]; exact a1, by rw [rI, if_neg (fun c => h2 c.symm)]; exact a2, h3⟩
/-- a deed's step as a step -/
theorem stp_O (hpc : PC w pT S) (hck : clk S) (h : stepO St F loc par ty G tq d x r p' q' s' S) (hok : ok (vAt x p' q' s' :: r)) : stp St F loc par G tq w pT d (x :: r) S ok := by
  have hw : ∀ {k : Int32} {S'}, CFr (wI 5216 k S) S' → PC w pT S' ∧ clk S' ∧ CFw S S' := fun {k S'} hF => ⟨PC_r (PC_I hpc (by decide)) hF, clk_r (clk_I hck (by decide) (by decide)) hF, (CFw_I (by decide)).trans hF.w⟩
  rcases h with ⟨S', h1, h2, h3, ⟨k, h4⟩, h5⟩ | ⟨e, S', he, h1, h2, ⟨k, h4⟩, h5⟩
  · exact Or.inl ⟨ty, tq, _, S', hok, h1, h2, ⟨h3, hw h4⟩, h5⟩
  · exact Or.inr ⟨e, ty, _, r, S', by omega, h1, h2, hw h4, h5⟩
theorem flw_C {S1 : cS} (hr : Ans (d + 8) 127 [.ref 52] S (some (.int (nI oc))) S1) (ho : 1 ≤ oc ∧ oc ≤ 15) (hA : Ans (d + 8) 128 [.ref 52, .int (nI oc)] S1 (some (.int (nI 0))) S') : tnC (d + 8) S S' := fun {tn v Sf} htn hc lv ex q0 q3 q4 q5 =>
  mPfL_25 (d := d) q0 q3 q4 q5 (by omega) htn (by omega) hr (by omega) hA (by decide) (by omega) (fun lv1 p0 p3 p4 p5 => hc lv1 _ p0 p3 p4 p5)
theorem flw_E {S1 : cS} (hr : Ans (d + 8) 127 [.ref 52] S (some (.int (nI oc))) S1) (ho : 1 ≤ oc ∧ oc ≤ 15) (he : 1 ≤ e ∧ e ≤ 100) (hA : Ans (d + 8) 128 [.ref 52, .int (nI oc)] S1 (some (.int (nI e))) S') : tnE' (d + 8) S S' e := fun {tn v Sf S4 b} htn hb hA2 hc lv ex q0 q3 q4 q5 => by
  rcases hb with c | c
  · subst c
    exact mPfL_23 (d := d) q0 q3 q4 q5 (by omega) htn (by omega) hr (by omega) hA (ne_0' he) hA2 (fun lv1 p0 p3 p4 p5 => hc lv1 p0 p3 p4 p5)
  · subst c
    exact mPfL_22 (d := d) q0 q3 q4 q5 (by omega) htn (by omega) hr (by omega) hA (ne_0' he) hA2 (fun lv1 p0 p3 p4 p5 => hc lv1 p0 p3 p4 p5)
theorem CI_fI {i : Nat} {k : Int32} (h : CI F loc par ty G tq C S) (hi : i = 5217 ∨ i = 5218) : CI F loc par ty G tq C (wI i k S) := CI_F (L1 := [i]) (L2 := []) (L3 := []) h ⟨rfl, fun _ _ => rfl, rfl, rfl, rfl, rfl, fun j hj => if_neg (fun c => hj (List.mem_singleton.mpr c)), fun _ _ => rfl⟩ (fun j hj => by rw [List.mem_singleton] at hj; subst hj; rcases hi with c | c <;> (subst c; decide)) (fun a ha => by cases ha) (fun a ha => by cases ha)
/-- the clocks go on -/
theorem XR_ck {k : Int32} (h : XR P T gT Q β F D z nn g0 g1 g3 g4 g5 gn tq (x :: r) S Sr) : XR P T gT Q β F D z nn g0 g1 g3 g4 g5 gn tq (x :: r) (wI 5218 k S) (wI 6166 k Sr) := by
  obtain ⟨a1, a2, a3, a4, a5, a6, a7, a8, a9, a10, a11⟩ := h
  have eI : ∀ j, j ≠ 6166 → sI (wI 6166 k Sr) j = sI Sr j := fun j hj => if_neg hj
  have eC : ∀ j, j ≠ 5218 → sI (wI 5218 k S) j = sI S j := fun j hj => if_neg hj
  have hN : tnE Sr (wI 6166 k Sr) g0 g1 := ⟨rfl, rfl, rfl, rfl⟩
  refine ⟨HR_c (HR_M (rM_I (by omega) (rM.refl _)) hN a1) (fun q => Iff.rfl) (fun j _ => ⟨rfl, rfl, rfl, rfl, rfl, fun _ _ => rfl⟩), NMw_E a2 rfl rfl rfl rfl hN rfl rfl rfl, rTb_E a3 rfl (fun _ _ _ => rfl) (eI _ (by omega)), stkR_s (C := x :: r) a4 rfl rfl rfl rfl rfl, rCal_E (C := x :: r) a5 rfl (fun _ _ => rfl), ⟨by rw [eI _ (by omega)]; exact a6.1, by rw [eI _ (by omega)]; exact a6.2.1, by rw [eI _ (by omega)]; exact a6.2.2⟩, triX_E (C := x :: r) a7 (fun _ _ => rfl), lnC_E (C := x :: r) a8 rfl (eC _ (by omega)) rfl, ?_, ?_, a11⟩
  · obtain ⟨⟨b1, b2⟩, ⟨o, o1, o2, o3, o4⟩, u, u1, u2⟩ := a9
    exact ⟨⟨by rw [rIe, rIe], by rw [eI _ (by omega), eC _ (by omega)]; exact b2⟩, ⟨o, o1, by rw [eC _ (by omega)]; exact o2, by rw [eI _ (by omega)]; exact o3, o4⟩, u, u1, by rw [eI _ (by omega)]; exact u2⟩
  · obtain ⟨b1, b2, b3, b4, b5, b6, b7, b8, b9⟩ := a10
    exact ⟨b1, fun j hj => by rw [eI _ (by omega)]; exact b2 j hj, b3, b4, b5, b6, fun m zm hm hs j hj => ⟨by rw [eI _ (by omega)]; exact (b7 m zm hm hs j hj).1, (b7 m zm hm hs j hj).2⟩, b8, b9⟩
/-- the line is told -/
theorem XR_ln (h : XR P T gT Q β F D z nn g0 g1 g3 g4 g5 gn tq (x :: r) S Sr) (he : ln < 2 ^ 20) : XR P T gT Q β F D z nn g0 g1 g3 g4 g5 gn tq (x :: r) (wI 5217 (nI ln) S) (wA 98 r.length (nI ln) Sr) := by
  obtain ⟨a1, a2, a3, a4, a5, a6, a7, a8, a9, a10, a11⟩ := h
  have eA : ∀ a, a ≠ 98 → sA (wA 98 r.length (nI ln) Sr) a = sA Sr a := fun a ha => if_neg ha
  have e98 : sA (wA 98 r.length (nI ln) Sr) 98 = va_up (sA Sr 98) r.length (nI ln) := by
    show (if (98 : Nat) = 98 then va_up (sA Sr 98) r.length (nI ln) else sA Sr 98) = _
    rw [if_pos rfl]
  have eC : ∀ j, j ≠ 5217 → sI (wI 5217 (nI ln) S) j = sI S j := fun j hj => if_neg hj
  have hgs := a3.2.2.2.2.2.2.2.1
  have hN : tnE Sr (wA 98 r.length (nI ln) Sr) g0 g1 := ⟨eA g0 (nG_ne hgs.1 (by omega)), eA g1 (nG_ne hgs.2.1 (by omega)), rfl, rfl⟩
  refine ⟨HR_c (HR_M (rM_A ⟨by omega, by omega⟩ (rM.refl _)) hN a1) (fun q => Iff.rfl) (fun j _ => ⟨rfl, rfl, rfl, rfl, rfl, fun _ _ => rfl⟩), NMw_E a2 rfl rfl rfl rfl hN (eA g3 (nG_ne hgs.2.2.1 (by omega))) rfl rfl, rTb_E a3 rfl (fun _ _ _ => rfl) rfl, stkR_s (C := x :: r) a4 rfl rfl (eA 91 (by omega)) rfl rfl, rCal_E (C := x :: r) a5 rfl (fun a ha => eA a (fun c => by rw [c] at ha; revert ha; decide)), a6, triX_E (C := x :: r) a7 (fun a ha => eA a (fun c => by rw [c] at ha; revert ha; decide)), ?_, ?_, ?_, a11⟩
  · obtain ⟨b1, _⟩ := a8
    refine ⟨fun i hi => ?_, ln, he, rIe _ _ _, ?_⟩
    · obtain ⟨e, e1, e2, e3⟩ := b1 i hi
      refine ⟨e, e1, e2, ?_⟩
      rw [e98]
      exact (if_neg (by omega)).trans e3
    · rw [e98]
      exact if_pos rfl
  · obtain ⟨⟨b1, b2⟩, ⟨o, o1, o2, o3, o4⟩, hu⟩ := a9
    exact ⟨⟨by rw [eC _ (by omega)]; exact b1, by rw [eC _ (by omega)]; exact b2⟩, ⟨o, o1, by rw [eC _ (by omega)]; exact o2, o3, fun i hi => by rw [eA 106 (by omega)]; exact o4 i hi⟩, hu⟩
  · obtain ⟨b1, b2, b3, b4, b5, b6, b7, b8, b9⟩ := a10
    exact ⟨b1, b2, b3, b4, fun a ha => ⟨by rw [eA a (by have := (a11.1 a ha).2; omega)]; exact (b5 a ha).1, (b5 a ha).2⟩, b6, b7, b8, b9⟩
/-- a jump of both -/
theorem jump_S (h : CI F loc par ty G tq (x :: r) S) (hpc : PC w pT S) (hck : clk S) (h5 : sI S 5216 = nI (vP x)) (hp : vP x + 1 < pT) (hw0 : w (vP x) = nI 4) (hw1 : w (vP x + 1) = nI p') (hq' : q' < 2 ^ 20) (hr : ∀ P T, St P T → rwT P T (vM x) (vQ x) (nI 11) ∧ ∃ e, rwT P T (vM x) (vQ x + 1) e ∧ nI (vQ x + 1) + e = nI q') (hok : ok (vAt x p' q' (vS x) :: r)) : stp St F loc par G tq w pT (d + 8) (x :: r) S ok := by
  have m350 := ml_350
  have hr1 := rd_T (d := d + 6) hpc h5 (by omega)
  rw [hw0] at hr1
  have hr30 : r.length ≤ 30 := h.2.2.2.2.2.2.1.2.2.2
  have hj := flow_jump (d := d + 5) (S := wI 5216 (nI (vP x + 1)) S) (q := vP x + 1) (p := pT) (x := p') (rIe _ _ _) (by rw [rI, if_neg (by decide : (2307 : Nat) ≠ 5216)]; exact hpc.2.1) hp hpc.2.2 (by rw [← hw1, ← hpc.1]; rfl)
  refine Or.inl ⟨ty, tq, _, _, hok, flw_C hr1 (by omega) hj, CI_pl (CI_pl (CI_pl (CI_at h p' q'))), ⟨rIe _ _ _, PC_I (PC_I (PC_I hpc (by decide)) (by decide)) (by decide), clk_I (clk_I (clk_I hck (by decide) (by decide)) (by decide) (by decide)) (by decide) (by decide), ((CFw_I (by decide)).trans (CFw_I (by decide))).trans (CFw_I (by decide))⟩, fun P T gT Q β D z nn g0 g1 g3 g4 g5 gn Sr hS hX => ?_⟩
  obtain ⟨hw, e, hw2, he⟩ := hr P T hS
  obtain ⟨t1, t2, t3, t4⟩ := XR_top hX
  obtain ⟨a0, N0, zm0, _, _, h3', _, _, _, _, h8'⟩ := rw_of hX hw
  obtain ⟨a, N, zm, h1, h2, h3, h4, hN, h6, h7, h8⟩ := rw_of hX hw2
  have ea : a0 = a := Value.ref.inj (h3'.symm.trans h3)
  subst ea
  refine ⟨Q, β, D, nn, g0, g1, g3, g4, g5, gn, _, rRn_1 (ftR_of ⟨t1, t2, t3, t4⟩ hr30 (rw_of hX hw) (by omega) (by omega)) (Or.inr rfl) (Ans.of (by rw [m350]; exact Nat.le_of_ble_eq_true rfl) (Bod.lv (by rfl) (rOn_14 (d := d) t1 (by omega) (by omega) t2 t3 h1 t4 h2 h3 h4 hN (by omega) h8' (by omega) rfl h7))), ?_⟩
  rw [h8, he]
  exact XR_pl (XR_pl (XR_pl (XR_at hX hq' p')))
end
