/-! CALLS: both behind the beginning of a call -/
section
variable {P : Nat → Prop} {T : cS} {gT : Nat} {Q : Nat → Prop} {β β' : Nat → Nat} {F : Nat → Nat → Nat → Prop} {loc par : Nat → Nat → Nat} {ty : Nat → Nat × Nat} {G : Nat → Nat → Nat → Nat × Nat × LL → Prop} {D D' K : List Nat} {z nn g0 g1 g3 g4 g5 gn d n m p q k j f s t i e md st qt r0 tt : Nat} {l' : List (Nat × Nat)} {tq : Nat → Nat × Nat} {C r : List Lv} {x : Lv} {S S' S1 X W W' Sc Sr : cS} {hi lo a b : Int64}
/-- the reference's registers of a call that begins -/
def rEnW (cl m at' : Nat) (fr bs mk : Int32) (tr tp : Nat) (W : cS) : cS := wI 6159 (nI (cl + 1)) (wA 100 cl mk (wA 99 cl (nI tr) (wA 98 cl (nI 0) (wA 97 cl bs (wA 96 cl fr (wA 95 cl (nI at') (wQ 94 cl (some m) (wI 6151 (nI tp) W))))))))
theorem rEnW_I {cl m at' tr tp : Nat} {fr bs mk : Int32} {W : cS} : (∀ i, i ≠ 6159 → i ≠ 6151 → sI (rEnW cl m at' fr bs mk tr tp W) i = sI W i) ∧ sI (rEnW cl m at' fr bs mk tr tp W) 6159 = nI (cl + 1) ∧ sI (rEnW cl m at' fr bs mk tr tp W) 6151 = nI tp := ⟨fun i h1 h2 => (rIn _ _ h1).trans (rIn _ W h2), rIe _ _ _, (rIn _ _ (by decide)).trans (rIe 6151 (nI tp) W)⟩
theorem rCal_X (h : rCal β S C) (eq : ∀ i, i < C.length → sQ W 94 i = sQ S 94 i) (e : ∀ a, a ∈ [95, 96, 97, 99, 100] → ∀ i, i < C.length → sA W a i = sA S a i) : rCal β W C := by
  induction C with
  | nil => exact h
  | cons x r ih =>
    obtain ⟨h1, h2⟩ := h
    have hl : r.length < (x :: r).length := by simp only [List.length_cons]; omega
    exact ⟨by rw [eq _ hl, e 95 (by decide) _ hl, e 96 (by decide) _ hl, e 97 (by decide) _ hl, e 99 (by decide) _ hl, e 100 (by decide) _ hl]; exact h1, ih h2 (fun i hi => eq i (by rw [List.length_cons]; omega)) (fun a ha i hi => e a ha i (by rw [List.length_cons]; omega))⟩
theorem XR_ent (h : CI F loc par ty G tq (x :: r) S) (hX : XR P T gT Q β F D z nn g0 g1 g3 g4 g5 gn tq (x :: r) S S1) (hx : vL x = ((i, 1) :: l', s)) (hH : i + 1 + (if md = 0 then 0 else 1) ≤ vH x) (hmd : md ≠ 0 → lv S md ∧ sL S 47 (vB x + i + 1) = 4611686018427387904 ∧ sL S 48 (vB x + i + 1) = lN md) (hk1 : 1 ≤ k ∧ k ≤ 1500 ∧ ¬ lv S k) (hl : ∀ o, lv S' o ↔ lv S o ∨ o = k) (hE : ∀ o, lv S o → obE S S' o) (hst : ∀ p, p < vB x + i + 1 → sL S' 47 p = sL S 47 p ∧ sL S' 48 p = sL S 48 p) (hnm : ∀ b, b ∈ [17, 18, 21, 22] → sL S' b = sL S b) (hI : ∀ w, w ∈ [5217, 5218, 5219, 4906] → sI S' w = sI S w) (h50 : sA S' 50 = sA S 50) (h55 : ∀ w, sA S' 55 w = if w = r.length then sI S 5217 else sA S 55 w) (hcl' : h_cl S') (hok' : h_ok S' k) (hr : r0 < 1500) (h0 : sA S1 87 r0 = 0) (ht : sQ S1 86 r0 = some t) (hT : tF r0 t S1 W) (hw : tOk W r0 t) (h87 : sA W 87 r0 = nI 1) (hbk : β' k = r0) (hβ : ∀ j, j ≠ k → β' j = β j) (ho : obR β' F S' W g0 g1 nn k) (hqt : qt < 2 ^ 20) (he : e < 2 ^ 20) (hW' : W' = rEnW (r.length + 1) m qt (nI r0) (nI (vB x + i + offC (x :: r))) (if md = 0 then nI 0 else nI 1) (vT x + vU x) (vB x + i + 1 + (if md = 0 then 0 else 1) + offC (x :: r)) W) : XR P T gT Q β' F D z nn g0 g1 g3 g4 g5 gn tq ((m, vB x + i + 1, k, md, vT x + vU x, (st, qt), (0, 0, ([], j + 1))) :: vAt x (vP x) (vQ x) (i + 1, vU x, (l', s)) :: r) (wI 5217 (nI e) S') (wA 98 (r.length + 1) (nI e) W') := by
  have hb : ∀ j, lv S j → β' j = β j := fun j hj => hβ j (fun c => hk1.2.2 (c ▸ hj))
  obtain ⟨a1, a2, a3, a4, a5, a6, a7, a8, a9, a10, a11⟩ := hX
  have hm := h.1
  have hlv := lvOk_mem h.2.2.2.2.2.1
  have hcal := h.2.2.2.2.1
  have hlo := cCal_lo hcal
  have hQ := a1.wf
  have tQ := fun {a : Nat} (ha : Q a) (h87 : a ≠ 87) => tF_Q hQ hT hr ht ha h87
  have q108 : ∀ a, a < 108 → Q a := hQ.2.2.2.2.1
  obtain ⟨t1, t2, N, t3⟩ := tOk_t (hQ.1 _ t hr ht)
  have hkp := rKp_tF a10 a11 hQ hT hr ht
  have hNn := tF_N hQ hT hr ht a1.2.2.2.2.2.2.2.2.2.1
  have hgq := a3.2.2.2.2.2.2.1
  have hgs := a3.2.2.2.2.2.2.2.1
  have hHR := HR_new a1 hr h0 ht hT hw h87 hk1.2.2 hl hE (mHS_cl hm) hcl' hok' hbk hβ ho
  obtain ⟨w1, w2, ⟨lw, w3⟩, w4, _⟩ := hT
  have eWI : ∀ i, i < 10800 → sI W i = sI S1 i := fun i hi => (w4 i (fun j _ => by omega)).1
  have eWA : ∀ a, a < 108 → a ≠ 87 → sA W a = sA S1 a := fun a ha hn => (tQ (q108 a ha) hn).1
  have eWL : ∀ a, a < 108 → a ≠ 87 → sL W a = sL S1 a := fun a ha hn => (tQ (q108 a ha) hn).2
  have eWV : ∀ i, i < 10800 → sV W i = sV S1 i := fun i hi => (w4 i (fun j _ => by omega)).2
  -- the registers
  obtain ⟨V, hV⟩ : ∃ V, V = wA 98 (r.length + 1) (nI e) W' := ⟨_, rfl⟩
  rw [← hV]
  have vS1 : sS V = sS W := by rw [hV, hW']; rfl
  have vV1 : sV V = sV W := by rw [hV, hW']; rfl
  have vL1 : sL V = sL W := by rw [hV, hW']; rfl
  have vJ1 : sJ V = sJ W := by rw [hV, hW']; rfl
  have vM1 : mu V = mu W := by rw [hV, hW']; rfl
  have vQ1 : ∀ b, b ≠ 94 → sQ V b = sQ W b := fun b hb' => by rw [hV, hW']; exact if_neg hb'
  have vQ2 : ∀ i, sQ V 94 i = if i = r.length + 1 then some m else sQ W 94 i := fun i => by rw [hV, hW']; rfl
  obtain ⟨i1, i2, i3⟩ := rEnW_I (cl := r.length + 1) (m := m) (at' := qt) (fr := nI r0) (bs := nI (vB x + i + offC (x :: r))) (mk := if md = 0 then nI 0 else nI 1) (tr := vT x + vU x) (tp := vB x + i + 1 + (if md = 0 then 0 else 1) + offC (x :: r)) (W := W)
  rw [← hW'] at i1 i2 i3
  have vI1 : ∀ i, i ≠ 6159 → i ≠ 6151 → sI V i = sI W i := fun i h1 h2 => by
    rw [hV]
    exact i1 i h1 h2
  have vI2 : sI V 6159 = nI (r.length + 1 + 1) := by
    rw [hV]
    exact i2
  have vI3 : sI V 6151 = nI (vB x + i + 1 + (if md = 0 then 0 else 1) + offC (x :: r)) := by
    rw [hV]
    exact i3
  have vA1 : ∀ a, a ∉ [95, 96, 97, 98, 99, 100] → sA V a = sA W a := fun a ha => by
    simp only [List.mem_cons, List.not_mem_nil, or_false, not_or] at ha
    rw [hV, hW']
    unfold rEnW
    exact (if_neg ha.2.2.2.1).trans ((if_neg ha.2.2.2.2.2).trans ((if_neg ha.2.2.2.2.1).trans ((if_neg ha.2.2.2.1).trans ((if_neg ha.2.2.1).trans ((if_neg ha.2.1).trans (if_neg ha.1))))))
  have v95 : ∀ i, sA V 95 i = if i = r.length + 1 then nI qt else sA W 95 i := fun i => by rw [hV, hW']; rfl
  have v96 : ∀ i, sA V 96 i = if i = r.length + 1 then nI r0 else sA W 96 i := fun i => by rw [hV, hW']; rfl
  have v97 : ∀ w, sA V 97 w = if w = r.length + 1 then nI (vB x + i + offC (x :: r)) else sA W 97 w := fun w => by rw [hV, hW']; rfl
  have v98 : ∀ i, sA V 98 i = if i = r.length + 1 then nI e else sA W 98 i := fun i => by
    rw [hV, hW']
    show (if i = r.length + 1 then nI e else if i = r.length + 1 then nI 0 else sA W 98 i) = _
    by_cases c : i = r.length + 1
    · rw [if_pos c, if_pos c]
    · rw [if_neg c, if_neg c, if_neg c]
  have v99 : ∀ i, sA V 99 i = if i = r.length + 1 then nI (vT x + vU x) else sA W 99 i := fun i => by rw [hV, hW']; rfl
  have v100 : ∀ i, sA V 100 i = if i = r.length + 1 then (if md = 0 then nI 0 else nI 1) else sA W 100 i := fun i => by rw [hV, hW']; rfl
  have g6 : ∀ {g : Nat}, nG g → g ∉ [95, 96, 97, 98, 99, 100] := fun h c => by
    have h95 := nG_ne h (a := 95) (by omega)
    have h96 := nG_ne h (a := 96) (by omega)
    have h97 := nG_ne h (a := 97) (by omega)
    have h98 := nG_ne h (a := 98) (by omega)
    have h99 := nG_ne h (a := 99) (by omega)
    have h100 := nG_ne h (a := 100) (by omega)
    simp only [List.mem_cons, List.not_mem_nil, or_false] at c
    omega
  have hN2 : tnE W V g0 g1 := ⟨vA1 g0 (g6 hgs.1), vA1 g1 (g6 hgs.2.1), by rw [vL1], by rw [vL1]⟩
  have hN3 : tnE S1 V g0 g1 := ⟨hN2.1.trans hNn.1, hN2.2.1.trans hNn.2.1, hN2.2.2.1.trans hNn.2.2.1, hN2.2.2.2.trans hNn.2.2.2⟩
  have g87 : ∀ {g : Nat}, nG g → g ≠ 87 := fun h => nG_ne h (by omega)
  have hMM : rM W V := ⟨vS1, vQ1 86 (by omega), vV1, fun i hi => vI1 i (by omega) (by omega), fun a ha => ⟨vA1 a (by simp only [List.mem_cons, List.not_mem_nil, or_false]; omega), by rw [vL1]⟩, vA1 87 (by decide)⟩
  have cI : ∀ i, i ≠ 5217 → sI (wI 5217 (nI e) S') i = sI S' i := fun i hi => if_neg hi
  have ex : (vL x).2 = s := by rw [hx]
  refine ⟨HR_c (HR_M hMM hN2 hHR) (fun q => Iff.rfl) (fun j _ => ⟨rfl, rfl, rfl, rfl, rfl, fun _ _ => rfl⟩), ?_, ?_, ⟨fun w hw => absurd hw (Nat.not_lt_zero _), fun hd => ?_, ⟨fun w hw => ?_, fun hd => ?_, ?_⟩⟩, ⟨⟨?_, ?_, ?_, fun _ => ?_, ?_, ?_, hqt⟩, ?_⟩, ⟨?_, vI2, ?_⟩, ⟨fun e' y l'' hl'' => ?_, ?_⟩, ⟨fun w hw => ?_, e, he, rIe _ _ _, ?_⟩, ?_, ?_, a11⟩
  · exact NMw_E (NMw_b a2 hm.2.2.2.2.2.1 hb) (hnm 21 (by decide)) (hnm 22 (by decide)) (hnm 17 (by decide)) (hnm 18 (by decide)) hN3 ((vA1 g3 (g6 hgs.2.2.1)).trans (tQ hgq.2.2.1 (g87 hgs.2.2.1)).1) ((congrFun vL1 g4).trans (tQ hgq.2.2.2.1 (g87 hgs.2.2.2.1)).2) ((congrFun vL1 g5).trans (tQ hgq.2.2.2.2 (g87 hgs.2.2.2.2)).2)
  · obtain ⟨b1, ⟨b2, b3, b4, b5, b6⟩, ⟨c0, c1, c3, c4, c5⟩, hr⟩ := a3
    exact ⟨by rw [vI1 _ (by omega) (by omega), eWI _ (by omega)]; exact b1, ⟨by rw [vV1, eWV _ (by omega)]; exact b2, by rw [vV1, eWV _ (by omega)]; exact b3, by rw [vV1, eWV _ (by omega)]; exact b4, by rw [vV1, eWV _ (by omega)]; exact b5, by rw [vV1, eWV _ (by omega)]; exact b6⟩, ⟨isK_S vS1 (isK_A w3 c0), isK_S vS1 (isK_A w3 c1), isK_S vS1 (isK_A w3 c3), isK_S vS1 (isK_A w3 c4), isK_S vS1 (isK_A w3 c5)⟩, hr⟩
  · -- what the call makes
    have hd' : md ≠ 0 := hd
    obtain ⟨m1, m2, m3⟩ := hmd hd'
    rw [if_neg hd'] at hH
    have hv := a4.1 (i + 1) (by omega)
    rw [show vB x + (i + 1) = vB x + i + 1 by omega, m2, m3] at hv
    obtain ⟨o, o1, o2, o3⟩ := vrel_ob hv
    have hmo : o = md := by
      rw [(ob_obj m1.2.1).1] at o2
      have := m1.2.1
      exact (nI_j (by omega) (by omega) o2).symm
    have h1md := m1.1
    obtain ⟨_, o4, o5⟩ := o3.resolve_left (fun c => by omega)
    have eo : offC (vAt x (vP x) (vQ x) (i + 1, vU x, (l', s)) :: r) = offC (x :: r) := rfl
    show sA V 91 (vB x + i + 1 + offC (vAt x (vP x) (vQ x) (i + 1, vU x, (l', s)) :: r)) = nI 3 ∧ sL V 92 (vB x + i + 1 + offC (vAt x (vP x) (vQ x) (i + 1, vU x, (l', s)) :: r)) = lN (β' md)
    rw [eo, vA1 91 (by decide), vL1, eWA 91 (by omega) (by omega), eWL 92 (by omega) (by omega), hb md m1, ← hmo]
    exact ⟨o4, o5⟩
  · have hw' : w < i + 1 := hw
    obtain ⟨p1, p2⟩ := hst (vB x + w) (by omega)
    have hv := stkR_b (β' := β') (n := topC (x :: r)) (C := x :: r) a4 hm.2.2.2.2.1 (fun y hy => by
      rcases List.mem_cons.mp hy with e | e
      · rw [e]; exact Nat.le_refl _
      · have := hlo y e
        show _ ≤ vB x + vH x
        omega) (fun y hy => (hlv y hy).2) hb
    have hv1 := hv.1 w (by omega)
    show vrel β' (sL S' 47 (vB x + w)) (sL S' 48 (vB x + w)) (sA V 91 (vB x + w + offC (x :: r))) (sL V 92 (vB x + w + offC (x :: r))) (sL V 93 (vB x + w + offC (x :: r)))
    rw [p1, p2, vA1 91 (by decide), vL1, eWA 91 (by omega) (by omega), eWL 92 (by omega) (by omega), eWL 93 (by omega) (by omega)]
    exact hv1
  · have h2 := a4.2.1 hd
    have hlm := (hlv x List.mem_cons_self).2 hd
    show sA V 91 (vB x + offC r) = nI 3 ∧ sL V 92 (vB x + offC r) = lN (β' (vD x))
    rw [vA1 91 (by decide), vL1, eWA 91 (by omega) (by omega), eWL 92 (by omega) (by omega), hb _ hlm]
    exact h2
  · have hv := stkR_b (β' := β') (n := topC (x :: r)) (C := x :: r) a4 hm.2.2.2.2.1 (fun y hy => by
      rcases List.mem_cons.mp hy with e | e
      · rw [e]; exact Nat.le_refl _
      · have := hlo y e
        show _ ≤ vB x + vH x
        omega) (fun y hy => (hlv y hy).2) hb
    exact stkR_E (n := vB x) hv.2.2 hlo (fun w hw => hst w (by omega)) (fun w _ => by rw [vA1 91 (by decide), vL1, eWA 91 (by omega) (by omega), eWL 92 (by omega) (by omega), eWL 93 (by omega) (by omega)]; exact ⟨rfl, rfl, rfl⟩)
  · rw [vQ2]; exact if_pos rfl
  · rw [v95]; exact if_pos rfl
  · rw [v96]
    show (if r.length + 1 = r.length + 1 then _ else _) = (if k = 0 then Int32.ofInt (-1) else nI (β' k))
    rw [if_pos rfl, if_neg (by omega), hbk]
  · rw [v97]
    exact if_pos rfl
  · rw [v99]; exact if_pos rfl
  · rw [v100]
    show (if r.length + 1 = r.length + 1 then _ else _) = nI (mkb _)
    rw [if_pos rfl]
    show _ = nI (if md = 0 then 0 else 1)
    split <;> rfl
  · have hc := rCal_b a5 (fun y hy => (hlv y hy).1) hb
    have hc2 : rCal β' S1 (vAt x (vP x) (vQ x) (i + 1, vU x, (l', s)) :: r) := hc
    refine rCal_X hc2 (fun w hw => ?_) (fun a ha w hw => ?_)
    · have hw' : w < r.length + 1 := hw
      rw [vQ2, if_neg (by omega), w2]
    · have hw' : w < r.length + 1 := hw
      have hne : w ≠ r.length + 1 := by omega
      simp only [List.mem_cons, List.not_mem_nil, or_false] at ha
      rcases ha with c | c | c | c | c
      · subst c; rw [v95, if_neg hne, eWA 95 (by omega) (by omega)]
      · subst c; rw [v96, if_neg hne, eWA 96 (by omega) (by omega)]
      · subst c; rw [v97, if_neg hne, eWA 97 (by omega) (by omega)]
      · subst c; rw [v99, if_neg hne, eWA 99 (by omega) (by omega)]
      · subst c; rw [v100, if_neg hne, eWA 100 (by omega) (by omega)]
  · rw [vI3]
    congr 1
    show vB x + i + 1 + (if md = 0 then 0 else 1) + offC (x :: r) = vB x + i + 1 + 0 + ((if md = 0 then 0 else 1) + offC (x :: r))
    omega
  · rw [vI1 _ (by omega) (by omega), eWI _ (by omega)]
    exact a6.2.2
  · have hl3 : ([] : List (Nat × Nat)) = e' ++ (y, 0) :: l'' := hl''
    cases e' <;> cases hl3
  · have h7 : triX tq S1 (vAt x (vP x) (vQ x) (i + 1, vU x, (l', s)) :: r) := by
      obtain ⟨c1, c2⟩ := a7
      refine ⟨fun e' y l'' hl'' => ?_, c2⟩
      have hl3 : l' = e' ++ (y, 0) :: l'' := hl''
      exact c1 ((i, 1) :: e') y l'' (by rw [hx, hl3]; rfl)
    exact triX_E h7 (fun a ha => by
      have ha' : 101 ≤ a ∧ a ≤ 103 := by revert a; decide
      rw [vA1 a (by simp only [List.mem_cons, List.not_mem_nil, or_false]; omega), eWA a (by omega) (by omega)])
  · have hw' : w < r.length + 1 := hw
    obtain ⟨c1, c2⟩ := a8
    have q98 : ∀ u, u ≠ r.length + 1 → sA V 98 u = sA S1 98 u := fun u hu => by rw [v98, if_neg hu, eWA 98 (by omega) (by omega)]
    by_cases c : w = r.length
    · obtain ⟨e1, e2, e3, e4⟩ := c2
      refine ⟨e1, e2, ?_, ?_⟩
      · show sA S' 55 w = nI e1
        rw [h55, if_pos c]
        exact e3
      · rw [q98 w (by omega), c]
        exact e4
    · obtain ⟨e1, e2, e3, e4⟩ := c1 w (by omega)
      refine ⟨e1, e2, ?_, ?_⟩
      · show sA S' 55 w = nI e1
        rw [h55, if_neg c]
        exact e3
      · rw [q98 w (by omega)]
        exact e4
  · rw [v98]; exact if_pos rfl
  · obtain ⟨⟨b1, b2⟩, ⟨o, o1, o2, o3, o4⟩, u, u1, u2⟩ := a9
    exact ⟨⟨by rw [vI1 _ (by omega) (by omega), eWI _ (by omega), cI 5218 (by omega), hI 5218 (by decide)]; exact b1, by rw [vI1 _ (by omega) (by omega), eWI _ (by omega), cI 5219 (by omega), hI 5219 (by decide)]; exact b2⟩, ⟨o, o1, by rw [cI 4906 (by omega), hI 4906 (by decide)]; exact o2, by rw [vI1 _ (by omega) (by omega), eWI _ (by omega)]; exact o3, fun i hi => by
      show sA V 106 i = sA S' 50 i
      rw [vA1 106 (by decide), eWA 106 (by omega) (by omega), h50]; exact o4 i hi⟩, u, u1, by rw [vI1 _ (by omega) (by omega), eWI _ (by omega)]; exact u2⟩
  · obtain ⟨b1, b2, b3, ⟨l, b4⟩, b5, b6, b7, b8, b9⟩ := hkp
    obtain ⟨e1, e2⟩ := tc_same (S := W) (W := V) (vQ1 86 (by omega)) vS1 vV1
    have er : rtC V = rtC W ∧ rtN V = rtN W := by unfold rtC rtN; rw [e1, e2]; exact ⟨rfl, rfl⟩
    exact ⟨vJ1.trans b1, fun i hi => by rw [vI1 _ (by omega) (by omega)]; exact b2 i hi, fun i hi hn => by rw [vV1]; exact b3 i hi hn, ⟨l, by rw [vS1]; exact b4⟩, fun c hc => ⟨(vA1 c (by
      have := (a11.1 c hc).2
      simp only [List.mem_cons, List.not_mem_nil, or_false]
      omega)).trans (b5 c hc).1, (congrFun vL1 c).trans (b5 c hc).2⟩, fun c h1 h2 => by rw [vQ1 c h2]; exact b6 c h1 h2, fun m zm hm hs j hj => ⟨by rw [vI1 _ (by omega) (by omega)]; exact (b7 m zm hm hs j hj).1, by rw [vV1]; exact (b7 m zm hm hs j hj).2⟩, by rw [vM1, er.1]; exact b8, by rw [vS1, er.2]; exact b9⟩
end
