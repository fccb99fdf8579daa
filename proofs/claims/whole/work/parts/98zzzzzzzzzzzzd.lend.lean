/-! FLOW ON BOTH SIDES: marks of a label dropped; a loop ends (11 | 33) -/
section
variable {P : Nat → Prop} {T : cS} {gT : Nat} {Q : Nat → Prop} {β β' : Nat → Nat} {F : Nat → Nat → Nat → Prop} {loc par : Nat → Nat → Nat} {ty : Nat → Nat × Nat} {G : Nat → Nat → Nat → Nat × Nat × LL → Prop} {D D' K : List Nat} {z nn g0 g1 g3 g4 g5 gn d d' v n m p q p' q' P' Q' pT k e e1 oc ln tp rc i s t : Nat} {tq : Nat → Nat × Nat} {C r : List Lv} {x : Lv} {S S' S1 S2 X W Sc Sr : cS} {w : Nat → Int32} {s' : Nat × Nat × LL} {St : (Nat → Prop) → cS → Prop} {ok : List Lv → Prop} {l' : List (Nat × Nat)}
theorem lob_s (l' : List (Nat × Nat)) (s s2 : Nat) : lob (l', s) = lob (l', s2) := rfl
/-- what a label with fewer marks asks -/
theorem lab_2 (hb : lbo (vS x)) (hx : vL x = ((i, 2) :: l', s)) : vU x = tms l' ∧ srt l' ∧ lob (l', s) ≤ i := by
  obtain ⟨l1, l2, l3, l4, l5⟩ := hb
  have hxS : (vS x).2.2 = ((i, 2) :: l', s) := hx
  refine ⟨?_, ?_, ?_⟩
  · have : (vS x).2.1 = tms (vS x).2.2.1 := l1
    rw [hxS] at this
    have e2 : tms ((i, 2) :: l') = (if (i, 2).2 = 0 then 1 else 0) + tms l' := rfl
    rw [e2, if_neg (show ¬ (2 : Nat) = 0 by omega), Nat.zero_add] at this
    exact this
  · have : srt (vS x).2.2.1 := l2
    rw [hxS] at this
    exact this.2
  · have : srt (vS x).2.2.1 := l2
    rw [hxS] at this
    exact this.1
theorem CI_dr2 (h : CI F loc par ty G tq (x :: r) S) (hx : vL x = ((i, 2) :: l', s)) (p q : Nat) : CI F loc par ty G tq (vAt x p q (vH x, vU x, (l', s)) :: r) S := by
  obtain ⟨a1, a2, a3, a4, a5, a6, a7, a8, a9⟩ := h
  obtain ⟨m1, m2, m3⟩ := a3
  obtain ⟨b1, b2, b3⟩ := lab_2 m2 hx
  obtain ⟨l1, l2, l3, l4, l5⟩ := m2
  have hl : lob (vL x) ≤ vH x := l3
  rw [hx] at m1 hl
  have hl' : i + 2 ≤ vH x := hl
  refine ⟨a1, a2, ⟨⟨fun j hj => ⟨(m1.1 j hj).1, fun c => ?_⟩, fun y hy => m1.2 y (List.mem_cons_of_mem _ hy)⟩, ⟨b1, b2, by show lob (l', s) ≤ vH x; omega, l4, l5⟩, m3⟩, a4, ?_, ?_, a7, ?_, a9⟩
  · have := (m1.1 j hj).2 c
    rcases List.mem_cons.mp this with c2 | c2
    · injection c2 with _ c3
      exact absurd c3 (by omega)
    · exact c2
  · cases r with
    | nil => exact a5
    | cons y r => exact a5
  · have es : (vL x).2 = s := by rw [hx]
    obtain ⟨c1, c2, c3⟩ := a6
    rw [es] at c1 c2
    exact ⟨c1, c2, c3⟩
  · obtain ⟨c1, c2⟩ := a8
    have es : (vL x).2 = s := by rw [hx]
    refine ⟨fun e' y l'' hl'' => ?_, c2⟩
    have hl3 : l' = e' ++ (y, 0) :: l'' := hl''
    have := c1 ((i, 2) :: e') y l'' (by rw [hx, hl3]; rfl)
    rw [es] at this
    exact this
theorem XR_dr2 (hX : XR P T gT Q β F D z nn g0 g1 g3 g4 g5 gn tq (x :: r) S Sr) (hx : vL x = ((i, 2) :: l', s)) : XR P T gT Q β F D z nn g0 g1 g3 g4 g5 gn tq (vAt x (vP x) (vQ x) (vH x, vU x, (l', s)) :: r) S Sr := by
  obtain ⟨a1, a2, a3, a4, a5, a6, a7, a8, a9, a10, a11⟩ := hX
  refine ⟨a1, a2, a3, a4, a5, a6, ?_, a8, a9, a10, a11⟩
  obtain ⟨c1, c2⟩ := a7
  refine ⟨fun e' y l'' hl'' => ?_, c2⟩
  have hl3 : l' = e' ++ (y, 0) :: l'' := hl''
  exact c1 ((i, 2) :: e') y l'' (by rw [hx, hl3]; rfl)
/-- a loop ends: its list and its int go -/
theorem forend_S (h : CI F loc par ty G tq (x :: r) S) (hpc : PC w pT S) (hck : clk S) (h5 : sI S 5216 = nI (vP x)) (hp : vP x < pT) (hw0 : w (vP x) = nI 11) (hx : vL x = ((i, 2) :: l', s)) (hH : vH x = i + 2) (hq : vQ x + 1 < 2 ^ 20) (hr : ∀ P T, St P T → rwT P T (vM x) (vQ x) (nI 33)) (hok : ok (vAt x (vP x + 1) (vQ x + 1) (i, vU x, (l', s)) :: r)) : stp St F loc par G tq w pT (d + 11) (x :: r) S ok := by
  have m128 := ml_128
  have m400 := ml_400
  have hr30 : r.length ≤ 30 := h.2.2.2.2.2.2.1.2.2.2
  obtain ⟨l1, l2, l3, l4, l5⟩ := CI_len h
  have hT := CI_T h
  have hr1 := rd_T (d := d + 9) hpc h5 hp
  rw [hw0] at hr1
  obtain ⟨_, _, b3⟩ := lab_2 h.2.2.1.2.1 hx
  have hC := CI_pl (k := nI (vP x + 1)) (CI_dr2 h hx (vP x) (vQ x))
  obtain ⟨S', p1, p2, p3, p4⟩ := pop_B (d := d) (v := 2) hC (by show lob (l', s) + 2 ≤ vH x; omega)
  have hb : Ans (d + 11) 128 [.ref 52, .int (nI 11)] (wI 5216 (nI (vP x + 1)) S) (some (.int (nI 0))) S' := Ans.of (by rw [m128]; exact Nat.le_of_ble_eq_true rfl) (Bod.lv (by rfl) (mFw11_1 (d := d + 2) (p1.up (by omega))))
  have ht : tnC (d + 11) S S' := by
    have ho : 1 ≤ 11 ∧ 11 ≤ 15 := by omega
    intro tn v Sf
    exact flw_C (d := d + 3) hr1 ho hb
  have eH : vH x - 2 = i := by omega
  have hC2 := p2 (vP x + 1) (vQ x + 1)
  have hC3 : CI F loc par ty G tq (vAt x (vP x + 1) (vQ x + 1) (vH x - 2, vU x, (l', s)) :: r) S' := hC2
  rw [eH] at hC3
  refine Or.inl ⟨ty, tq, _, S', hok, ht, hC3, ⟨(p3.2.2.1 5216 (by decide)).trans (rIe _ _ _), PC_r (PC_I hpc (by decide)) p3, clk_r (clk_I hck (by decide) (by decide)) p3, (CFw_I (by decide)).trans p3.w⟩, fun P T gT Q β D z nn g0 g1 g3 g4 g5 gn Sr hS hX => ?_⟩
  have hX1 := XR_pl (k := nI (vP x + 1)) (XR_dr2 hX hx)
  obtain ⟨D', hX2⟩ := p4 P T gT Q β D z nn g0 g1 g3 g4 g5 gn Sr (wI 6151 (nI (topC (x :: r) + offC (x :: r) - 2)) Sr) hX1 (sFr_I ⟨rfl, rfl, rfl, rfl, rfl, fun _ _ => rfl, fun _ _ _ _ => rfl, fun _ _ _ => rfl, fun _ _ => ⟨rfl, rfl, rfl⟩⟩) (rIe _ _ _)
  have hX3 := XR_at hX2 hq (vP x + 1)
  have hX4 : XR P T gT Q β F D' z nn g0 g1 g3 g4 g5 gn tq (vAt x (vP x + 1) (vQ x + 1) (vH x - 2, vU x, (l', s)) :: r) S' (wA 95 r.length (nI (vQ x + 1)) (wI 6151 (nI (topC (x :: r) + offC (x :: r) - 2)) Sr)) := hX3
  rw [eH] at hX4
  have hb2 : Ans (d + 11) 400 [.ref 61, .int (nI 33), .int (nI 0)] (wA 95 r.length (nI (vQ x + 1)) Sr) (some (.int 1)) (wI 6151 (nI (topC (x :: r) + offC (x :: r) - 2)) (wA 95 r.length (nI (vQ x + 1)) Sr)) := Ans.of (by rw [m400]; exact Nat.le_of_ble_eq_true rfl) (Bod.lv (by rfl) (rPl_38 (d := d + 2) (by omega) (by omega) rfl (at_51 hX) (by omega) (by omega)))
  exact ⟨Q, β, D', nn, g0, g1, g3, g4, g5, gn, _, hon_n (d := d + 3) (XR_top hX) hr30 (rw_of hX (hr P T hS)) (by omega) (by omega) (by decide) (by decide) (Or.inr rfl) hb2, hX4⟩
end
