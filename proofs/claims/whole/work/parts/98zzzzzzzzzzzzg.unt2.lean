/-! FLOW ON BOTH SIDES: tries left, a step (13 | 35 so many times) -/
section
variable {P : Nat → Prop} {T : cS} {gT : Nat} {Q : Nat → Prop} {β β' : Nat → Nat} {F : Nat → Nat → Nat → Prop} {loc par : Nat → Nat → Nat} {ty : Nat → Nat × Nat} {G : Nat → Nat → Nat → Nat × Nat × LL → Prop} {D D' K : List Nat} {z nn g0 g1 g3 g4 g5 gn d d' v n m p q p' q' P' Q' pT k e e1 oc ln tp rc i s t u2 : Nat} {tq tq' : Nat → Nat × Nat} {C r : List Lv} {x : Lv} {S S' S1 S2 X W Sc Sr : cS} {w : Nat → Int32} {s' : Nat × Nat × LL} {St : (Nat → Prop) → cS → Prop} {ok : List Lv → Prop} {l2 : LL}
theorem untry_S (h : CI F loc par ty G tq (x :: r) S) (hpc : PC w pT S) (hck : clk S) (h5 : sI S 5216 = nI (vP x)) (hp : vP x + 1 < pT) (hw0 : w (vP x) = nI 13) (hw1 : w (vP x + 1) = nI n) (hn : tmk (vL x) n) (hq : vQ x + n < 2 ^ 20) (hr : ∀ P T, St P T → ∀ i, i < n → rwT P T (vM x) (vQ x + i) (nI 35)) (hok : ok (vAt x (vP x + 2) (vQ x + n) (vH x, vU x - n, ldr n (vL x)) :: r)) : stp St F loc par G tq w pT (d + 9) (x :: r) S ok := by
  have hr30 : r.length ≤ 30 := h.2.2.2.2.2.2.1.2.2.2
  have hr1 := rd_T (d := d + 7) hpc h5 (by omega)
  rw [hw0] at hr1
  obtain ⟨o1, o2⟩ := opd_1 hpc hp
  obtain ⟨b1, b2, b3⟩ := lbo_dr h.2.2.1.2.1 hn
  have h310 := CI_tri h
  have ht : sI (wI 5216 (nI (vP x + 1)) S) 5214 = nI (vT x + vU x) := by
    rw [rI, if_neg (by decide : (5214 : Nat) ≠ 5216)]
    exact h.2.2.2.2.2.2.1.2.1
  have hj := flow_untry (d := d + 6) (S := wI 5216 (nI (vP x + 1)) S) (q := vP x + 1) (p := pT) (x := n) (rIe _ _ _) o1 hp hpc.2.2 (o2.trans hw1) ht (by omega)
  rw [show vT x + vU x - n = vT x + (vU x - n) by omega] at hj
  have hC := CI_un (CI_pl (k := nI (vP x + 1 + 1)) (CI_pl (k := nI (vP x + 1)) h)) hn (vP x + 2) (vQ x + n)
  have htn : tnC (d + 9) S (wI 5214 (nI (vT x + (vU x - n))) (wI 5216 (nI (vP x + 1 + 1)) (wI 5216 (nI (vP x + 1)) S))) := by
    have ho : 1 ≤ 13 ∧ 13 ≤ 15 := by omega
    intro tn v Sf
    exact flw_C (d := d + 1) hr1 ho hj
  refine Or.inl ⟨ty, tq, _, _, hok, htn, hC, ⟨by rw [rI, if_neg (by decide : (5216 : Nat) ≠ 5214), rIe]; rfl, PC_I (PC_I (PC_I hpc (by decide)) (by decide)) (by decide), clk_I (clk_I (clk_I hck (by decide) (by decide)) (by decide) (by decide)) (by decide) (by decide), ((CFw_I (by decide)).trans (CFw_I (by decide))).trans (CFw_I (by decide))⟩, fun P T gT Q β D z nn g0 g1 g3 g4 g5 gn Sr hS hX => ?_⟩
  obtain ⟨j, W, c1, c2⟩ := untry_ref (d := d) n hX hn b2 h310 hr30 hq (hr P T hS)
  have c3 := XR_14 (k := nI (vT x + (vU x - n))) (XR_pl (k := nI (vP x + 1 + 1)) (XR_pl (k := nI (vP x + 1)) c2))
  exact ⟨Q, β, D, nn, g0, g1, g3, g4, g5, gn, W, ⟨j, c1⟩, c3⟩
end
