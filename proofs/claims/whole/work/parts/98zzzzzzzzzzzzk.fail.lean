/-! FLOW ON BOTH SIDES: code that fails (15 | 39) -/
section
variable {P : Nat → Prop} {T : cS} {gT : Nat} {Q : Nat → Prop} {β β' : Nat → Nat} {F : Nat → Nat → Nat → Prop} {loc par : Nat → Nat → Nat} {ty : Nat → Nat × Nat} {G : Nat → Nat → Nat → Nat × Nat × LL → Prop} {D D' K : List Nat} {z nn g0 g1 g3 g4 g5 gn d n m p q pT k e : Nat} {tq : Nat → Nat × Nat} {C r : List Lv} {x : Lv} {S S' S1 X W Sc Sr : cS} {w : Nat → Int32} {St : (Nat → Prop) → cS → Prop} {ok : List Lv → Prop}
theorem fail_S (h : CI F loc par ty G tq (x :: r) S) (hpc : PC w pT S) (hck : clk S) (h5 : sI S 5216 = nI (vP x)) (hp : vP x + 1 < pT) (hw0 : w (vP x) = nI 15) (hw1 : w (vP x + 1) = nI 8) (hq : vQ x + 1 < 2 ^ 20) (hr : ∀ P T, St P T → rwT P T (vM x) (vQ x) (nI 39)) : stp St F loc par G tq w pT (d + 11) (x :: r) S ok := by
  have m400 := ml_400
  have hr30 : r.length ≤ 30 := h.2.2.2.2.2.2.1.2.2.2
  have hr1 := rd_T (d := d + 9) hpc h5 (by omega)
  rw [hw0] at hr1
  obtain ⟨o1, o2⟩ := opd_1 hpc hp
  have hj := flow_fail (d := d + 8) (S := wI 5216 (nI (vP x + 1)) S) (q := vP x + 1) (p := pT) (x := 8) (rIe _ _ _) o1 hp hpc.2.2 (o2.trans hw1)
  have hC : CI F loc par ty G tq (vAt x (vP x + 2) (vQ x + 1) (vS x) :: r) (wI 5216 (nI (vP x + 1 + 1)) (wI 5216 (nI (vP x + 1)) S)) := CI_pl (CI_pl (CI_at h _ _))
  have htn : tnE' (d + 11) S (wI 5216 (nI (vP x + 1 + 1)) (wI 5216 (nI (vP x + 1)) S)) 8 := by
    have ho : 1 ≤ 15 ∧ 15 ≤ 15 := by omega
    have he : 1 ≤ 8 ∧ 8 ≤ 100 := by omega
    intro tn v Sf S4 b
    exact flw_E (d := d + 3) hr1 ho he hj
  refine Or.inr ⟨8, ty, _, r, _, by omega, htn, hC, ⟨PC_I (PC_I hpc (by decide)) (by decide), clk_I (clk_I hck (by decide) (by decide)) (by decide) (by decide), (CFw_I (by decide)).trans (CFw_I (by decide))⟩, fun P T gT Q β D z nn g0 g1 g3 g4 g5 gn Sr hS hX => ?_⟩
  have hX1 := XR_pl (k := nI (vP x + 1 + 1)) (XR_pl (k := nI (vP x + 1)) (XR_at hX hq (vP x + 2)))
  have hb : Ans (d + 11) 400 [.ref 61, .int (nI 39), .int (nI 0)] (wA 95 r.length (nI (vQ x + 1)) Sr) (some (.int 0)) (wI 6164 (nI 8) (wA 95 r.length (nI (vQ x + 1)) Sr)) := Ans.of (by rw [m400]; exact Nat.le_of_ble_eq_true rfl) (Bod.lv (by rfl) (rFl_1 (d := d + 2) (by omega) (rfail_T (d := d + 1) 8 (by omega) _)))
  exact ⟨Q, β, D, nn, g0, g1, g3, g4, g5, gn, _, hon_n (d := d + 3) (XR_top hX) hr30 (rw_of hX (hr P T hS)) (by omega) (by omega) (by decide) (by decide) (Or.inl rfl) hb, rIe _ _ _, XRe_I (XR_XRe hX1 (CI_lob hC)) (Or.inl rfl)⟩
end
