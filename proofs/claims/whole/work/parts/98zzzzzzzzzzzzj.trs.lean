/-! FLOW ON BOTH SIDES: a try begins, as a step (12 | 34) -/
section
variable {P : Nat → Prop} {T : cS} {gT : Nat} {Q : Nat → Prop} {β β' : Nat → Nat} {F : Nat → Nat → Nat → Prop} {loc par : Nat → Nat → Nat} {ty : Nat → Nat × Nat} {G : Nat → Nat → Nat → Nat × Nat × LL → Prop} {D D' K : List Nat} {z nn g0 g1 g3 g4 g5 gn d d' v n m p q p' q' P' Q' pT k e e1 oc ln tp rc i s t u2 b : Nat} {tq tq' : Nat → Nat × Nat} {C r : List Lv} {x : Lv} {S S' S1 S2 X W Sc Sr : cS} {w : Nat → Int32} {s' : Nat × Nat × LL} {St : (Nat → Prop) → cS → Prop} {ok : List Lv → Prop} {l2 : LL} {e2 : Int32}
theorem XR_60 {i : Nat} {k : Int32} (h : XR P T gT Q β F D z nn g0 g1 g3 g4 g5 gn tq C S Sr) : XR P T gT Q β F D z nn g0 g1 g3 g4 g5 gn tq C (wA 60 i k S) Sr := by
  obtain ⟨a1, a2, a3, a4, a5, a6, a7, a8, a9, a10, a11⟩ := h
  have eA : ∀ a, a ≠ 60 → sA (wA 60 i k S) a = sA S a := fun a ha => if_neg ha
  refine ⟨HR_c a1 (fun q => by unfold lv; rw [eA 3 (by omega)]) (fun j _ => ⟨by rw [eA 3 (by omega)], by rw [eA 7 (by omega)], by rw [eA 8 (by omega)], by rw [eA 9 (by omega)], by rw [eA 10 (by omega)], fun _ _ => rfl⟩), a2, a3, stkR_s a4 rfl rfl rfl rfl rfl, a5, a6, a7, lnC_E a8 (eA 55 (by omega)) rfl rfl, ?_, a10, a11⟩
  obtain ⟨⟨b1, b2⟩, ⟨o, o1, o2, o3, o4⟩, hu⟩ := a9
  exact ⟨⟨b1, b2⟩, ⟨o, o1, o2, o3, fun i hi => by rw [eA 50 (by omega)]; exact o4 i hi⟩, hu⟩
theorem CFw_60 {i : Nat} {k : Int32} : CFw S (wA 60 i k S) := ⟨rfl, rfl, fun _ _ => rfl, fun a ha => if_neg (fun c => ha (by rw [c]; decide)), fun _ _ _ => rfl, fun _ _ _ _ => rfl, fun _ _ => rfl, ⟨[], (List.append_nil _).symm⟩, fun _ _ _ h => Or.inl h, Nat.le_refl _, Nat.le_refl _⟩
theorem PC_60 {i : Nat} {k : Int32} (h : PC w pT S) : PC w pT (wA 60 i k S) := by
  have eA : ∀ a, a ≠ 60 → sA (wA 60 i k S) a = sA S a := fun a ha => if_neg ha
  exact ⟨(eA 24 (by decide)).trans h.1, h.2.1, h.2.2⟩
theorem rtry (hX : tpS Sr n m q) (hr : n ≤ 30) (hw : rwS Sr m q (nI 34)) (hw2 : rwS Sr m (q + 1) e2) (he : nI (q + 1) + e2 = nI q') (h63 : sI Sr 6163 = nI t) (ht : t < 400) (h51 : sI Sr 6151 = nI tp) (htp : tp < 20481) : Ans (d + 9) 350 [.ref 61] Sr (some (.int 1)) (wI 6163 (nI (t + 1)) (wA 103 t (nI tp) (wA 102 t (nI q') (wA 101 t (nI n) (wA 95 n (nI (q + 2)) Sr))))) := by
  have m350 := ml_350
  obtain ⟨u1, u2, u3, u4⟩ := hX
  obtain ⟨a, N, zm, w1, w2, w3, w4, w5, w7, w8, w9⟩ := rw_S2 hw hw2
  obtain ⟨a', N', zm', _, _, w3', _, _, w6', _, _⟩ := hw
  have ea : a' = a := Value.ref.inj (w3'.symm.trans w3)
  subst ea
  have hb := rOn_30 (d := d) u1 (by omega) (by omega) u2 u3 w1 u4 w2 w3 w4 w5 (by omega) w8 (by omega) rfl h63 (by omega) ht w7 h51 htp
  rw [Nat.add_sub_cancel] at hb
  have e9 : sA (wA 101 t (nI n) (wA 95 n (nI (q + 2)) Sr)) a' (q + 1) = e2 := by
    show (if a' = 101 then _ else (if a' = 95 then _ else sA Sr a')) (q + 1) = e2
    rw [if_neg (by omega), if_neg (by omega)]
    exact w9
  rw [e9, he] at hb
  exact Ans.of (by rw [m350]; exact Nat.le_of_ble_eq_true rfl) (Bod.lv (by rfl) hb)
theorem try_S (h : CI F loc par ty G tq (x :: r) S) (hpc : PC w pT S) (hck : clk S) (h5 : sI S 5216 = nI (vP x)) (hp : vP x + 1 < pT) (hw0 : w (vP x) = nI 12) (hw1 : w (vP x + 1) = nI p') (hp' : p' < 2 ^ 20) (hq' : q' < 2 ^ 20) (hu : vU x + 1 ≤ 10) (hG : G (vM x) p' q' (vH x + 1000, vU x, vL x)) (hq : vQ x + 2 < 2 ^ 20) (hr : ∀ P T, St P T → rwT P T (vM x) (vQ x) (nI 34) ∧ ∃ e, rwT P T (vM x) (vQ x + 1) e ∧ nI (vQ x + 1) + e = nI q') (hok : ok (vAt x (vP x + 2) (vQ x + 2) (vH x, vU x + 1, ltr (vH x) (vL x)) :: r)) : stp St F loc par G tq w pT (d + 9) (x :: r) S ok := by
  have hr30 : r.length ≤ 30 := h.2.2.2.2.2.2.1.2.2.2
  obtain ⟨l1, l2, l3, l4, l5⟩ := CI_len h
  have hT := CI_T h
  have h310 := CI_tri h
  have hr1 := rd_T (d := d + 7) hpc h5 (by omega)
  rw [hw0] at hr1
  obtain ⟨o1, o2⟩ := opd_1 hpc hp
  have ht : sI (wI 5216 (nI (vP x + 1)) S) 5214 = nI (vT x + vU x) := by
    rw [rI, if_neg (by decide : (5214 : Nat) ≠ 5216)]
    exact h.2.2.2.2.2.2.1.2.1
  have hz : sI (wI 5216 (nI (vP x + 1)) S) 4603 = nI (topC (x :: r)) := by
    rw [rI, if_neg (by decide : (4603 : Nat) ≠ 5216)]
    exact l3
  have hc : sI (wI 5216 (nI (vP x + 1)) S) 5213 = nI r.length := by
    rw [rI, if_neg (by decide : (5213 : Nat) ≠ 5216)]
    exact h.2.2.2.2.2.2.1.1
  have hj := flow_try (d := d + 6) (S := wI 5216 (nI (vP x + 1)) S) (q := vP x + 1) (p := pT) (x := p') (rIe _ _ _) o1 hp hpc.2.2 (o2.trans hw1) ht (by omega) hz hc
  have hC2 : CI F loc par ty G tq (x :: r) (wI 5216 (nI (vP x + 1 + 1)) (wI 5216 (nI (vP x + 1)) S)) := CI_pl (CI_pl h)
  have hC := CI_try (t := vT x + vU x) hC2 hu hp' hq' hG rfl (vP x + 2) (vQ x + 2)
  have htn : tnC (d + 9) S (wI 5214 (nI (vT x + vU x + 1)) (wA 60 (3 * (vT x + vU x) + 2) (nI r.length) (wA 60 (3 * (vT x + vU x) + 1) (nI (topC (x :: r))) (wA 60 (3 * (vT x + vU x)) (nI p') (wI 5216 (nI (vP x + 1 + 1)) (wI 5216 (nI (vP x + 1)) S)))))) := by
    have ho : 1 ≤ 12 ∧ 12 ≤ 15 := by omega
    intro tn v Sf
    exact flw_C (d := d + 1) hr1 ho hj
  refine Or.inl ⟨ty, _, _, _, hok, htn, hC, ⟨by rw [rI, if_neg (by decide : (5216 : Nat) ≠ 5214)]; rfl, PC_I (PC_60 (PC_60 (PC_60 (PC_I (PC_I hpc (by decide)) (by decide))))) (by decide), ?_, ?_⟩, fun P T gT Q β D z nn g0 g1 g3 g4 g5 gn Sr hS hX => ?_⟩
  · obtain ⟨s, f, c1, c2, c3⟩ := clk_I (k := nI (vP x + 1 + 1)) (i := 5216) (clk_I (k := nI (vP x + 1)) (i := 5216) hck (by decide) (by decide)) (by decide) (by decide)
    exact ⟨s, f, by rw [rI, if_neg (by decide : (5218 : Nat) ≠ 5214)]; exact c1, by rw [rI, if_neg (by decide : (5219 : Nat) ≠ 5214)]; exact c2, c3⟩
  · exact (((((CFw_I (by decide)).trans (CFw_I (by decide))).trans CFw_60).trans CFw_60).trans CFw_60).trans (CFw_I (by decide))
  · obtain ⟨hw, e, hw2, he⟩ := hr P T hS
    have hA := rtry (d := d) (XR_top hX) hr30 (rw_of hX hw) (rw_of hX hw2) he hX.2.2.2.2.2.1.2.2 (by omega) (XR_51 hX) (by omega)
    have hX1 := XR_try (t := vT x + vU x) (p' := p') (q' := q') (CI_at h (vP x + 2) (vQ x + 2)) (XR_at hX hq (vP x + 2)) rfl
    have hX2 := XR_14 (k := nI (vT x + vU x + 1)) (XR_60 (i := 3 * (vT x + vU x) + 2) (k := nI r.length) (XR_60 (i := 3 * (vT x + vU x) + 1) (k := nI (topC (x :: r))) (XR_60 (i := 3 * (vT x + vU x)) (k := nI p') (XR_pl (k := nI (vP x + 1 + 1)) (XR_pl (k := nI (vP x + 1)) hX1)))))
    exact ⟨Q, β, D, nn, g0, g1, g3, g4, g5, gn, _, rRn_1 (ftR_of (XR_top hX) hr30 (rw_of hX hw) (by omega) (by omega)) (Or.inr rfl) (hA.up (by omega)), hX2⟩
end
