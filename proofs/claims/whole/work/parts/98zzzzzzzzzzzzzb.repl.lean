/-! NAMES ON BOTH SIDES: an attribute's value takes the place of an earlier one (24 | 38) -/
section
variable {P : Nat → Prop} {T : cS} {gT : Nat} {Q : Nat → Prop} {β β' : Nat → Nat} {F : Nat → Nat → Nat → Prop} {loc par : Nat → Nat → Nat} {ty : Nat → Nat × Nat} {G : Nat → Nat → Nat → Nat × Nat × LL → Prop} {D D' K : List Nat} {z nn g0 g1 g3 g4 g5 gn d n m p q q' pT k j v : Nat} {tq : Nat → Nat × Nat} {C r : List Lv} {x : Lv} {S S' Sf S0 S1 X W Sc Sr : cS} {w : Nat → Int32} {St : (Nat → Prop) → cS → Prop} {ok : List Lv → Prop} {hi lo a b : Int64} {kd : Int32}
theorem replace_S (h : CI F loc par ty G tq (x :: r) S) (hpc : PC w pT S) (hck : clk S) (h5 : sI S 5216 = nI (vP x)) (hp : vP x + 1 < pT) (hw0 : w (vP x) = nI 24) (hw1 : w (vP x + 1) = nI v) (hv0 : v ≠ 0) (hl : lob (vL x) + v + 1 ≤ vH x) (hq : vQ x + 2 < 2 ^ 20) (hr : ∀ P T, St P T → rwT P T (vM x) (vQ x) (nI 38) ∧ rwT P T (vM x) (vQ x + 1) (nI v)) (hok : ok (vAt x (vP x + 2) (vQ x + 2) (vH x - 1, vU x, vL x) :: r)) : stp St F loc par G tq w pT (d + 21) (x :: r) S ok := by
  have m161 := ml_161
  have m400 := ml_400
  have hr30 : r.length ≤ 30 := h.2.2.2.2.2.2.1.2.2.2
  obtain ⟨l1, l2, l3, l4, l5⟩ := CI_len h
  have hT := CI_T h
  have hr1 := rd_T (d := d + 19) hpc h5 (by omega)
  rw [hw0] at hr1
  have hr2 := rd_T (d := d + 18) (PC_I (i := 5216) (k := nI (vP x + 1)) hpc (by decide)) (rIe _ _ _) hp
  rw [hw1, wI_wI] at hr2
  obtain ⟨S1, hS1⟩ : ∃ S1, S1 = wI 5216 (nI (vP x + 2)) S := ⟨_, rfl⟩
  have hr2' : Ans (d + 20) 127 [.ref 52] (wI 5216 (nI (vP x + 1)) S) (some (.int (nI v))) S1 := by rw [hS1]; exact hr2
  have h1 := CI_opd h hS1 (vP x + 2) (vQ x + 2)
  have hp1 : PC w pT S1 := by rw [hS1]; exact PC_I hpc (by decide)
  have hk1 : clk S1 := by rw [hS1]; exact clk_I hck (by decide) (by decide)
  have hF1 : CFw S S1 := by rw [hS1]; exact CFw_I (by decide)
  have h51 : sI S1 5216 = nI (vP x + 2) := by rw [hS1]; exact rIe _ _ _
  have ht1 : topC (vAt x (vP x + 2) (vQ x + 2) (vS x) :: r) = topC (x :: r) := rfl
  obtain ⟨S', K, b1, b2, b3, b4, b5, b6, b7⟩ := mreplace_T (d := d) (v := v) h1.1 (by rw [ht1]; omega) hv0
  rw [ht1] at b2 b4 b5 b6
  have hlk := lv_KX b3
  have hk : ∀ o, lv S' o → sA S' 3 o = sA S1 3 o := fun o ho => (obE_KX b3 (mHS_ok h1.1 o ho.1 ho.2.1) ((hlk o).mp ho).2).1
  obtain ⟨m1, m2, m3⟩ := h1.2.2.1
  obtain ⟨q1, q2, q3, q4, q5⟩ := m2
  have m1' : mkOk S1 (vB x) (vH x) (vL x) := m1
  have hsv : stLv (vB x + (vH x - 1 - v)) S' := fun i hi => b2.2.2.2.2.1 i (by omega)
  have hlow := mkOk_K (S' := S') (h := vH x - 1 - v) (n := vB x + (vH x - 1 - v)) (l := vL x) (b := vB x) ⟨fun i hi => m1'.1 i (by omega), m1'.2⟩ (Nat.le_refl _) (by omega) q2 (fun i hi => b4 i (by omega) (by omega)) hsv hk
  have k5 : c_kind (sL S1 47 (topC (x :: r) - 1)) ≠ nI 5 := by
    have := CI_n5 h1 (i := 0) (by show 0 + lob (vL x) < vH x; omega)
    exact this
  have k0 : c_kind (sL S1 47 (topC (x :: r) - 1)) ≠ 0 := by
    have := CI_k h1 (i := 0) (by show 0 < vH x; omega)
    exact this
  have hC1 := CI_K (h' := vH x - 1) (l2 := vL x) h1 b3 (by
      show mHS 0 _ (vB x + (vH x - 1)) S'
      rw [show vB x + (vH x - 1) = topC (x :: r) - 1 by omega]
      exact b2) (fun i hi => by
      have hi' : i < vB x := hi
      exact b4 i (by omega) (by omega)) ⟨fun i hi => by
        show c_kind (sL S' 47 (vB x + i)) ≠ 0 ∧ (c_kind (sL S' 47 (vB x + i)) = nI 5 → _)
        by_cases c : vB x + i = topC (x :: r) - 1 - v
        · rw [c, b5]
          exact ⟨k0, fun c => absurd c k5⟩
        · rw [(b4 (vB x + i) (by omega) c).1]
          exact m1'.1 i (by omega), hlow.2⟩ ⟨q1, q2, by show lob (vL x) ≤ vH x - 1; omega, by show vH x - 1 ≤ 600; omega, q5⟩ rfl (fun e y l' hl' => ⟨e, hl'⟩) (vP x + 2) (vQ x + 2)
  have hC2 : CI F loc par ty G tq (vAt x (vP x + 2) (vQ x + 2) (vH x - 1, vU x, vL x) :: r) S' := hC1
  have hFr : CFr S1 S' := CFr_KX b3
  have hb : Ans (d + 21) 161 [.ref 52, .int (nI 24)] (wI 5216 (nI (vP x + 1)) S) (some (.int (nI 0))) S' := Ans.of (by rw [m161]; exact Nat.le_of_ble_eq_true rfl) (Bod.lv (by rfl) (mNm_10 (d := d + 12) (op := 24) (by omega) rfl hr2' (b1.up (by omega))))
  have ht : tnC (d + 21) S S' := by
    have hoc : 16 ≤ 24 ∧ 24 ≤ 24 := by omega
    intro tn v Sf
    exact flw_N (d := d + 13) hr1 hoc hb
  refine Or.inl ⟨ty, tq, _, S', hok, ht, hC2, ⟨(hFr.2.2.1 5216 (by decide)).trans h51, PC_r hp1 hFr, clk_r hk1 hFr, hF1.trans hFr.w⟩, fun P T gT Q β D z nn g0 g1 g3 g4 g5 gn Sr hS hX => ?_⟩
  have hX1 := XR_opd hX hS1 hq (vP x + 2)
  have h51r : sI (wA 95 r.length (nI (vQ x + 2)) Sr) 6151 = nI (topC (x :: r) + offC (x :: r)) := by have e := XR_51 hX; exact e
  obtain ⟨y, y4, ya, _⟩ := XR_k h hX (i := 0) (by omega)
  rw [show topC (x :: r) + offC (x :: r) - 1 - 0 = topC (x :: r) + offC (x :: r) - 1 by omega] at ya
  have ya' : sA (wA 95 r.length (nI (vQ x + 2)) Sr) 91 (topC (x :: r) + offC (x :: r) - 1) = nI y := ya
  obtain ⟨W1, A1, f1, i1, o1, p1, p2, p3⟩ := cpy_T (d := d + 11) (Sr := wA 95 r.length (nI (vQ x + 2)) Sr) (k := topC (x :: r) + offC (x :: r) - 1) (to := topC (x :: r) + offC (x :: r) - 1 - v) (by omega) (by omega) ya' (by omega) (by omega)
  have e51 : sI W1 6151 = nI (topC (x :: r) + offC (x :: r)) := i1.trans h51r
  have hA : Ans (d + 21) 400 [.ref 61, .int (nI 38), .int (nI v)] (wA 95 r.length (nI (vQ x + 2)) Sr) (some (.int 1)) (wI 6151 (nI (topC (x :: r) + offC (x :: r) - 1)) W1) := Ans.of (by rw [m400]; exact Nat.le_of_ble_eq_true rfl) (Bod.lv (by rfl) (rPl_41 (d := d + 12) (op := 38) (x := v) (by omega) (by omega) rfl h51r (by omega) (by omega) (by omega) A1 e51 (by omega) (by omega)))
  obtain ⟨w1, w2⟩ := hr P T hS
  have hon := hon_w (d := d + 13) (XR_top hX) hr30 (rw_of hX w1) (rw_of hX w2) (by omega) (by decide) (Or.inr rfl) hA
  have eo : offC (x :: r) = mkb x + offC r := rfl
  have hX2 := XR_K (h' := vH x - 1) hX1 (mHS_cl h1.1) (mHS_ok h1.1) h1.2.2.2.2.1 b3 (fun i hi => by
      have hi' : i < vB x := hi
      exact b4 i (by omega) (by omega)) (W := wI 6151 (nI (topC (x :: r) + offC (x :: r) - 1)) W1) (sFr_I (f1 _ (by show vB x + offC (x :: r) ≤ _; omega))) (by
      rw [rIe]
      show _ = nI (vB x + (vH x - 1) + offC (x :: r))
      congr 1
      omega) (fun i hi => by
      show vrel β (sL S' 47 (vB x + i)) (sL S' 48 (vB x + i)) (sA W1 91 (vB x + i + offC (x :: r))) (sL W1 92 (vB x + i + offC (x :: r))) (sL W1 93 (vB x + i + offC (x :: r)))
      by_cases c : vB x + i = topC (x :: r) - 1 - v
      · rw [c, b5, b6, show topC (x :: r) - 1 - v + offC (x :: r) = topC (x :: r) + offC (x :: r) - 1 - v by omega, p1, p2, p3]
        have := XR_v hX (i := 0) (by omega)
        rw [show topC (x :: r) + offC (x :: r) - 1 - 0 = topC (x :: r) + offC (x :: r) - 1 by omega, show topC (x :: r) - 1 - 0 = topC (x :: r) - 1 by omega] at this
        rw [hS1]
        exact this
      · rw [(b4 (vB x + i) (by omega) c).1, (b4 (vB x + i) (by omega) c).2]
        obtain ⟨u1, u2, u3⟩ := o1 (vB x + i + offC (x :: r)) (by omega)
        rw [u1, u2, u3]
        have := hX.2.2.2.1.1 i (by omega)
        rw [hS1]
        exact this)
  exact ⟨Q, β, _, nn, g0, g1, g3, g4, g5, gn, _, hon, hX2⟩
end
