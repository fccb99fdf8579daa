/-! CALLS ON BOTH SIDES: of what is built in (51 | 17) -/
section
variable {P : Nat → Prop} {T : cS} {gT : Nat} {Q : Nat → Prop} {β β' : Nat → Nat} {F : Nat → Nat → Nat → Prop} {loc par : Nat → Nat → Nat} {ty : Nat → Nat × Nat} {G : Nat → Nat → Nat → Nat × Nat × LL → Prop} {D D' K : List Nat} {z nn g0 g1 g3 g4 g5 gn d n m p q p' q' pT k e e1 oc ln a nl t t' r0 se gv f1 t0 u0 i s f fn np st qt j o bn : Nat} {tq : Nat → Nat × Nat} {C r : List Lv} {x : Lv} {S S' S0 S1 X W Sc Sr : cS} {w : Nat → Int32} {l' : List (Nat × Nat)} {St : (Nat → Prop) → cS → Prop} {ok : List Lv → Prop} {V : Nat → Int32 × Int64 × Int64}
theorem flw_B (hr : Ans (d + 8) 127 [.ref 52] S (some (.int (nI 51))) S0) (hb : Ans (d + 8) 225 [.ref 52] S0 (some (.int (nI 1))) S0) (hn : Ans (d + 8) 226 [.ref 52] S0 (some (.int (nI bn))) S0) (hbn : bn < 2 ^ 20) (hr2 : Ans (d + 8) 127 [.ref 52] S0 (some (.int (nI gv))) S1) (hg : gv < 2 ^ 20) (hA : Ans (d + 8) 227 [.ref 49, .int (nI bn), .int (nI gv)] S1 (some (.int (nI 0))) S') : tnC (d + 8) S S' := fun {tn v Sf} htn hc lv ex q0 q3 q4 q5 =>
  mPfL_5 (d := d) q0 q3 q4 q5 (by omega) htn (by omega) hr (by omega) (by omega) (by omega) rfl hb hbn hn hg hr2 hA (by decide) (by omega) (fun lv1 p0 p3 p4 p5 => hc lv1 _ p0 p3 p4 p5)
theorem flw_BE (hr : Ans (d + 8) 127 [.ref 52] S (some (.int (nI 51))) S0) (hb : Ans (d + 8) 225 [.ref 52] S0 (some (.int (nI 1))) S0) (hn : Ans (d + 8) 226 [.ref 52] S0 (some (.int (nI bn))) S0) (hbn : bn < 2 ^ 20) (hr2 : Ans (d + 8) 127 [.ref 52] S0 (some (.int (nI gv))) S1) (hg : gv < 2 ^ 20) (he : 1 ≤ e ∧ e ≤ 100) (hA : Ans (d + 8) 227 [.ref 49, .int (nI bn), .int (nI gv)] S1 (some (.int (nI e))) S') : tnE' (d + 8) S S' e := fun {tn v Sf S4 b} htn hb' hA2 hc lv ex q0 q3 q4 q5 => by
  rcases hb' with c | c
  · subst c
    exact mPfL_3 (d := d) q0 q3 q4 q5 (by omega) htn (by omega) hr (by omega) (by omega) (by omega) rfl hb hbn hn hg hr2 hA (ne_0' he) hA2 (fun lv1 p0 p3 p4 p5 => hc lv1 p0 p3 p4 p5)
  · subst c
    exact mPfL_2 (d := d) q0 q3 q4 q5 (by omega) htn (by omega) hr (by omega) (by omega) (by omega) rfl hb hbn hn hg hr2 hA (ne_0' he) hA2 (fun lv1 p0 p3 p4 p5 => hc lv1 p0 p3 p4 p5)
theorem bcl_S (h : CI F loc par ty G tq (x :: r) S) (hpc : PC w pT S) (hck : clk S) (h5 : sI S 5216 = nI (vP x)) (hp : vP x + 1 < pT) (hw0 : w (vP x) = nI 51) (hw1 : w (vP x + 1) = nI gv) (hi : vH x = i + 1 + gv) (hbn : bn < 10) (hlo : sL S 47 (vB x + i) = 5764607523034234880 ∧ sL S 48 (vB x + i) = lN (bn + 1)) (hO : ∀ S1, S1 = wI 5216 (nI (vP x + 2)) S → CI F loc par ty G tq (vAt x (vP x + 2) (vQ x + 2) (vS x) :: r) S1 → opR F loc par ty G tq (d + 20) 227 [.ref 49, .int (nI (bn + 1)), .int (nI gv)] 380 [.ref 61, .int (nI bn), .int (nI (topC (x :: r) + offC (x :: r) - 1 - gv)), .int (nI gv)] (vAt x (vP x + 2) (vQ x + 2) (vS x)) r (i + 1, vU x, (l', s)) S1) (hok : ok (vAt x (vP x + 2) (vQ x + 2) (i + 1, vU x, (l', s)) :: r)) (hq : vQ x + 2 < 2 ^ 20) (hr : ∀ P T, St P T → rwT P T (vM x) (vQ x) (nI 17) ∧ rwT P T (vM x) (vQ x + 1) (nI gv)) : stp St F loc par G tq w pT (d + 21) (x :: r) S ok := by
  have m225 := ml_225
  have m226 := ml_226
  have m379 := ml_379
  have hr30 : r.length ≤ 30 := h.2.2.2.2.2.2.1.2.2.2
  obtain ⟨l1, l2, l3, l4, l5⟩ := CI_len h
  have hT := CI_T h
  have hpT := hpc.2.2
  have hr1 := rd_T (d := d + 19) hpc h5 (by omega)
  rw [hw0] at hr1
  have hr2 := rd_T (d := d + 19) (PC_I (i := 5216) (k := nI (vP x + 1)) hpc (by decide)) (rIe _ _ _) hp
  rw [hw1, wI_wI] at hr2
  obtain ⟨S1, hS1⟩ : ∃ S1, S1 = wI 5216 (nI (vP x + 2)) S := ⟨_, rfl⟩
  have hr2' : Ans (d + 21) 127 [.ref 52] (wI 5216 (nI (vP x + 1)) S) (some (.int (nI gv))) S1 := by rw [hS1]; exact hr2
  have h1 := CI_opd h hS1 (vP x + 2) (vQ x + 2)
  have hp1 : PC w pT S1 := by rw [hS1]; exact PC_I hpc (by decide)
  have hk1 : clk S1 := by rw [hS1]; exact clk_I hck (by decide) (by decide)
  have hF1' : CFw S S1 := by rw [hS1]; exact CFw_I (by decide)
  have h51 : sI S1 5216 = nI (vP x + 2) := by rw [hS1]; exact rIe _ _ _
  have et : topC (x :: r) = vB x + vH x := rfl
  have e1 : topC (x :: r) - 1 - gv = vB x + i := by omega
  have hgv : gv < 2 ^ 20 := by omega
  have c1 := at_n (d := d + 19) (S := wI 5216 (nI (vP x + 1)) S) (p := pT) (q := vP x + 1) (x := gv) hpc.2.1 hp hpT (by
    have := congrFun hpc.1 (vP x + 1)
    exact this.trans hw1)
  have hB : Ans (d + 21) 225 [.ref 52] (wI 5216 (nI (vP x + 1)) S) (some (.int (nI 1))) (wI 5216 (nI (vP x + 1)) S) := by
    have c2 : Ans (d + 20) 132 [.ref 46, .int (nI gv)] (wI 5216 (nI (vP x + 1)) S) (some (.long (sL S 47 (vB x + i)))) (wI 5216 (nI (vP x + 1)) S) := by
      rw [← e1]
      exact hi_ev (d := d + 18) (S := wI 5216 (nI (vP x + 1)) S) l3 (by omega) (by omega)
    have c3 : Ans (d + 20) 134 [.long (sL S 47 (vB x + i))] (wI 5216 (nI (vP x + 1)) S) (some (.int (nI 5))) (wI 5216 (nI (vP x + 1)) S) := by
      have k3 : c_kind (sL S 47 (vB x + i)) = nI 5 := by rw [hlo.1]; decide
      rw [← k3]
      exact kindOf_ev (d := d + 19)
    refine Ans.of (by rw [m225]; exact Nat.le_of_ble_eq_true rfl) (Bod.lv (by rfl) (mCb_2 (d := d + 12) ?_ c2 (by omega) c3 rfl))
    rw [rIe]
    exact c1
  have hN : Ans (d + 21) 226 [.ref 52] (wI 5216 (nI (vP x + 1)) S) (some (.int (nI (bn + 1)))) (wI 5216 (nI (vP x + 1)) S) := by
    have c2 : Ans (d + 20) 135 [.ref 46, .int (nI gv)] (wI 5216 (nI (vP x + 1)) S) (some (.long (sL S 48 (vB x + i)))) (wI 5216 (nI (vP x + 1)) S) := by
      rw [← e1]
      exact lo_ev (d := d + 18) (S := wI 5216 (nI (vP x + 1)) S) l3 (by omega) (by omega)
    have hb := mBi_1 (d := d + 12) (S := wI 5216 (nI (vP x + 1)) S) (by rw [rIe]; exact c1) c2
    rw [hlo.2, lN_i] at hb
    exact Ans.of (by rw [m226]; exact Nat.le_of_ble_eq_true rfl) (Bod.lv (by rfl) hb)
  have hon : ∀ {P T gT Q β D z nn g0 g1 g3 g4 g5 gn Sr} {b : Nat} {W : cS}, St P T → XR P T gT Q β F D z nn g0 g1 g3 g4 g5 gn tq (x :: r) S Sr → (b = 0 ∨ b = 1) → Ans (d + 20) 380 [.ref 61, .int (nI bn), .int (nI (topC (x :: r) + offC (x :: r) - 1 - gv)), .int (nI gv)] (wA 95 r.length (nI (vQ x + 2)) Sr) (some (.int (nI b))) W → ∃ i, rRn (d + 22) i Sr (nI b) W := fun {P T gT Q β D z nn g0 g1 g3 g4 g5 gn Sr b W} hS hX hb hA => by
    obtain ⟨q1, q2⟩ := hr P T hS
    have hX1 := XR_opd hX hS1 hq (vP x + 2)
    have i1 : topC (x :: r) + offC (x :: r) - 1 - gv = vB x + i + offC (x :: r) := by omega
    have hv := hX.2.2.2.1.1 i (by omega)
    rw [hlo.1, hlo.2] at hv
    have hv4 : sA Sr 91 (vB x + i + offC (x :: r)) = nI 4 ∧ sL Sr 92 (vB x + i + offC (x :: r)) = lN bn := by
      rcases hv with c | c | c | c | c | c
      · exact absurd c.1 (by decide)
      · exact absurd c.1 (by decide)
      · exact absurd c.1 (by decide)
      · exact absurd (srel_kd c.2) (by decide)
      · obtain ⟨_, _, _, c3, _⟩ := c
        exact absurd c3 (by decide)
      · obtain ⟨q, c1, _, c3, c4, c5⟩ := c
        have : bn + 1 = q + 1 := lN_inj (by omega) (by omega) c3
        have : q = bn := by omega
        subst this
        exact ⟨c4, c5⟩
    have a91 : sA (wA 95 r.length (nI (vQ x + 2)) Sr) 91 (topC (x :: r) + offC (x :: r) - 1 - gv) = nI 4 := by
      have e95 : ∀ a, a ≠ 95 → sA (wA 95 r.length (nI (vQ x + 2)) Sr) a = sA Sr a := fun a ha => if_neg ha
      rw [i1, e95 91 (by decide)]
      exact hv4.1
    have a92 : (sL (wA 95 r.length (nI (vQ x + 2)) Sr) 92 (topC (x :: r) + offC (x :: r) - 1 - gv)).toInt32 = nI bn := by
      rw [i1, show sL (wA 95 r.length (nI (vQ x + 2)) Sr) 92 = sL Sr 92 from rfl, hv4.2]
      exact lN_i _
    have p9 : sI (wA 95 r.length (nI (vQ x + 2)) Sr) 6151 = nI (topC (x :: r) + offC (x :: r)) := by
      have e := XR_51 hX1
      exact e
    have hbod : Bod (d + 20) 379 0 [(0, .ref 61), (1, .int (nI gv))] [] (wA 95 r.length (nI (vQ x + 2)) Sr) (some (.int (nI b))) W := by
      rcases hb with c | c
      · subst c
        exact rCl_16 (d := d + 12) hgv p9 (by omega) (by omega) (by omega) a91 (by omega) rfl a92 (by omega) hA
      · subst c
        exact rCl_15 (d := d + 12) hgv p9 (by omega) (by omega) (by omega) a91 (by omega) rfl a92 (by omega) hA
    have hA' : Ans (d + 21) 379 [.ref 61, .int (nI gv)] (wA 95 r.length (nI (vQ x + 2)) Sr) (some (.int (nI b))) W := Ans.of (by rw [m379]; exact Nat.le_of_ble_eq_true rfl) (Bod.lv (by rfl) hbod)
    exact hon_c (d := d + 13) (XR_top hX) hr30 (rw_of hX q1) (rw_of hX q2) hgv (by rcases hb with c | c <;> (subst c; first | exact Or.inl rfl | exact Or.inr rfl)) hA'
  rcases hO S1 hS1 h1 with ⟨S', hA, hC, hF, hR⟩ | ⟨e, S', he, hA, hC, hF, hR⟩
  · refine Or.inl ⟨ty, tq, _, S', hok, flw_B (d := d + 13) hr1 hB hN (by omega) hr2' hgv (hA.up (by omega)), hC (vP x + 2) (vQ x + 2), ⟨(hF.2.2.1 5216 (by decide)).trans h51, PC_r hp1 hF, clk_r hk1 hF, hF1'.trans hF.w⟩, fun P T gT Q β D z nn g0 g1 g3 g4 g5 gn Sr hS hX => ?_⟩
    obtain ⟨Q', β', D', nn', b0, b1, b3, b4, b5, bn', W, q1, q2⟩ := hR P T gT Q β D z nn g0 g1 g3 g4 g5 gn _ (XR_opd hX hS1 hq (vP x + 2))
    exact ⟨Q', β', D', nn', b0, b1, b3, b4, b5, bn', W, hon hS hX (Or.inr rfl) q1, q2⟩
  · refine Or.inr ⟨e, ty, _, r, S', by omega, flw_BE (d := d + 13) hr1 hB hN (by omega) hr2' hgv (by omega) (hA.up (by omega)), hC, ⟨PC_r hp1 hF, clk_r hk1 hF, hF1'.trans hF.w⟩, fun P T gT Q β D z nn g0 g1 g3 g4 g5 gn Sr hS hX => ?_⟩
    obtain ⟨Q', β', D', nn', b0, b1, b3, b4, b5, bn', W, q1, q2, q3⟩ := hR P T gT Q β D z nn g0 g1 g3 g4 g5 gn _ (XR_opd hX hS1 hq (vP x + 2))
    exact ⟨Q', β', D', nn', b0, b1, b3, b4, b5, bn', W, hon hS hX (Or.inl rfl) q1, q2, q3⟩
end
