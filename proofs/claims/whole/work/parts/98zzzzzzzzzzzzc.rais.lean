/-! FLOW ON BOTH SIDES: a value popped (17 | 20), an error raised (14 | 30) -/
section
variable {P : Nat → Prop} {T : cS} {gT : Nat} {Q : Nat → Prop} {β β' : Nat → Nat} {F : Nat → Nat → Nat → Prop} {loc par : Nat → Nat → Nat} {ty : Nat → Nat × Nat} {G : Nat → Nat → Nat → Nat × Nat × LL → Prop} {D D' K : List Nat} {z nn g0 g1 g3 g4 g5 gn d d' v n m p q p' q' P' Q' pT k e e1 oc ln tp rc tu al : Nat} {tq : Nat → Nat × Nat} {C r : List Lv} {x : Lv} {S S' S1 S2 X W Sc Sr : cS} {w : Nat → Int32} {s' : Nat × Nat × LL} {St : (Nat → Prop) → cS → Prop} {ok : List Lv → Prop} {a1 a2 : Int32} {u : Int64}
theorem at_51 {n : Nat} {k : Int32} (hX : XR P T gT Q β F D z nn g0 g1 g3 g4 g5 gn tq (x :: r) S Sr) : sI (wA 95 n k Sr) 6151 = nI (topC (x :: r) + offC (x :: r)) := by
  have e := XR_51 hX
  exact e
theorem flw_N (hr : Ans (d + 8) 127 [.ref 52] S (some (.int (nI oc))) S1) (ho : 16 ≤ oc ∧ oc ≤ 24) (hA : Ans (d + 8) 161 [.ref 52, .int (nI oc)] S1 (some (.int (nI 0))) S') : tnC (d + 8) S S' := fun {tn v Sf} htn hc lv ex q0 q3 q4 q5 =>
  mPfL_21 (d := d) q0 q3 q4 q5 (by omega) htn (by omega) hr (by omega) (by omega) hA (by decide) (by omega) (fun lv1 p0 p3 p4 p5 => hc lv1 _ p0 p3 p4 p5)
theorem flw_NE (hr : Ans (d + 8) 127 [.ref 52] S (some (.int (nI oc))) S1) (ho : 16 ≤ oc ∧ oc ≤ 24) (he : 1 ≤ e ∧ e ≤ 100) (hA : Ans (d + 8) 161 [.ref 52, .int (nI oc)] S1 (some (.int (nI e))) S') : tnE' (d + 8) S S' e := fun {tn v Sf S4 b} htn hb hA2 hc lv ex q0 q3 q4 q5 => by
  rcases hb with c | c
  · subst c
    exact mPfL_19 (d := d) q0 q3 q4 q5 (by omega) htn (by omega) hr (by omega) (by omega) hA (ne_0' he) hA2 (fun lv1 p0 p3 p4 p5 => hc lv1 p0 p3 p4 p5)
  · subst c
    exact mPfL_18 (d := d) q0 q3 q4 q5 (by omega) htn (by omega) hr (by omega) (by omega) hA (ne_0' he) hA2 (fun lv1 p0 p3 p4 p5 => hc lv1 p0 p3 p4 p5)
theorem pop_S (h : CI F loc par ty G tq (x :: r) S) (hpc : PC w pT S) (hck : clk S) (h5 : sI S 5216 = nI (vP x)) (hp : vP x < pT) (hw0 : w (vP x) = nI 17) (hl : lob (vL x) + 1 ≤ vH x) (hq : vQ x + 1 < 2 ^ 20) (hr : ∀ P T, St P T → rwT P T (vM x) (vQ x) (nI 20)) (hok : ok (vAt x (vP x + 1) (vQ x + 1) (vH x - 1, vU x, vL x) :: r)) : stp St F loc par G tq w pT (d + 11) (x :: r) S ok := by
  have m161 := ml_161
  have m400 := ml_400
  have hr30 : r.length ≤ 30 := h.2.2.2.2.2.2.1.2.2.2
  obtain ⟨l1, l2, l3, l4, l5⟩ := CI_len h
  have hT := CI_T h
  have hr1 := rd_T (d := d + 9) hpc h5 hp
  rw [hw0] at hr1
  refine fin_pop (d := d) (X := wI 5216 (nI (vP x + 1)) S) (S := wI 5216 (nI (vP x + 1)) S) (Q' := vQ x + 1) (CI_pl h) (PC_I hpc (by decide)) (clk_I hck (by decide) (by decide)) hl (CFg.refl _ _ _) (Or.inl rfl) (rIe _ _ _) (fun S' hA => ?_) (CFw_I (by decide)) (fun P T gT Q β D z nn g0 g1 g3 g4 g5 gn Sr hS hX => ⟨XR_pl hX, ?_⟩) hq hok
  · have hb : Ans (d + 11) 161 [.ref 52, .int (nI 17)] (wI 5216 (nI (vP x + 1)) S) (some (.int (nI 0))) S' := Ans.of (by rw [m161]; exact Nat.le_of_ble_eq_true rfl) (Bod.lv (by rfl) (mNm_2 (d := d + 2) (by omega) rfl (hA.up (by omega))))
    have ho : 16 ≤ 17 ∧ 17 ≤ 24 := by omega
    intro tn v Sf
    exact flw_N (d := d + 3) hr1 ho hb
  · have hb : Ans (d + 11) 400 [.ref 61, .int (nI 20), .int (nI 0)] (wA 95 r.length (nI (vQ x + 1)) Sr) (some (.int 1)) (wI 6151 (nI (topC (x :: r) + offC (x :: r) - 1)) (wA 95 r.length (nI (vQ x + 1)) Sr)) := Ans.of (by rw [m400]; exact Nat.le_of_ble_eq_true rfl) (Bod.lv (by rfl) (rPl_16 (d := d + 2) (by omega) (by omega) rfl (at_51 hX) (by omega) (by omega)))
    exact hon_n (d := d + 3) (XR_top hX) hr30 (rw_of hX (hr P T hS)) (by omega) (by omega) (by decide) (by decide) (Or.inr rfl) hb
/-- numbers an error may have -/
theorem err_n (h1 : ¬ u < 10) (h2 : ¬ (99 : Int64) < u) : ∃ e : Nat, 10 ≤ e ∧ e ≤ 99 ∧ u.toInt32 = nI e := by
  obtain ⟨n, hn, hu⟩ := wb_of u
  have e1 : (10 : Int64).toInt = 10 := rfl
  have e2 : (99 : Int64).toInt = 99 := rfl
  rw [Int64.lt_iff_toInt_lt, hu, lN_int hn, e1] at h1
  rw [Int64.lt_iff_toInt_lt, hu, lN_int hn, e2] at h2
  refine ⟨n, ?_, ?_, by rw [hu, lN_i]⟩
  · split at h1 <;> omega
  · split at h2 <;> split at h1 <;> omega
/-- raise: an error in any case -/
theorem raise_S (h : CI F loc par ty G tq (x :: r) S) (hpc : PC w pT S) (hck : clk S) (h5 : sI S 5216 = nI (vP x)) (hp : vP x < pT) (hw0 : w (vP x) = nI 14) (hl : lob (vL x) + 1 ≤ vH x) (hq : vQ x + 1 < 2 ^ 20) (hr : ∀ P T, St P T → rwT P T (vM x) (vQ x) (nI 30)) : stp St F loc par G tq w pT (d + 21) (x :: r) S ok := by
  have m128 := ml_128
  have m160 := ml_160
  have m400 := ml_400
  have hr30 : r.length ≤ 30 := h.2.2.2.2.2.2.1.2.2.2
  obtain ⟨l1, l2, l3, l4, l5⟩ := CI_len h
  have hT := CI_T h
  have hr1 := rd_T (d := d + 19) hpc h5 hp
  rw [hw0] at hr1
  have hC1 : CI F loc par ty G tq (vAt x (vP x + 1) (vQ x + 1) (vS x) :: r) (wI 5216 (nI (vP x + 1)) S) := CI_pl (CI_at h _ _)
  have c1 := lo_ev (d := d + 16) (S := wI 5216 (nI (vP x + 1)) S) (b := 0) (by rw [rI, if_neg (by decide : (4603 : Nat) ≠ 5216)]; exact l3) (by omega) (by omega)
  have c2 := hi_ev (d := d + 16) (S := wI 5216 (nI (vP x + 1)) S) (b := 0) (by rw [rI, if_neg (by decide : (4603 : Nat) ≠ 5216)]; exact l3) (by omega) (by omega)
  have c3 := kindOf_ev (d := d + 17) (S := wI 5216 (nI (vP x + 1)) S) (hi := sL S 47 (topC (x :: r) - 1 - 0))
  obtain ⟨kq, kq1, _, kq3⟩ := kd16 (sL S 47 (topC (x :: r) - 1 - 0))
  rw [kq3] at c3
  have fin : ∀ {e : Nat}, 1 ≤ e ∧ e ≤ 99 → Bod (d + 18) 160 0 [(0, .ref 52)] [] (wI 5216 (nI (vP x + 1)) S) (some (.int (nI e))) (wI 5216 (nI (vP x + 1)) S) → (∀ {P T gT Q β D z nn g0 g1 g3 g4 g5 gn Sr}, XR P T gT Q β F D z nn g0 g1 g3 g4 g5 gn tq (x :: r) S Sr → Bod (d + 20) 400 0 [(0, .ref 61), (1, .int (nI 30)), (2, .int (nI 0))] [] (wA 95 r.length (nI (vQ x + 1)) Sr) (some (.int 0)) (wI 6164 (nI e) (wA 95 r.length (nI (vQ x + 1)) Sr))) → stp St F loc par G tq w pT (d + 21) (x :: r) S ok := fun {e} he hb href => by
    have ha : Ans (d + 19) 160 [.ref 52] (wI 5216 (nI (vP x + 1)) S) (some (.int (nI e))) (wI 5216 (nI (vP x + 1)) S) := Ans.of (by rw [m160]; exact Nat.le_of_ble_eq_true rfl) (Bod.lv (by rfl) hb)
    have hb2 : Ans (d + 21) 128 [.ref 52, .int (nI 14)] (wI 5216 (nI (vP x + 1)) S) (some (.int (nI e))) (wI 5216 (nI (vP x + 1)) S) := Ans.of (by rw [m128]; exact Nat.le_of_ble_eq_true rfl) (Bod.lv (by rfl) (mFw14_1 (d := d + 12) (ha.up (by omega))))
    have ht : tnE' (d + 21) S (wI 5216 (nI (vP x + 1)) S) e := by
      intro tn v Sf S4 b
      exact flw_E (d := d + 13) hr1 (by omega) (by omega) hb2
    refine Or.inr ⟨e, ty, _, r, _, by omega, ht, hC1, ⟨PC_I hpc (by decide), clk_I hck (by decide) (by decide), CFw_I (by decide)⟩, fun P T gT Q β D z nn g0 g1 g3 g4 g5 gn Sr hS hX => ?_⟩
    have hX1 := XR_pl (k := nI (vP x + 1)) (XR_at hX hq (vP x + 1))
    have hb3 : Ans (d + 21) 400 [.ref 61, .int (nI 30), .int (nI 0)] (wA 95 r.length (nI (vQ x + 1)) Sr) (some (.int 0)) (wI 6164 (nI e) (wA 95 r.length (nI (vQ x + 1)) Sr)) := Ans.of (by rw [m400]; exact Nat.le_of_ble_eq_true rfl) (Bod.lv (by rfl) (href hX))
    exact ⟨Q, β, D, nn, g0, g1, g3, g4, g5, gn, _, hon_n (d := d + 13) (XR_top hX) hr30 (rw_of hX (hr P T hS)) (by omega) (by omega) (by decide) (by decide) (Or.inl rfl) hb3, rIe _ _ _, XRe_I (XR_XRe hX1 (CI_lob hC1)) (Or.inl rfl)⟩
  have top : ∀ {P T gT Q β D z nn g0 g1 g3 g4 g5 gn Sr}, XR P T gT Q β F D z nn g0 g1 g3 g4 g5 gn tq (x :: r) S Sr → ∃ y, y ≤ 4 ∧ sA Sr 91 (topC (x :: r) + offC (x :: r) - 1) = nI y ∧ kq = y + 1 ∧ (kq = 2 → sL Sr 92 (topC (x :: r) + offC (x :: r) - 1) = sL S 48 (topC (x :: r) - 1 - 0)) := fun {P T gT Q β D z nn g0 g1 g3 g4 g5 gn Sr} hX => by
    obtain ⟨y, y4, yn, yk⟩ := XR_k h hX (i := 0) (by omega)
    have v0 := XR_v hX (i := 0) (by omega)
    rw [Nat.sub_zero (topC (x :: r) + offC (x :: r) - 1)] at yn v0
    have ek : kq = y + 1 := nI_j (by omega) (by omega) (kq3.symm.trans yk)
    exact ⟨y, y4, yn, ek, fun c => ((vr_int v0).2 (by rw [kq3, c])).2⟩
  have tt : 1 ≤ topC (x :: r) + offC (x :: r) := by omega
  have tt2 : topC (x :: r) + offC (x :: r) < 20481 := by omega
  by_cases k2 : kq = 2
  · rcases Classical.em (sL S 48 (topC (x :: r) - 1 - 0) < 10) with g1 | g1
    · refine fin (e := 2) (by omega) (mRa_2 (d := d + 10) c1 c2 (by omega) c3 k2 (by rw [show lg_cmp (sL (wI 5216 (nI (vP x + 1)) S) 48 (topC (x :: r) - 1 - 0)) 10 = -1 from cq_lt g1]; rfl)) (fun {P T gT Q β D z nn g0 g1' g3 g4 g5 gn Sr} hX => ?_)
      obtain ⟨y, y1, y2, y3, y4⟩ := top hX
      exact rPl_35 (d := d + 12) (by omega) (by omega) rfl (at_51 hX) tt2 tt y2 (by omega) (by omega) (in_no_lo (d := d + 19) (by rw [show sL (wA 95 r.length (nI (vQ x + 1)) Sr) 92 (topC (x :: r) + offC (x :: r) - 1) = _ from y4 k2]; exact g1)) (rfail_T (d := d + 11) 2 (by omega) _)
    · rcases Classical.em ((99 : Int64) < sL S 48 (topC (x :: r) - 1 - 0)) with g2 | g2
      · refine fin (e := 2) (by omega) (mRa_3 (d := d + 10) c1 c2 (by omega) c3 k2 (cq_ge g1) (by rw [show lg_cmp (sL (wI 5216 (nI (vP x + 1)) S) 48 (topC (x :: r) - 1 - 0)) 99 = 1 from cq_gt g2]; rfl)) (fun {P T gT Q β D z nn g0 g1' g3 g4 g5 gn Sr} hX => ?_)
        obtain ⟨y, y1, y2, y3, y4⟩ := top hX
        exact rPl_35 (d := d + 12) (by omega) (by omega) rfl (at_51 hX) tt2 tt y2 (by omega) (by omega) (in_no_hi (d := d + 19) (by rw [show sL (wA 95 r.length (nI (vQ x + 1)) Sr) 92 (topC (x :: r) + offC (x :: r) - 1) = _ from y4 k2]; exact g1) (by rw [show sL (wA 95 r.length (nI (vQ x + 1)) Sr) 92 (topC (x :: r) + offC (x :: r) - 1) = _ from y4 k2]; exact g2)) (rfail_T (d := d + 11) 2 (by omega) _)
      · obtain ⟨e, e1, e2, e3⟩ := err_n g1 g2
        have hb := mRa_4 (d := d + 10) c1 c2 (by omega) c3 k2 (cq_ge g1) (cq_le g2)
        rw [show (sL (wI 5216 (nI (vP x + 1)) S) 48 (topC (x :: r) - 1 - 0)).toInt32 = nI e from e3] at hb
        refine fin (e := e) (by omega) hb (fun {P T gT Q β D z nn g0 g1' g3 g4 g5 gn Sr} hX => ?_)
        obtain ⟨y, y1, y2, y3, y4⟩ := top hX
        exact rPl_34 (d := d + 12) (by omega) (by omega) rfl (at_51 hX) tt2 tt y2 (by omega) (by omega) (in_yesA (d := d + 19) (by rw [show sL (wA 95 r.length (nI (vQ x + 1)) Sr) 92 (topC (x :: r) + offC (x :: r) - 1) = _ from y4 k2]; exact g1) (by rw [show sL (wA 95 r.length (nI (vQ x + 1)) Sr) 92 (topC (x :: r) + offC (x :: r) - 1) = _ from y4 k2]; exact g2)) (at_51 hX) tt2 tt (by rw [show sL (wA 95 r.length (nI (vQ x + 1)) Sr) 92 (topC (x :: r) + offC (x :: r) - 1) = _ from y4 k2]; exact e3) (by omega) (rfail_T (d := d + 11) e (by omega) _)
  · refine fin (e := 2) (by omega) (mRa_1 (d := d + 10) c1 c2 (by omega) c3 k2) (fun {P T gT Q β D z nn g0 g1' g3 g4 g5 gn Sr} hX => ?_)
    obtain ⟨y, y1, y2, y3, y4⟩ := top hX
    exact rPl_33 (d := d + 12) (by omega) (by omega) rfl (at_51 hX) tt2 tt y2 (by omega) (by omega) (rfail_T (d := d + 11) 2 (by omega) _)
end
