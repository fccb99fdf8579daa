/-! FLOW ON BOTH SIDES: a loop begins, as a step (9 | 31) -/
section
variable {P : Nat → Prop} {T : cS} {gT : Nat} {Q : Nat → Prop} {β β' : Nat → Nat} {F : Nat → Nat → Nat → Prop} {loc par : Nat → Nat → Nat} {ty : Nat → Nat × Nat} {G : Nat → Nat → Nat → Nat × Nat × LL → Prop} {D D' K : List Nat} {z nn g0 g1 g3 g4 g5 gn d n m p q pT k e y o : Nat} {tq : Nat → Nat × Nat} {C r : List Lv} {x : Lv} {S S' S1 X W Sc Sr : cS} {w : Nat → Int32} {St : (Nat → Prop) → cS → Prop} {ok : List Lv → Prop} {kd : Int32} {hi lo a b : Int64}
theorem forbegin_S (h : CI F loc par ty G tq (x :: r) S) (hpc : PC w pT S) (hck : clk S) (h5 : sI S 5216 = nI (vP x)) (hp : vP x < pT) (hw0 : w (vP x) = nI 9) (hl : lob (vL x) + 1 ≤ vH x) (h6 : vH x + 1 ≤ 600) (hex : exX F tq (x :: r) S) (hq : vQ x + 1 < 2 ^ 20) (hr : ∀ P T, St P T → rwT P T (vM x) (vQ x) (nI 31)) (hok : ok (vAt x (vP x + 1) (vQ x + 1) (vH x + 1, vU x, lcn (vH x - 1) (vL x)) :: r)) : stp St F loc par G tq w pT (d + 21) (x :: r) S ok := by
  have m128 := ml_128
  have m151 := ml_151
  have m400 := ml_400
  have hr30 : r.length ≤ 30 := h.2.2.2.2.2.2.1.2.2.2
  obtain ⟨l1, l2, l3, l4, l5⟩ := CI_len h
  have hT := CI_T h
  have hr1 := rd_T (d := d + 19) hpc h5 hp
  rw [hw0] at hr1
  obtain ⟨S1, hS1⟩ : ∃ S1, S1 = wI 5216 (nI (vP x + 1)) S := ⟨_, rfl⟩
  rw [← hS1] at hr1
  have h1 : CI F loc par ty G tq (vAt x (vP x + 1) (vQ x + 1) (vS x) :: r) S1 := by rw [hS1]; exact CI_pl (CI_at h _ _)
  have hp1 : PC w pT S1 := by rw [hS1]; exact PC_I hpc (by decide)
  have hk1 : clk S1 := by rw [hS1]; exact clk_I hck (by decide) (by decide)
  have hF1 : CFw S S1 := by rw [hS1]; exact CFw_I (by decide)
  have h51 : sI S1 5216 = nI (vP x + 1) := by rw [hS1]; exact rIe _ _ _
  have es : sL S1 = sL S := by rw [hS1]; rfl
  have hXX : ∀ {P T gT Q β D z nn g0 g1 g3 g4 g5 gn Sr}, XR P T gT Q β F D z nn g0 g1 g3 g4 g5 gn tq (x :: r) S Sr → XR P T gT Q β F D z nn g0 g1 g3 g4 g5 gn tq (vAt x (vP x + 1) (vQ x + 1) (vS x) :: r) S1 (wA 95 r.length (nI (vQ x + 1)) Sr) := fun {P T gT Q β D z nn g0 g1 g3 g4 g5 gn Sr} hX => by rw [hS1]; exact XR_pl (XR_at hX hq (vP x + 1))
  have hv1 : 0 < vH (vAt x (vP x + 1) (vQ x + 1) (vS x)) := by show 0 < vH x; omega
  obtain ⟨o, o1, o2, o3⟩ := mHS_o h1.1 (i := topC (x :: r) - 1 - 0) (by show topC (x :: r) - 1 - 0 < topC (x :: r); omega)
  have ck0 := CI_k h1 (i := 0) hv1
  have hob := obk_C (d := d) (nv := 0) (kd := 1) h1 hv1 (by omega) (by omega) o1 o2 o3
  have is := fun {P T gT Q β D z nn g0 g1 g3 g4 g5 gn Sr} (hX : XR P T gT Q β F D z nn g0 g1 g3 g4 g5 gn tq (x :: r) S Sr) => XR_isK (d := d) (ob_ := 0) h1 (hXX hX) hv1 o2 o3 o1
  have tt : 1 ≤ topC (x :: r) + offC (x :: r) := by omega
  by_cases k1 : h_kd S1 o = 1
  · have o0 : o ≠ 0 := fun c => by
      rw [c] at k1
      unfold h_kd at k1
      rw [CI_z0 h1] at k1
      exact absurd k1 (by decide)
    have hlo : lv S1 o := o3.resolve_left o0
    rw [if_pos k1] at hob
    have hval : sL S1 47 (topC (x :: r) - 1 - 0) = 4611686018427387904 ∧ sL S1 48 (topC (x :: r) - 1 - 0) = lN o := by
      obtain ⟨_, _, _, _, _, _, _, _, _, _, _, _, _, _, _, hX⟩ := hex
      have v0 := XR_v (hXX hX) (i := 0) hv1
      exact vrel_o v0 ck0 o2 o0 o1
    obtain ⟨S', b1, b2, b3, b4, b5, b6⟩ := mpush_T (d := d) (hi := 2305843009213693952) (lo := 0) h1.1 (by show topC (x :: r) < 20480; omega) (int_o 0).1 (by omega) (Or.inl rfl) (Or.inl rfl) (fun k => by have := gC_le (C := vAt x (vP x + 1) (vQ x + 1) (vS x) :: r) k; rw [List.length_cons] at this; omega)
    have hC := CI_give h1 (v := 0) b3 (by omega) b2 b4 b5 (by show lob (vL x) + 0 ≤ vH x; omega) (by show vH x - 0 + 1 ≤ 600; omega) (int_o 0).2 (vP x + 1) (vQ x + 1)
    have hC1 : CI F loc par ty G tq (vAt x (vP x + 1) (vQ x + 1) (vH x + 1, vU x, vL x) :: r) S' := hC
    have tE : topC (x :: r) = vB x + vH x := rfl
    have hlk := lv_KX b3
    have hlo' : lv S' o := (hlk o).mpr ⟨hlo, List.not_mem_nil⟩
    have hCf := CI_lcn (y := vH x - 1) hC1 (by show vH x + 1 = vH x - 1 + 2; omega) (by show lob (vL x) ≤ vH x - 1; omega) ⟨o, hlo', by
      have e3 := (obE_KX b3 (mHS_ok h1.1 o hlo.1 hlo.2.1) ((hlk o).mp hlo').2).1
      rw [e3]
      exact kd_ofi h1 hlo k1, by
      have := (b4 (topC (x :: r) - 1 - 0) (by show topC (x :: r) - 1 - 0 < topC (x :: r); omega)).1
      show sL S' 47 (vB x + (vH x - 1)) = _
      rw [show vB x + (vH x - 1) = topC (x :: r) - 1 - 0 by omega, this]
      exact hval.1, by
      have := (b4 (topC (x :: r) - 1 - 0) (by show topC (x :: r) - 1 - 0 < topC (x :: r); omega)).2
      show sL S' 48 (vB x + (vH x - 1)) = _
      rw [show vB x + (vH x - 1) = topC (x :: r) - 1 - 0 by omega, this]
      exact hval.2⟩ ⟨0, by omega, by
      show sL S' 47 (vB x + (vH x - 1 + 1)) = _
      rw [show vB x + (vH x - 1 + 1) = topC (x :: r) by omega]
      exact b5, by
      show sL S' 48 (vB x + (vH x - 1 + 1)) = _
      rw [show vB x + (vH x - 1 + 1) = topC (x :: r) by omega]
      exact b6⟩ (vP x + 1) (vQ x + 1)
    have hFr : CFr S1 S' := CFr_KX b3
    have ha : Ans (d + 19) 151 [.ref 52] S1 (some (.int (nI 0))) S' := Ans.of (by rw [m151]; exact Nat.le_of_ble_eq_true rfl) (Bod.lv (by rfl) (mBf_1 (d := d + 10) (hob.up (by omega)) (by show (if nI o = 0 then false else true) = true; exact if_neg (nI_ne (b := 0) (by omega) (by omega) o0)) (b1.up (by omega))))
    have hb : Ans (d + 21) 128 [.ref 52, .int (nI 9)] S1 (some (.int (nI 0))) S' := Ans.of (by rw [m128]; exact Nat.le_of_ble_eq_true rfl) (Bod.lv (by rfl) (mFw9_1 (d := d + 12) (ha.up (by omega))))
    have ht : tnC (d + 21) S S' := by
      have ho : 1 ≤ 9 ∧ 9 ≤ 15 := by omega
      intro tn v Sf
      exact flw_C (d := d + 13) hr1 ho hb
    refine Or.inl ⟨ty, tq, _, S', hok, ht, hCf, ⟨(hFr.2.2.1 5216 (by decide)).trans h51, PC_r hp1 hFr, clk_r hk1 hFr, hF1.trans hFr.w⟩, fun P T gT Q β D z nn g0 g1 g3 g4 g5 gn Sr hS hX => ?_⟩
    have k3 := ((is hX).2 1 (by omega) k1).2.1
    have hX1 := hXX hX
    have e51 := at_51 (n := r.length) (k := nI (vQ x + 1)) hX
    have hpi := rpshI_T (d := d + 8) (tp := topC (x :: r) + offC (x :: r)) (xa := 0) (S := wA 95 r.length (nI (vQ x + 1)) Sr) (by omega)
    rw [← e51, wI_slf] at hpi
    have hb3 : Ans (d + 21) 400 [.ref 61, .int (nI 31), .int (nI 0)] (wA 95 r.length (nI (vQ x + 1)) Sr) (some (.int 1)) _ := Ans.of (by rw [m400]; exact Nat.le_of_ble_eq_true rfl) (Bod.lv (by rfl) (rPl_36 (d := d + 12) (by omega) (by omega) rfl e51 (by omega) tt (k3.up (by omega)) (hpi.up (by omega))))
    obtain ⟨p1, p2, p3, p4, p5⟩ := pshW_s (tp := topC (x :: r) + offC (x :: r)) (kd := nI 1) (xa := 0) (xb := 0) (S := wA 95 r.length (nI (vQ x + 1)) Sr)
    have hX2 := XR_give hX1 (mHS_cl h1.1) (mHS_ok h1.1) h1.2.2.2.2.1 b3 (Nat.zero_le _) b4 b5 b6 (tp := topC (x :: r) + offC (x :: r)) (by show _ = topC (x :: r) - 0 + offC (x :: r); omega) p1 p2 (by rw [p3, p4, p5]; exact vr_mk 0)
    have hX3 : XR P T gT Q β F (D ++ List.map β []) z nn g0 g1 g3 g4 g5 gn tq (vAt x (vP x + 1) (vQ x + 1) (vH x + 1, vU x, vL x) :: r) S' (pshW (topC (x :: r) + offC (x :: r)) (nI 1) 0 0 (wA 95 r.length (nI (vQ x + 1)) Sr)) := hX2
    exact ⟨Q, β, _, nn, g0, g1, g3, g4, g5, gn, _, hon_n (d := d + 13) (XR_top hX) hr30 (rw_of hX (hr P T hS)) (by omega) (by omega) (by decide) (by decide) (Or.inr rfl) hb3, XR_lcn hX3 _ _ rfl⟩
  · rw [if_neg k1] at hob
    have ha : Ans (d + 19) 151 [.ref 52] S1 (some (.int (nI 2))) S1 := Ans.of (by rw [m151]; exact Nat.le_of_ble_eq_true rfl) (Bod.lv (by rfl) (mBf_2 (d := d + 10) (hob.up (by omega)) (by decide)))
    have hb : Ans (d + 21) 128 [.ref 52, .int (nI 9)] S1 (some (.int (nI 2))) S1 := Ans.of (by rw [m128]; exact Nat.le_of_ble_eq_true rfl) (Bod.lv (by rfl) (mFw9_1 (d := d + 12) (ha.up (by omega))))
    have ht : tnE' (d + 21) S S1 2 := by
      have ho : 1 ≤ 9 ∧ 9 ≤ 15 := by omega
      have he : 1 ≤ 2 ∧ 2 ≤ 100 := by omega
      intro tn v Sf S4 b
      exact flw_E (d := d + 13) hr1 ho he hb
    refine Or.inr ⟨2, ty, _, r, S1, by omega, ht, h1, ⟨hp1, hk1, hF1⟩, fun P T gT Q β D z nn g0 g1 g3 g4 g5 gn Sr hS hX => ?_⟩
    have k3 := (is hX).1 1 (by omega) k1
    have e51 := at_51 (n := r.length) (k := nI (vQ x + 1)) hX
    have hb3 : Ans (d + 21) 400 [.ref 61, .int (nI 31), .int (nI 0)] (wA 95 r.length (nI (vQ x + 1)) Sr) (some (.int 0)) _ := Ans.of (by rw [m400]; exact Nat.le_of_ble_eq_true rfl) (Bod.lv (by rfl) (rPl_37 (d := d + 12) (by omega) (by omega) rfl e51 (by omega) tt (k3.up (by omega)) (rfail_T (d := d + 11) 2 (by omega) _)))
    exact ⟨Q, β, D, nn, g0, g1, g3, g4, g5, gn, _, hon_n (d := d + 13) (XR_top hX) hr30 (rw_of hX (hr P T hS)) (by omega) (by omega) (by decide) (by decide) (Or.inl rfl) hb3, rIe _ _ _, XRe_I (XR_XRe (hXX hX) (CI_lob h1)) (Or.inl rfl)⟩
end
