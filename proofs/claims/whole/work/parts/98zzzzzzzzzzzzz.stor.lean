/-! NAMES ON BOTH SIDES: STORE (19 | 6), UNBIND (20 | 7) -/
section
variable {P : Nat → Prop} {T : cS} {gT : Nat} {Q : Nat → Prop} {β β' : Nat → Nat} {F : Nat → Nat → Nat → Prop} {loc par : Nat → Nat → Nat} {ty : Nat → Nat × Nat} {G : Nat → Nat → Nat → Nat × Nat × LL → Prop} {D D' K : List Nat} {z nn g0 g1 g3 g4 g5 gn d n m p q q' pT k j f c u s ni fr sl dp op nm rn o e : Nat} {tq : Nat → Nat × Nat} {C r : List Lv} {x : Lv} {S S' Sf S0 S1 X W Sc Sr : cS} {w : Nat → Int32} {St : (Nat → Prop) → cS → Prop} {ok : List Lv → Prop} {hi lo a b : Int64} {cu ci ru ri kd : Int32}
/-- the frame that a local name is of -/
theorem plf (h : CI F loc par ty G tq (x :: r) S) (h0 : ∀ i, i ≤ u → scPU par (vM x) i (vL x).2 ≠ 0) (hsl : sl < loc (vM x) (scPU par (vM x) u (vL x).2)) : vF x ≠ 0 ∧ ftO ty S (vM x) (vL x).2 (vF x) ∧ lv S (vF x) ∧ lv S (frI S u (vF x)) ∧ h_kd S (frI S u (vF x)) = 7 ∧ sl < h_n S (frI S u (vF x)) := by
  have hty : ∀ k, lv S k → tyO F loc par ty S k := fun k hk => (h.2.2.2.1 k hk).1
  have h00 : (vL x).2 ≠ 0 := h0 0 (Nat.zero_le _)
  obtain ⟨_, hlvOk, _⟩ := h.2.2.2.2.2.1
  have hf0 : vF x ≠ 0 := fun c => h00 (h.2.2.2.2.2.1.1 c)
  obtain ⟨f1, f2, f3, f4⟩ := hlvOk hf0
  have hft : ftO ty S (vM x) (vL x).2 (vF x) := ⟨fun c => absurd c h00, fun _ => ⟨f1, f2, f4⟩⟩
  obtain ⟨g1', g2', g3'⟩ := fr_n hty (fup_t hty hft h0) (h0 u (Nat.le_refl _))
  exact ⟨hf0, hft, f1, g1', g2', by rw [g3']; exact hsl⟩
theorem wcm {W : cS} {i c a1 a2 a3 e1 e2 e3 : Nat} {v v1 : Int32} {v2 v3 : Int64} : wL a3 e3 v3 (wL a2 e2 v2 (wA a1 e1 v1 (wI i v W))) = wI i v (wL a3 e3 v3 (wL a2 e2 v2 (wA a1 e1 v1 W))) := rfl
theorem store_S (h : CI F loc par ty G tq (x :: r) S) (hpc : PC w pT S) (hck : clk S) (h5 : sI S 5216 = nI (vP x)) (hp : vP x + 2 < pT) (hw0 : w (vP x) = nI 19) (hw1 : w (vP x + 1) = cu) (hw2 : w (vP x + 2) = ci) (hex : exX F tq (x :: r) S) (hl : lob (vL x) + 1 ≤ vH x) (hq : vQ x + 4 < 2 ^ 20) (hpl : plO F loc par (vM x) (vL x).2 q cu ci rn ru ri) (hr : ∀ P T, St P T → nmW P T (vM x) (vQ x) 6 rn ru ri) (hok : ok (vAt x (vP x + 3) (vQ x + 4) (vH x - 1, vU x, vL x) :: r)) : stp St F loc par G tq w pT (d + 21) (x :: r) S ok := by
  have m161 := ml_161
  have m172 := ml_172
  have m354 := ml_354
  have hr30 : r.length ≤ 30 := h.2.2.2.2.2.2.1.2.2.2
  obtain ⟨l1, l2, l3, l4, l5⟩ := CI_len h
  have hT := CI_T h
  have hr1 := rd_T (d := d + 19) hpc h5 (by omega)
  rw [hw0] at hr1
  have hr2 := rd_T (d := d + 17) (PC_I (i := 5216) (k := nI (vP x + 1)) hpc (by decide)) (rIe _ _ _) (by omega)
  rw [hw1, wI_wI] at hr2
  have hr3 := rd_T (d := d + 17) (PC_I (i := 5216) (k := nI (vP x + 1 + 1)) hpc (by decide)) (rIe _ _ _) hp
  rw [hw2, wI_wI] at hr3
  obtain ⟨S1, hS1⟩ : ∃ S1, S1 = wI 5216 (nI (vP x + 3)) S := ⟨_, rfl⟩
  have hr3' : Ans (d + 19) 127 [.ref 52] (wI 5216 (nI (vP x + 1 + 1)) S) (some (.int ci)) S1 := by rw [hS1]; exact hr3
  have h1 := CI_opd h hS1 (vP x + 3) (vQ x + 4)
  have hp1 : PC w pT S1 := by rw [hS1]; exact PC_I hpc (by decide)
  have hk1 : clk S1 := by rw [hS1]; exact clk_I hck (by decide) (by decide)
  have hF1 : CFw S S1 := by rw [hS1]; exact CFw_I (by decide)
  have h51 : sI S1 5216 = nI (vP x + 3) := by rw [hS1]; exact rIe _ _ _
  have hfr : sI S1 5215 = nI (vF x) := h1.2.2.2.2.2.2.1.2.2.1
  have hv1 : 0 < vH (vAt x (vP x + 3) (vQ x + 4) (vS x)) := by show 0 < vH x; omega
  obtain ⟨o, o1, o2, o3⟩ := mHS_o h1.1 (i := topC (x :: r) - 1 - 0) (by show topC (x :: r) - 1 - 0 < topC (x :: r); omega)
  have k0 : c_kind (sL S1 47 (topC (x :: r) - 1 - 0)) ≠ 0 := CI_k h1 (i := 0) hv1
  have k5 : c_kind (sL S1 47 (topC (x :: r) - 1 - 0)) ≠ nI 5 := CI_n5 h1 (i := 0) (by show 0 + lob (vL x) < vH x; omega)
  obtain ⟨_, _, l3', _, _⟩ := CI_len h1
  have l3'' : sI S1 4603 = nI (topC (x :: r)) := l3'
  have qh := hi_ev (d := d + 10) (S := S1) (b := 0) l3'' (by omega) (by omega)
  have ql := lo_ev (d := d + 10) (S := S1) (b := 0) l3'' (by omega) (by omega)
  have e1off : topC (x :: r) + offC (x :: r) - 1 - 0 = topC (x :: r) + offC (x :: r) - 1 := by omega
  -- what is left when the name is bound
  have fin : ∀ {W : cS}, CI F loc par ty G tq (vAt x (vP x + 3) (vQ x + 4) (vS x) :: r) W → CFr S1 W → (∀ S', Ans (d + 19) 141 [.ref 46, .int (nI 1)] W none S' → Ans (d + 20) 172 [.ref 52] (wI 5216 (nI (vP x + 1)) S) (some (.int (nI 0))) S') → (∀ P T gT Q β D z nn g0 g1 g3 g4 g5 gn Sr, XR P T gT Q β F D z nn g0 g1 g3 g4 g5 gn tq (x :: r) S Sr → ∃ D' Wr, XR P T gT Q β F D' z nn g0 g1 g3 g4 g5 gn tq (vAt x (vP x + 3) (vQ x + 4) (vS x) :: r) W Wr ∧ Ans (d + 21) 354 [.ref 61, .int (nI 6), .int (nI rn), .int ru, .int ri] (wA 95 r.length (nI (vQ x + 4)) Sr) (some (.int (nI 1))) (wI 6151 (nI (topC (x :: r) + offC (x :: r) - 1)) Wr)) → stp St F loc par G tq w pT (d + 21) (x :: r) S ok := fun {W} hCW hFW hA hR => by
    obtain ⟨S', b1, b2, b3, b4⟩ := pop_B (d := d + 9) (v := 1) hCW (by show lob (vL x) + 1 ≤ vH x; omega)
    have ha := hA S' (b1.up (by omega))
    have hb : Ans (d + 21) 161 [.ref 52, .int (nI 19)] (wI 5216 (nI (vP x + 1)) S) (some (.int (nI 0))) S' := Ans.of (by rw [m161]; exact Nat.le_of_ble_eq_true rfl) (Bod.lv (by rfl) (mNm_5 (d := d + 12) (op := 19) (by omega) rfl ha))
    have ht : tnC (d + 21) S S' := by
      have hoc : 16 ≤ 19 ∧ 19 ≤ 24 := by omega
      intro tn v Sf
      exact flw_N (d := d + 13) hr1 hoc hb
    have hFr := hFW.trans b3
    refine Or.inl ⟨ty, tq, _, S', hok, ht, b2 (vP x + 3) (vQ x + 4), ⟨(hFr.2.2.1 5216 (by decide)).trans h51, PC_r hp1 hFr, clk_r hk1 hFr, hF1.trans hFr.w⟩, fun P T gT Q β D z nn g0 g1 g3 g4 g5 gn Sr hS hX => ?_⟩
    obtain ⟨D', Wr, hXW, hAr⟩ := hR P T gT Q β D z nn g0 g1 g3 g4 g5 gn Sr hX
    obtain ⟨D2, hX2⟩ := b4 P T gT Q β D' z nn g0 g1 g3 g4 g5 gn Wr (wI 6151 (nI (topC (x :: r) + offC (x :: r) - 1)) Wr) hXW (sFr_I (sFr.refl _ _)) (rIe _ _ _)
    exact ⟨Q, β, D2, nn, g0, g1, g3, g4, g5, gn, _, once_nm (d := d + 13) (e := 1) hX hr30 (hr P T hS) (by omega) (Or.inr rfl) hAr, hX2⟩
  have hvr : ∀ {P T gT Q β D z nn g0 g1 g3 g4 g5 gn Sr}, XR P T gT Q β F D z nn g0 g1 g3 g4 g5 gn tq (x :: r) S Sr → (∃ y, y ≤ 4 ∧ sA Sr 91 (topC (x :: r) + offC (x :: r) - 1) = nI y) ∧ vrel β (sL S1 47 (topC (x :: r) - 1 - 0)) (sL S1 48 (topC (x :: r) - 1 - 0)) (sA Sr 91 (topC (x :: r) + offC (x :: r) - 1)) (sL Sr 92 (topC (x :: r) + offC (x :: r) - 1)) (sL Sr 93 (topC (x :: r) + offC (x :: r) - 1)) := fun {P T gT Q β D z nn g0 g1 g3 g4 g5 gn Sr} hX => by
    have v := XR_v hX (i := 0) (by omega)
    rw [e1off] at v
    obtain ⟨y, y4, ya, _⟩ := XR_k h hX (i := 0) (by omega)
    rw [e1off] at ya
    refine ⟨⟨y, y4, ya⟩, ?_⟩
    rw [hS1]
    exact v
  obtain ⟨hF, hpl⟩ := hpl
  rcases hpl with ⟨e1, e2, e3, e4⟩ | ⟨u, sl, hu, e1, e2, e3, e4, h0, hsl, hsl2⟩
  · subst e1 e2 e3 e4
    have hq4 : q < 4096 := by
      obtain ⟨_, _, _, _, _, _, _, _, _, _, _, _, _, _, _, hX0⟩ := hex
      have := (hX0.2.1.2.2.2.2 q rn hF).1
      have := hX0.2.1.2.1
      omega
    obtain ⟨X, W, D, b1, b2, b3, b4, b5, b6, b7, b8, b9⟩ := assign_CI (d := d + 10) h1 hq4 o2 o1 o3 k5
    refine fin b2 b3.wide (fun S' hA => Ans.of (by rw [m172]; exact Nat.le_of_ble_eq_true rfl) (Bod.lv (by rfl) (mSt_2 (d := d + 11) hr2 hr3' (by decide) (qh.up (by omega)) (ql.up (by omega)) (b1.up (by omega)) hA))) (fun P T gT Q β D' z nn g0 g1 g3 g4 g5 gn Sr hX => ?_)
    obtain ⟨⟨y, y4, ya⟩, hv⟩ := hvr hX
    have hX1 := XR_opd hX hS1 hq (vP x + 3)
    have hXW := assign_XR h1 hX1 hF b4 b5 b6 b7 b8 b9 hv rfl
    refine ⟨_, _, hXW, ?_⟩
    obtain ⟨_, ⟨_, _, v3, v4, v5⟩, ⟨_, _, w3, w4, w5⟩, n1, n2, n3, _⟩ := hX1.2.2.1
    have hrn := (hX.2.1.2.2.2.2 q rn hF).2.1
    have ng4' := nG_ne hX1.2.2.1.2.2.2.2.2.2.2.1.2.2.2.1 (a := 93) (by omega)
    have e51r : sI (wA 95 r.length (nI (vQ x + 4)) Sr) 6151 = nI (topC (x :: r) + offC (x :: r)) := by have e := XR_51 hX; exact e
    have hg := rNg_5 (d := d + 12) (op := 6) (nm := rn) (sl := 0) (S := wA 95 r.length (nI (vQ x + 4)) Sr) (t := topC (x :: r) + offC (x :: r)) (e91 := y) (by omega) (by omega) (by omega) rfl e51r (by omega) (by omega) v3 w3 (by omega) ya (by omega) (by omega) v4 w4 (by omega) (by omega) v5 w5 (by omega) (by omega)
    have e92 : sL (wA g3 rn (nI y) (wI 6151 (nI (topC (x :: r) + offC (x :: r) - 1)) (wA 95 r.length (nI (vQ x + 4)) Sr))) 92 (topC (x :: r) + offC (x :: r) - 1) = sL Sr 92 (topC (x :: r) + offC (x :: r) - 1) := rfl
    have e93 : sL (wL g4 rn (sL Sr 92 (topC (x :: r) + offC (x :: r) - 1)) (wA g3 rn (nI y) (wI 6151 (nI (topC (x :: r) + offC (x :: r) - 1)) (wA 95 r.length (nI (vQ x + 4)) Sr)))) 93 (topC (x :: r) + offC (x :: r) - 1) = sL Sr 93 (topC (x :: r) + offC (x :: r) - 1) := by
      rw [rL, if_neg (fun c => ng4' c.symm)]
      rfl
    rw [e92, e93, wcm (c := 0), ← ya] at hg
    exact Ans.of (by rw [m354]; exact Nat.le_of_ble_eq_true rfl) (Bod.lv (by rfl) hg)
  · subst e1 e2 e3 e4
    have h01 : ∀ i, i ≤ u → scPU par (vM (vAt x (vP x + 3) (vQ x + 4) (vS x))) i (vL (vAt x (vP x + 3) (vQ x + 4) (vS x))).2 ≠ 0 := h0
    obtain ⟨f1, f2, f3, f4, f5, f6⟩ := plf h1 h01 hsl
    have hty : ∀ k, lv S1 k → tyO F loc par ty S1 k := fun k hk => (h1.2.2.2.1 k hk).1
    obtain ⟨X, W, D, b1, b2, b3, b4, b5, b6, b7⟩ := setf_CI (d := d + 9) h1 f4 f5 f6 o2 o3 k5
    have hfu := fup_C (d := d + 10) hty f2 h01 (by omega) hfr
    refine fin b3 b2.2.1.wide (fun S' hA => Ans.of (by rw [m172]; exact Nat.le_of_ble_eq_true rfl) (Bod.lv (by rfl) (mSt_1 (d := d + 11) hr2 hr3' (k1_ge_T u rfl (by omega)) hfu (qh.up (by omega)) (ql.up (by omega)) (b1.up (by omega)) hA))) (fun P T gT Q β D' z nn g0 g1 g3 g4 g5 gn Sr hX => ?_)
    obtain ⟨⟨y, y4, ya⟩, hv⟩ := hvr hX
    have hX1 := XR_opd hX hS1 hq (vP x + 3)
    obtain ⟨t, v2, v3, v4, v5, v6, v7, n, m, t0, wr, t2, t3, ⟨_, t4⟩, t5⟩ := setf_XR (d := d + 11) h1 hX1 f4 f5 f6 b2 b4 b5 b6 b7
    refine ⟨_, _, t5 _ _ _ hv, ?_⟩
    have hrn : rn < 2 ^ 18 := by
      have := (hX.2.1.2.2.2.2 q rn hF).2.1
      obtain ⟨_, _, _, n1, n2, n3, _⟩ := hX.2.2.1
      omega
    obtain ⟨⟨d1, d2, d3, _⟩, _⟩ := hX.2.2.2.2.1
    have e59 : sI (wA 95 r.length (nI (vQ x + 4)) Sr) 6159 = nI (r.length + 1) := hX.2.2.2.2.2.1.2.1
    have e96 : sA (wA 95 r.length (nI (vQ x + 4)) Sr) 96 (r.length + 1 - 1) = nI (β (vF x)) := by
      show sA Sr 96 r.length = _
      have hf0 : vF x ≠ 0 := f1
      rw [d3, if_neg hf0]
    have e51r : sI (wA 95 r.length (nI (vQ x + 4)) Sr) 6151 = nI (topC (x :: r) + offC (x :: r)) := by have e := XR_51 hX; exact e
    have hb : β (vF x) < 1500 := hX1.1.b f3
    have hbu : β (frI S1 u (vF x)) < 1500 := hX1.1.b f4
    have wr' := wr
    obtain ⟨u1, u2, ⟨NS, u3⟩, u4, _, u6, u7, _, _, y2, _, y4', y5, _, _, y8, _, gv2, gv3, gv4, gv5, _⟩ := wr
    obtain ⟨Wb, hWb⟩ : ∃ Wb, Wb = wI 6151 (nI (topC (x :: r) + offC (x :: r) - 1)) (wA 95 r.length (nI (vQ x + 4)) Sr) := ⟨_, rfl⟩
    have h358 : Ans (d + 20) 358 [.ref t, .int (nI sl), .int (nI y), .long (sL Wb 92 (topC (x :: r) + offC (x :: r) - 1)), .long (sL Wb 93 (topC (x :: r) + offC (x :: r) - 1))] Wb none (wI 6151 (nI (topC (x :: r) + offC (x :: r) - 1)) (keyW sl v2 v4 v5 (sA Sr 91 (topC (x :: r) + offC (x :: r) - 1)) (sL Sr 92 (topC (x :: r) + offC (x :: r) - 1)) (sL Sr 93 (topC (x :: r) + offC (x :: r) - 1)) (wA 95 r.length (nI (vQ x + 4)) Sr))) := by
      have hw : tRef Wb (β (frI S1 u (vF x))) t v2 v3 v4 v5 v6 v7 n m := by
        rw [hWb]
        exact wr'
      have := rset_T (d := d + 11) (kd := nI y) (xa := sL Wb 92 (topC (x :: r) + offC (x :: r) - 1)) (xb := sL Wb 93 (topC (x :: r) + offC (x :: r) - 1)) hw t2
      have e : wL v5 sl (sL Wb 93 (topC (x :: r) + offC (x :: r) - 1)) (wL v4 sl (sL Wb 92 (topC (x :: r) + offC (x :: r) - 1)) (wA v2 sl (nI y) Wb)) = wI 6151 (nI (topC (x :: r) + offC (x :: r) - 1)) (keyW sl v2 v4 v5 (sA Sr 91 (topC (x :: r) + offC (x :: r) - 1)) (sL Sr 92 (topC (x :: r) + offC (x :: r) - 1)) (sL Sr 93 (topC (x :: r) + offC (x :: r) - 1)) (wA 95 r.length (nI (vQ x + 4)) Sr)) := by
        rw [hWb, ya]
        rfl
      rw [e] at this
      exact this
    rw [hWb] at h358
    exact Ans.of (by rw [m354]; exact Nat.le_of_ble_eq_true rfl) (Bod.lv (by rfl) (rNl_1 (d := d + 12) (op := 6) (nm := rn) (dp := u) (sl := sl) (by omega) (by omega) (by omega) (by omega) e59 (by omega) (by omega) e96 (by omega) (fun lv0 p0 p1 p2 p3 p4 p5 p6 => fupL_R (d := d + 12) hty hX1.1 (by omega) (by omega) (by omega) (ni := 0) f2 h0 (by omega) (fun lv1 q0 q1 q2 q3 q4 q5 q6 => rNlL_5 (d := d + 12) q0 q1 q2 q3 q4 q5 q6 (by omega) (by omega) (by omega) (by omega) (by omega) (by omega) (Nat.le_refl _) hbu u2 u1 rfl e51r (by omega) (by omega) ya (by omega) h358 u3) lv0 p0 p1 p2 (by rw [Nat.zero_add]; exact p3) p4 p5 p6)))
end
