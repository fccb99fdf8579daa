/-! NAMES ON BOTH SIDES: UNBIND (20 | 7) -/
section
variable {P : Nat → Prop} {T : cS} {gT : Nat} {Q : Nat → Prop} {β β' : Nat → Nat} {F : Nat → Nat → Nat → Prop} {loc par : Nat → Nat → Nat} {ty : Nat → Nat × Nat} {G : Nat → Nat → Nat → Nat × Nat × LL → Prop} {D D' K : List Nat} {z nn g0 g1 g3 g4 g5 gn d n m p q q' pT k j f c u s ni fr sl dp op nm rn o e : Nat} {tq : Nat → Nat × Nat} {C r : List Lv} {x : Lv} {S S' Sf S0 S1 X W Sc Sr : cS} {w : Nat → Int32} {St : (Nat → Prop) → cS → Prop} {ok : List Lv → Prop} {hi lo a b : Int64} {cu ci ru ri kd : Int32}
theorem unbind_S (h : CI F loc par ty G tq (x :: r) S) (hpc : PC w pT S) (hck : clk S) (h5 : sI S 5216 = nI (vP x)) (hp : vP x + 2 < pT) (hw0 : w (vP x) = nI 20) (hw1 : w (vP x + 1) = cu) (hw2 : w (vP x + 2) = ci) (hex : exX F tq (x :: r) S) (hq : vQ x + 4 < 2 ^ 20) (hpl : plO F loc par (vM x) (vL x).2 q cu ci rn ru ri) (hr : ∀ P T, St P T → nmW P T (vM x) (vQ x) 7 rn ru ri) (hok : ok (vAt x (vP x + 3) (vQ x + 4) (vS x) :: r)) : stp St F loc par G tq w pT (d + 21) (x :: r) S ok := by
  have m161 := ml_161
  have m175 := ml_175
  have m354 := ml_354
  have m355 := ml_355
  have hr30 : r.length ≤ 30 := h.2.2.2.2.2.2.1.2.2.2
  have hr1 := rd_T (d := d + 19) hpc h5 (by omega)
  rw [hw0] at hr1
  have hr2 := rd_T (d := d + 17) (PC_I (i := 5216) (k := nI (vP x + 1)) hpc (by decide)) (rIe _ _ _) (by omega)
  rw [hw1, wI_wI] at hr2
  have hr3 := rd_T (d := d + 17) (PC_I (i := 5216) (k := nI (vP x + 1 + 1)) hpc (by decide)) (rIe _ _ _) hp
  rw [hw2, wI_wI] at hr3
  obtain ⟨S1, hS1⟩ : ∃ S1, S1 = wI 5216 (nI (vP x + 3)) S := ⟨_, rfl⟩
  have hr3' : Ans (d + 19) 127 [.ref 52] (wI 5216 (nI (vP x + 1 + 1)) S) (some (.int ci)) S1 := by rw [hS1]; exact hr3
  have h1 := CI_opd h hS1 (vP x + 3) (vQ x + 4)
  have hp1 : PC w pT S1 := by rw [hS1]; exact PC_I hpc (by decide)
  have hk1 : clk S1 := by rw [hS1]; exact clk_I hck (by decide) (by decide)
  have hF1 : CFw S S1 := by rw [hS1]; exact CFw_I (by decide)
  have h51 : sI S1 5216 = nI (vP x + 3) := by rw [hS1]; exact rIe _ _ _
  have hfr : sI S1 5215 = nI (vF x) := h1.2.2.2.2.2.2.1.2.2.1
  have o0 : c_obj 0 0 = nI 0 := ob_0 (by decide)
  -- bound, then unbound
  have fin : ∀ {W : cS}, CI F loc par ty G tq (vAt x (vP x + 3) (vQ x + 4) (vS x) :: r) W → CFr S1 W → Ans (d + 20) 175 [.ref 52] (wI 5216 (nI (vP x + 1)) S) (some (.int (nI 0))) W → (∀ P T gT Q β D z nn g0 g1 g3 g4 g5 gn Sr, XR P T gT Q β F D z nn g0 g1 g3 g4 g5 gn tq (x :: r) S Sr → ∃ D' Wr, XR P T gT Q β F D' z nn g0 g1 g3 g4 g5 gn tq (vAt x (vP x + 3) (vQ x + 4) (vS x) :: r) W Wr ∧ Ans (d + 21) 354 [.ref 61, .int (nI 7), .int (nI rn), .int ru, .int ri] (wA 95 r.length (nI (vQ x + 4)) Sr) (some (.int (nI 1))) Wr) → stp St F loc par G tq w pT (d + 21) (x :: r) S ok := fun {W} hCW hFW ha hR => by
    have hb : Ans (d + 21) 161 [.ref 52, .int (nI 20)] (wI 5216 (nI (vP x + 1)) S) (some (.int (nI 0))) W := Ans.of (by rw [m161]; exact Nat.le_of_ble_eq_true rfl) (Bod.lv (by rfl) (mNm_6 (d := d + 12) (op := 20) (by omega) rfl (by omega) ha))
    have ht : tnC (d + 21) S W := by
      have hoc : 16 ≤ 20 ∧ 20 ≤ 24 := by omega
      intro tn v Sf
      exact flw_N (d := d + 13) hr1 hoc hb
    refine Or.inl ⟨ty, tq, _, W, hok, ht, hCW, ⟨(hFW.2.2.1 5216 (by decide)).trans h51, PC_r hp1 hFW, clk_r hk1 hFW, hF1.trans hFW.w⟩, fun P T gT Q β D z nn g0 g1 g3 g4 g5 gn Sr hS hX => ?_⟩
    obtain ⟨D', Wr, hXW, hAr⟩ := hR P T gT Q β D z nn g0 g1 g3 g4 g5 gn Sr hX
    exact ⟨Q, β, D', nn, g0, g1, g3, g4, g5, gn, _, once_nm (d := d + 13) (e := 1) hX hr30 (hr P T hS) (by omega) (Or.inr rfl) hAr, hXW⟩
  -- not bound
  have bad : Ans (d + 20) 175 [.ref 52] (wI 5216 (nI (vP x + 1)) S) (some (.int (nI 1))) S1 → (∀ P T gT Q β D z nn g0 g1 g3 g4 g5 gn Sr, XR P T gT Q β F D z nn g0 g1 g3 g4 g5 gn tq (x :: r) S Sr → Ans (d + 20) 355 [.ref 61, .int (nI 7), .int (nI rn)] (wA 95 r.length (nI (vQ x + 4)) Sr) (some (.int (nI 0))) (wI 6164 (nI 1) (wA 95 r.length (nI (vQ x + 4)) Sr)) → Ans (d + 21) 354 [.ref 61, .int (nI 7), .int (nI rn), .int ru, .int ri] (wA 95 r.length (nI (vQ x + 4)) Sr) (some (.int (nI 0))) (wI 6164 (nI 1) (wA 95 r.length (nI (vQ x + 4)) Sr))) → stp St F loc par G tq w pT (d + 21) (x :: r) S ok := fun ha hR => by
    have hb : Ans (d + 21) 161 [.ref 52, .int (nI 20)] (wI 5216 (nI (vP x + 1)) S) (some (.int (nI 1))) S1 := Ans.of (by rw [m161]; exact Nat.le_of_ble_eq_true rfl) (Bod.lv (by rfl) (mNm_6 (d := d + 12) (op := 20) (by omega) rfl (by omega) ha))
    have ht : tnE' (d + 21) S S1 1 := by
      have he : 1 ≤ 1 ∧ 1 ≤ 100 := by omega
      have hoc : 16 ≤ 20 ∧ 20 ≤ 24 := by omega
      intro tn v Sf S4 b
      exact flw_NE (d := d + 13) hr1 hoc he hb
    refine Or.inr ⟨1, ty, _, r, S1, by omega, ht, h1, ⟨hp1, hk1, hF1⟩, fun P T gT Q β D z nn g0 g1 g3 g4 g5 gn Sr hS hX => ?_⟩
    have hX1 := XR_opd hX hS1 hq (vP x + 3)
    have hrn : rn < 2 ^ 18 := by
      have := (hX.2.1.2.2.2.2 q rn hpl.1).2.1
      obtain ⟨_, _, _, n1, n2, n3, _⟩ := hX.2.2.1
      omega
    have hA := hR P T gT Q β D z nn g0 g1 g3 g4 g5 gn Sr hX (Ans.of (by rw [m355]; exact Nat.le_of_ble_eq_true rfl) (Bod.lv (by rfl) (rNb_1 (d := d + 11) (op := 7) (nm := rn) (by omega) (by omega) (by omega) (rfail_T (d := d + 10) 1 (by omega) (wA 95 r.length (nI (vQ x + 4)) Sr)))))
    exact ⟨Q, β, D, nn, g0, g1, g3, g4, g5, gn, _, once_nm (d := d + 13) hX hr30 (hr P T hS) (by omega) (Or.inl rfl) hA, rIe _ _ _, XRe_I (XR_XRe hX1 (CI_lob h1)) (Or.inl rfl)⟩
  obtain ⟨hF, hpl'⟩ := hpl
  rcases hpl' with ⟨e1, e2, e3, e4⟩ | ⟨u, sl, hu, e1, e2, e3, e4, h0, hsl, hsl2⟩
  · subst e1 e2 e3 e4
    obtain ⟨P0, T0, gT0, Q0, β0, D0, z0, nn0, k0, k1, k3, k4, k5, kn, Sr0, hX0⟩ := hex
    have hq4 : q < 4096 := by
      have := (hX0.2.1.2.2.2.2 q rn hF).1
      have := hX0.2.1.2.1
      omega
    have rel : ∀ P T gT Q β D z nn g0 g1 g3 g4 g5 gn Sr, XR P T gT Q β F D z nn g0 g1 g3 g4 g5 gn tq (x :: r) S Sr → rn < nn ∧ vrel β (sL S1 21 q) (sL S1 22 q) (sA Sr g3 rn) (sL Sr g4 rn) (sL Sr g5 rn) := fun P T gT Q β D z nn g0 g1 g3 g4 g5 gn Sr hX => by
      obtain ⟨a1, a2, a3⟩ := hX.2.1.2.2.2.2 q rn hF
      rw [hS1]
      exact ⟨a2, hX.2.1.1.2.2.1 rn q a2 a1 a3⟩
    obtain ⟨i, i5, hi⟩ := (vr_0 (rel _ _ _ _ _ _ _ _ _ _ _ _ _ _ _ hX0).2).2
    have k6 := kindOf_ev (d := d + 18) (S := S1) (hi := sL S1 21 q)
    rw [hi] at k6
    by_cases c0 : i = 0
    · refine bad (Ans.of (by rw [m175]; exact Nat.le_of_ble_eq_true rfl) (Bod.lv (by rfl) (mUb_6 (d := d + 11) hr2 hr3' (by decide) ((nHiOf_T (d := d + 17) hq4).up (by omega)) (by omega) k6 c0))) (fun P T gT Q β D z nn g0 g1 g3 g4 g5 gn Sr hX h355 => ?_)
      have hX1 := XR_opd hX hS1 hq (vP x + 3)
      obtain ⟨a1, a2⟩ := rel P T gT Q β D z nn g0 g1 g3 g4 g5 gn Sr hX
      obtain ⟨_, ⟨_, _, v3, v4, v5⟩, ⟨_, _, w3, w4, w5⟩, n1, n2, n3, _⟩ := hX1.2.2.1
      have ng3 := nG_ne hX1.2.2.1.2.2.2.2.2.2.2.1.2.2.1 (a := 95) (by omega)
      have e3 : sA (wA 95 r.length (nI (vQ x + 4)) Sr) g3 rn = Int32.ofInt (-1) := by
        show (if g3 = 95 then _ else sA Sr g3) rn = _
        rw [if_neg ng3]
        exact (vr_0 a2).1.mp (by rw [hi, c0]; rfl)
      exact Ans.of (by rw [m354]; exact Nat.le_of_ble_eq_true rfl) (Bod.lv (by rfl) (rNg_4 (d := d + 12) (by omega) (by omega) (by omega) (by omega) v3 w3 (by omega) (by omega) e3 h355))
    · obtain ⟨X, W, D, b1, b2, b3, b4, b5, b6, b7, b8, b9⟩ := assign_CI (d := d + 10) h1 hq4 o0 (by omega) (Or.inl rfl) (by decide)
      refine fin b2 b3.wide (Ans.of (by rw [m175]; exact Nat.le_of_ble_eq_true rfl) (Bod.lv (by rfl) (mUb_5 (d := d + 11) hr2 hr3' (by decide) ((nHiOf_T (d := d + 17) hq4).up (by omega)) (by omega) k6 c0 (b1.up (by omega))))) (fun P T gT Q β D' z nn g0 g1 g3 g4 g5 gn Sr hX => ?_)
      have hX1 := XR_opd hX hS1 hq (vP x + 3)
      obtain ⟨a1, a2⟩ := rel P T gT Q β D' z nn g0 g1 g3 g4 g5 gn Sr hX
      have hXW := assign_XR (a := sL Sr g4 rn) (b := sL Sr g5 rn) (kd := Int32.ofInt (-1)) h1 hX1 hF b4 b5 b6 b7 b8 b9 (Or.inl ⟨rfl, rfl, rfl⟩) rfl
      obtain ⟨_, ⟨_, _, v3, v4, v5⟩, ⟨_, _, w3, w4, w5⟩, n1, n2, n3, _⟩ := hX1.2.2.1
      have ng3 := nG_ne hX1.2.2.1.2.2.2.2.2.2.2.1.2.2.1 (a := 95) (by omega)
      rw [wL_id (a := g4) (show sL (wA g3 rn (Int32.ofInt (-1)) (wA 95 r.length (nI (vQ x + 4)) Sr)) g4 rn = sL Sr g4 rn from rfl), wL_id (a := g5) (show sL (wA g3 rn (Int32.ofInt (-1)) (wA 95 r.length (nI (vQ x + 4)) Sr)) g5 rn = sL Sr g5 rn from rfl)] at hXW
      obtain ⟨y, y1, y2, _⟩ := vr_k a2 (fun c' => c0 (nI_j (by omega) (by omega) (hi.symm.trans c')))
      have e3 : sA (wA 95 r.length (nI (vQ x + 4)) Sr) g3 rn = nI y := by
        show (if g3 = 95 then _ else sA Sr g3) rn = _
        rw [if_neg ng3]
        exact y2
      exact ⟨_, _, hXW, Ans.of (by rw [m354]; exact Nat.le_of_ble_eq_true rfl) (Bod.lv (by rfl) (rNg_2 (d := d + 12) (by omega) (by omega) (by omega) (by omega) v3 w3 (by omega) (by omega) e3 (by omega) rfl))⟩
  · subst e1 e2 e3 e4
    have h01 : ∀ i, i ≤ u → scPU par (vM (vAt x (vP x + 3) (vQ x + 4) (vS x))) i (vL (vAt x (vP x + 3) (vQ x + 4) (vS x))).2 ≠ 0 := h0
    obtain ⟨f1, f2, f3, f4, f5, f6⟩ := plf h1 h01 hsl
    have hty : ∀ k, lv S1 k → tyO F loc par ty S1 k := fun k hk => (h1.2.2.2.1 k hk).1
    have hok1 := mHS_ok h1.1 _ f4.1 f4.2.1
    obtain ⟨en1, en2⟩ := ent_C (d := d + 16) (i := sl) f4 hok1 f6
    obtain ⟨X, W, D, b1, b2, b3, b4, b5, b6, b7⟩ := setf_CI (d := d + 9) h1 f4 f5 f6 o0 (Or.inl rfl) (by decide)
    have hfu := fup_C (d := d + 10) hty f2 h01 (by omega) hfr
    have tn := fun {P T gT Q β D z nn g0 g1 g3 g4 g5 gn Sr} (hX : XR P T gT Q β F D z nn g0 g1 g3 g4 g5 gn tq (x :: r) S Sr) => setf_XR (d := d + 11) h1 (XR_opd hX hS1 hq (vP x + 3)) f4 f5 f6 b2 b4 b5 b6 b7
    obtain ⟨P0, T0, gT0, Q0, β0, D0, z0, nn0, k0, k1, k3, k4, k5, kn, Sr0, hX0⟩ := hex
    obtain ⟨_, _, _, _, _, _, _, _, _, _, _, _, hv0, _⟩ := tn hX0
    obtain ⟨i, i5, hi⟩ := (vr_0 hv0).2
    have hi : c_kind (h_hi S1 (frI S1 u (vF x)) sl) = nI i := hi
    have k6 := kindOf_ev (d := d + 18) (S := S1) (hi := h_hi S1 (frI S1 u (vF x)) sl)
    rw [hi] at k6
    have walk : ∀ {P T gT Q β D z nn g0 g1 g3 g4 g5 gn Sr} {v : Option Value} {Sf : cS}, XR P T gT Q β F D z nn g0 g1 g3 g4 g5 gn tq (x :: r) S Sr → (∀ lv1, sm_get lv1 0 = some (.ref 61) → sm_get lv1 1 = some (.int (nI 7)) → sm_get lv1 2 = some (.int (nI rn)) → sm_get lv1 3 = some (.int (nI (0 + u))) → sm_get lv1 4 = some (.int (nI sl)) → sm_get lv1 5 = some (.int (nI (β (frI S1 u (vF x))))) → sm_get lv1 6 = some (.int (nI (0 + u))) → Bod (d + 20) 354 140 lv1 [] (wA 95 r.length (nI (vQ x + 4)) Sr) v Sf) → rn < 2 ^ 18 → Ans (d + 21) 354 [.ref 61, .int (nI 7), .int (nI rn), .int (nI u), .int (nI sl)] (wA 95 r.length (nI (vQ x + 4)) Sr) v Sf := fun {P T gT Q β D z nn g0 g1 g3 g4 g5 gn Sr v Sf} hX hB hrn => by
      have hX1 := XR_opd hX hS1 hq (vP x + 3)
      obtain ⟨⟨d1, d2, d3, _⟩, _⟩ := hX.2.2.2.2.1
      have e59 : sI (wA 95 r.length (nI (vQ x + 4)) Sr) 6159 = nI (r.length + 1) := hX.2.2.2.2.2.1.2.1
      have e96 : sA (wA 95 r.length (nI (vQ x + 4)) Sr) 96 (r.length + 1 - 1) = nI (β (vF x)) := by
        show sA Sr 96 r.length = _
        have hf0 : vF x ≠ 0 := f1
        rw [d3, if_neg hf0]
      have hb := hX1.1.b f3
      have hb' : β (vF x) < 1500 := hb
      exact Ans.of (by rw [m354]; exact Nat.le_of_ble_eq_true rfl) (Bod.lv (by rfl) (rNl_1 (d := d + 12) (op := 7) (nm := rn) (dp := u) (sl := sl) (by omega) (by omega) (by omega) (by omega) e59 (by omega) (by omega) e96 (by omega) (fun lv0 p0 p1 p2 p3 p4 p5 p6 => fupL_R (d := d + 12) hty hX1.1 (by omega) (by omega) (by omega) (ni := 0) f2 h0 (by omega) hB lv0 p0 p1 p2 (by rw [Nat.zero_add]; exact p3) p4 p5 p6)))
    have hrn' : ∀ {P T gT Q β D z nn g0 g1 g3 g4 g5 gn Sr}, XR P T gT Q β F D z nn g0 g1 g3 g4 g5 gn tq (x :: r) S Sr → rn < 2 ^ 18 := fun {P T gT Q β D z nn g0 g1 g3 g4 g5 gn Sr} hX => by
      have := (hX.2.1.2.2.2.2 q rn hF).2.1
      obtain ⟨_, _, _, n1, n2, n3, _⟩ := hX.2.2.1
      omega
    by_cases c0 : i = 0
    · refine bad (Ans.of (by rw [m175]; exact Nat.le_of_ble_eq_true rfl) (Bod.lv (by rfl) (mUb_3 (d := d + 11) hr2 hr3' (k1_ge_T u rfl (by omega)) hfu (en1.up (by omega)) (by omega) k6 c0))) (fun P T gT Q β D z nn g0 g1 g3 g4 g5 gn Sr hX h355 => ?_)
      obtain ⟨t, v2, v3, v4, v5, v6, v7, n, m, t0, wr, t2, t3, _⟩ := tn hX
      have t0 : β (frI S1 u (vF x)) < 1500 := t0
      obtain ⟨u1, u2, ⟨NS, u3⟩, u4, _, u6, u7, _, _, y2, _, y4', y5, _, _, y8, _⟩ := wr
      have hrn := hrn' hX
      exact walk hX (fun lv1 q0 q1 q2 q3 q4 q5 q6 => rNlL_4 (d := d + 12) q0 q1 q2 q3 q4 q5 q6 (by omega) (by omega) (by omega) (by omega) (by omega) (by omega) (Nat.le_refl _) t0 u2 u1 (by omega) u3 u4 y2 y8 t2 ((vr_0 t3).1.mp (by have e := hi; rw [c0] at e; exact e)) h355) hrn
    · refine fin b3 b2.2.1.wide (Ans.of (by rw [m175]; exact Nat.le_of_ble_eq_true rfl) (Bod.lv (by rfl) (mUb_1 (d := d + 11) hr2 hr3' (k1_ge_T u rfl (by omega)) hfu (en1.up (by omega)) (by omega) k6 c0 hfu (b1.up (by omega))))) (fun P T gT Q β D' z nn g0 g1 g3 g4 g5 gn Sr hX => ?_)
      obtain ⟨t, v2, v3, v4, v5, v6, v7, n, m, t0, wr, t2, t3, _, t5⟩ := tn hX
      have t0 : β (frI S1 u (vF x)) < 1500 := t0
      obtain ⟨u1, u2, ⟨NS, u3⟩, u4, _, u6, u7, _, _, y2, _, y4', y5, _, _, y8, _⟩ := wr
      have hrn := hrn' hX
      obtain ⟨y, y1, ye, _⟩ := vr_k t3 (fun c' => c0 (nI_j (by omega) (by omega) (hi.symm.trans c')))
      have hXW := t5 (Int32.ofInt (-1)) (sL (wA 95 r.length (nI (vQ x + 4)) Sr) v4 sl) (sL (wA 95 r.length (nI (vQ x + 4)) Sr) v5 sl) (Or.inl ⟨rfl, rfl, rfl⟩)
      have ek : keyW sl v2 v4 v5 (Int32.ofInt (-1)) (sL (wA 95 r.length (nI (vQ x + 4)) Sr) v4 sl) (sL (wA 95 r.length (nI (vQ x + 4)) Sr) v5 sl) (wA 95 r.length (nI (vQ x + 4)) Sr) = wA v2 sl (Int32.ofInt (-1)) (wA 95 r.length (nI (vQ x + 4)) Sr) := by
        unfold keyW
        rw [wL_id (show sL (wA v2 sl (Int32.ofInt (-1)) (wA 95 r.length (nI (vQ x + 4)) Sr)) v4 sl = sL (wA 95 r.length (nI (vQ x + 4)) Sr) v4 sl from rfl), wL_id (show sL (wA v2 sl (Int32.ofInt (-1)) (wA 95 r.length (nI (vQ x + 4)) Sr)) v5 sl = sL (wA 95 r.length (nI (vQ x + 4)) Sr) v5 sl from rfl)]
      rw [ek] at hXW
      exact ⟨_, _, hXW, walk hX (fun lv1 q0 q1 q2 q3 q4 q5 q6 => rNlL_2 (d := d + 12) q0 q1 q2 q3 q4 q5 q6 (by omega) (by omega) (by omega) (by omega) (by omega) (by omega) (Nat.le_refl _) t0 u2 u1 (by omega) u3 u4 y2 y8 t2 ye (by omega) rfl) hrn⟩
end
