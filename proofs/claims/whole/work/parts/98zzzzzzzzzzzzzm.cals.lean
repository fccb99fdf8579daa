/-! CALLS ON BOTH SIDES: functions, methods and what cannot be called (51 | 17) -/
section
variable {P : Nat → Prop} {T : cS} {gT : Nat} {Q : Nat → Prop} {β β' : Nat → Nat} {F : Nat → Nat → Nat → Prop} {loc par : Nat → Nat → Nat} {ty : Nat → Nat × Nat} {G : Nat → Nat → Nat → Nat × Nat × LL → Prop} {D D' K : List Nat} {z nn g0 g1 g3 g4 g5 gn d n m p q p' q' pT k e e1 oc ln a nl t t' r0 se gv f1 t0 u0 i s f fn np st qt j o : Nat} {tq : Nat → Nat × Nat} {C r : List Lv} {x : Lv} {S S' S0 S1 X W Sc Sr : cS} {w : Nat → Int32} {l' : List (Nat × Nat)} {St : (Nat → Prop) → cS → Prop} {ok : List Lv → Prop} {V : Nat → Int32 × Int64 × Int64}
theorem flw_K (hr : Ans (d + 8) 127 [.ref 52] S (some (.int (nI 51))) S0) (hb : Ans (d + 8) 225 [.ref 52] S0 (some (.int (nI 0))) S0) (hr2 : Ans (d + 8) 127 [.ref 52] S0 (some (.int (nI gv))) S1) (hg : gv < 2 ^ 20) (hA : Ans (d + 8) 253 [.ref 52, .int (nI gv)] S1 (some (.int (nI 0))) S') : tnC (d + 8) S S' := fun {tn v Sf} htn hc lv ex q0 q3 q4 q5 =>
  mPfL_9 (d := d) q0 q3 q4 q5 (by omega) htn (by omega) hr (by omega) (by omega) (by omega) rfl hb hg hr2 hA (by decide) (by omega) (fun lv1 p0 p3 p4 p5 => hc lv1 _ p0 p3 p4 p5)
theorem flw_KE (hr : Ans (d + 8) 127 [.ref 52] S (some (.int (nI 51))) S0) (hb : Ans (d + 8) 225 [.ref 52] S0 (some (.int (nI 0))) S0) (hr2 : Ans (d + 8) 127 [.ref 52] S0 (some (.int (nI gv))) S1) (hg : gv < 2 ^ 20) (he : 1 ≤ e ∧ e ≤ 100) (hA : Ans (d + 8) 253 [.ref 52, .int (nI gv)] S1 (some (.int (nI e))) S') : tnE' (d + 8) S S' e := fun {tn v Sf S4 b} htn hb' hA2 hc lv ex q0 q3 q4 q5 => by
  rcases hb' with c | c
  · subst c
    exact mPfL_7 (d := d) q0 q3 q4 q5 (by omega) htn (by omega) hr (by omega) (by omega) (by omega) rfl hb hg hr2 hA (ne_0' he) hA2 (fun lv1 p0 p3 p4 p5 => hc lv1 p0 p3 p4 p5)
  · subst c
    exact mPfL_6 (d := d) q0 q3 q4 q5 (by omega) htn (by omega) hr (by omega) (by omega) (by omega) rfl hb hg hr2 hA (ne_0' he) hA2 (fun lv1 p0 p3 p4 p5 => hc lv1 p0 p3 p4 p5)
theorem hon_c (hX : tpS Sr n m q) (hr : n ≤ 30) (hw : rwS Sr m q (nI 17)) (hw2 : rwS Sr m (q + 1) (nI e1)) (he : e1 < 2 ^ 20) {b : Int32} (hb : b = 0 ∨ b = 1) (hA : Ans (d + 8) 379 [.ref 61, .int (nI e1)] (wA 95 n (nI (q + 2)) Sr) (some (.int b)) W) : ∃ i, rRn (d + 9) i Sr b W := by
  refine rRn_1 (ftR_of hX hr hw (by omega) (by omega)) hb ?_
  have m350 := ml_350
  obtain ⟨t1, t2, t3, t4⟩ := hX
  obtain ⟨a0, N0, zm0, _, _, h3', _, _, _, _, h8'⟩ := hw
  obtain ⟨a, N, zm, h1, h2, h3, h4, h5, h6, h7, h8⟩ := hw2
  have ea : a0 = a := Value.ref.inj (h3'.symm.trans h3)
  subst ea
  have h9 : sA (wA 95 (n + 1 - 1) (nI (q + 2)) Sr) a0 (q + 1) = nI e1 := by
    show (if a0 = 95 then _ else sA Sr a0) (q + 1) = _
    rw [if_neg (by omega)]
    exact h8
  rcases hb with e0 | e0
  · subst e0
    exact Ans.of (by rw [m350]; exact Nat.le_of_ble_eq_true rfl) (Bod.lv (by rfl) (rOn_26 (d := d) t1 (by omega) (by omega) t2 t3 h1 t4 h2 h3 h4 h5 (by omega) h8' (by omega) rfl h7 h9 he hA))
  · subst e0
    exact Ans.of (by rw [m350]; exact Nat.le_of_ble_eq_true rfl) (Bod.lv (by rfl) (rOn_25 (d := d) t1 (by omega) (by omega) t2 t3 h1 t4 h2 h3 h4 h5 (by omega) h8' (by omega) rfl h7 h9 he hA))
/-- a link of an object -/
theorem lkR_o {y : Int32} (h : lkR β (nI a) y) (ha : 1 ≤ a ∧ a ≤ 1500) : y = nI (β a) := by
  rcases h with ⟨c, _⟩ | ⟨k, k1, k2, k3, k4⟩
  · exact absurd (nI_j (i := a) (j := 0) (by omega) (by omega) c) (by omega)
  · have : a = k := nI_j (by omega) (by omega) k3
    subst this
    exact k4
/-- a method of both -/
theorem mth_R (h : CI F loc par ty G tq (x :: r) S) (hX : XR P T gT Q β F D z nn g0 g1 g3 g4 g5 gn tq (x :: r) S Sr) (ho : lv S o) (h7 : sA S 7 o = nI a) (h8 : sA S 8 o = nI e) (ha : lv S a) (he : lv S e) : ∃ t, sQ Sr 86 (β o) = some t ∧ sI Sr (100 * t + 11) = nI (β a) ∧ sI Sr (100 * t + 12) = nI (β e) := by
  obtain ⟨b1, b2, t, v2, v3, v4, v5, v6, v7, n', m', c1, c2, c3, c4, c5, c6, c7, c8, c9⟩ := hX.1.ob ho
  rw [h7] at c7
  rw [h8] at c8
  exact ⟨t, c1.1, lkR_o c7 ⟨ha.1, ha.2.1⟩, lkR_o c8 ⟨he.1, he.2.1⟩⟩
theorem call_S (h : CI F loc par ty G tq (x :: r) S) (hpc : PC w pT S) (hck : clk S) (h5 : sI S 5216 = nI (vP x)) (hp : vP x + 1 < pT) (hw0 : w (vP x) = nI 51) (hw1 : w (vP x + 1) = nI gv) (hx : vL x = ((i, 1) :: l', s)) (hi : vH x = i + 1 + gv) (hFO : FOK F) (hfk : fnOK St F loc G w S) (hex : exX F tq (x :: r) S) (hG : G (vM x) (vP x + 2) (vQ x + 2) (i + 1, vU x, (l', s))) (hkc : c_kind (sL S 47 (vB x + i)) ≠ nI 5) (hnc : ∀ o, lv S o → c_obj (sL S 47 (vB x + i)) (sL S 48 (vB x + i)) = nI o → sA S 3 o ≠ nI 4) (hok : ∀ k m j st qt, G m st qt (0, 0, ([], j + 1)) → w st = nI 1 → ok ((m, vB x + i + 1, k, 0, vT x + vU x, (st, qt), (0, 0, ([], j + 1))) :: vAt x (vP x + 2) (vQ x + 2) (i + 1, vU x, (l', s)) :: r)) (hq : vQ x + 2 < 2 ^ 20) (hr : ∀ P T, St P T → rwT P T (vM x) (vQ x) (nI 17) ∧ rwT P T (vM x) (vQ x + 1) (nI gv)) : stpl St F loc par G tq w pT (d + 21) (x :: r) S ok := by
  have m225 := ml_225
  have m253 := ml_253
  have m379 := ml_379
  have hr30 : r.length ≤ 30 := h.2.2.2.2.2.2.1.2.2.2
  obtain ⟨l1, l2, l3, l4, l5⟩ := CI_len h
  have hT := CI_T h
  have hpT := hpc.2.2
  have hr1 := rd_T (d := d + 19) hpc h5 (by omega)
  rw [hw0] at hr1
  have hr2 := rd_T (d := d + 19) (PC_I (i := 5216) (k := nI (vP x + 1)) hpc (by decide)) (rIe _ _ _) hp
  rw [hw1, wI_wI] at hr2
  obtain ⟨S1, hS1⟩ : ∃ S1, S1 = wI 5216 (nI (vP x + 2)) S := ⟨_, rfl⟩
  have hr2' : Ans (d + 21) 127 [.ref 52] (wI 5216 (nI (vP x + 1)) S) (some (.int (nI gv))) S1 := by rw [hS1]; exact hr2
  have h1 := CI_opd h hS1 (vP x + 2) (vQ x + 2)
  have hp1 : PC w pT S1 := by rw [hS1]; exact PC_I hpc (by decide)
  have hk1 : clk S1 := by rw [hS1]; exact clk_I hck (by decide) (by decide)
  have hF1' : CFw S S1 := by rw [hS1]; exact CFw_I (by decide)
  have h51 : sI S1 5216 = nI (vP x + 2) := by rw [hS1]; exact rIe _ _ _
  have eL : sL S1 = sL S := by rw [hS1]; rfl
  have eA : sA S1 = sA S := by rw [hS1]; rfl
  have elv : ∀ o, lv S1 o ↔ lv S o := fun o => by unfold lv; rw [eA]
  have et : topC (x :: r) = vB x + vH x := rfl
  have e1 : topC (x :: r) - 1 - gv = vB x + i := by omega
  -- the callee
  obtain ⟨o, o1, o2, o3⟩ := h.1.2.2.2.2.1 (vB x + i) (by omega)
  have hkb : ∃ kd, kd ≤ 4 ∧ kd ≠ 4 ∧ c_kind (sL S 47 (vB x + i)) = nI (kd + 1) ∧ ∀ {P T gT Q β D z nn g0 g1 g3 g4 g5 gn Sr}, XR P T gT Q β F D z nn g0 g1 g3 g4 g5 gn tq (x :: r) S Sr → sA Sr 91 (vB x + i + offC (x :: r)) = nI kd ∧ ((o = 0 ∧ kd ≠ 3) ∨ (o ≠ 0 ∧ kd = 3 ∧ sL Sr 92 (vB x + i + offC (x :: r)) = lN (β o))) := by
    have h0 := (h.2.2.1.1.1 i (by omega)).1
    have key : ∀ {P T gT Q β D z nn g0 g1 g3 g4 g5 gn Sr}, XR P T gT Q β F D z nn g0 g1 g3 g4 g5 gn tq (x :: r) S Sr → ∃ kd, kd ≤ 4 ∧ sA Sr 91 (vB x + i + offC (x :: r)) = nI kd ∧ c_kind (sL S 47 (vB x + i)) = nI (kd + 1) ∧ ((o = 0 ∧ kd ≠ 3) ∨ (o ≠ 0 ∧ kd = 3 ∧ sL Sr 92 (vB x + i + offC (x :: r)) = lN (β o))) := fun {P T gT Q β D z nn g0 g1 g3 g4 g5 gn Sr} hX => by
      have hv := hX.2.2.2.1.1 i (by omega)
      obtain ⟨kd, a1, a2, a3⟩ := vr_k hv h0
      refine ⟨kd, a1, a2, a3, ?_⟩
      obtain ⟨o', b1, b2, b3⟩ := vrel_ob hv
      have : o' = o := nI_j (by omega) (by omega) (b2.symm.trans o2)
      subst this
      rcases b3 with ⟨c1, c2⟩ | ⟨c1, c2, c3⟩
      · exact Or.inl ⟨c1, fun c => c2 (by rw [a2, c])⟩
      · exact Or.inr ⟨by omega, nI_j (by omega) (by omega) (a2.symm.trans c2), c3⟩
    obtain ⟨P0, T0, gT0, Q0, β0, D0, z0, nn0, a0, a1, a3, a4, a5, gn0, Sr0, hX0⟩ := hex
    obtain ⟨kd, b1, b2, b3, b4⟩ := key hX0
    refine ⟨kd, b1, fun c => ?_, b3, fun {P T gT Q β D z nn g0 g1 g3 g4 g5 gn Sr} hX => ?_⟩
    · rw [c] at b3
      exact hkc b3
    · obtain ⟨kd', c1, c2, c3, c4⟩ := key hX
      have : kd' = kd := by
        have := nI_j (by omega) (by omega) (c3.symm.trans b3)
        omega
      subst this
      exact ⟨c2, c4⟩
  obtain ⟨kd, k1, k2, k3, kR⟩ := hkb
  have hB : Ans (d + 21) 225 [.ref 52] (wI 5216 (nI (vP x + 1)) S) (some (.int (nI 0))) (wI 5216 (nI (vP x + 1)) S) := by
    have c1 := at_n (d := d + 19) (S := wI 5216 (nI (vP x + 1)) S) (p := pT) (q := vP x + 1) (x := gv) hpc.2.1 hp hpT (by
      have := congrFun hpc.1 (vP x + 1)
      exact this.trans hw1)
    have c2 : Ans (d + 20) 132 [.ref 46, .int (nI gv)] (wI 5216 (nI (vP x + 1)) S) (some (.long (sL S 47 (vB x + i)))) (wI 5216 (nI (vP x + 1)) S) := by
      rw [← e1]
      exact hi_ev (d := d + 18) (S := wI 5216 (nI (vP x + 1)) S) l3 (by omega) (by omega)
    have c3 : Ans (d + 20) 134 [.long (sL S 47 (vB x + i))] (wI 5216 (nI (vP x + 1)) S) (some (.int (nI (kd + 1)))) (wI 5216 (nI (vP x + 1)) S) := by
      rw [← k3]
      exact kindOf_ev (d := d + 19)
    refine Ans.of (by rw [m225]; exact Nat.le_of_ble_eq_true rfl) (Bod.lv (by rfl) (mCb_1 (d := d + 12) ?_ c2 (by omega) c3 (by omega)))
    rw [rIe]
    exact c1
  have hgv : gv < 2 ^ 20 := by omega
  have hO : Ans (d + 20) 136 [.ref 46, .int (nI gv)] S1 (some (.int (nI o))) S1 := object_n (d := d + 17) (t := topC (x :: r)) (by have := (CI_len h1).2.2.1; exact this) (by omega) (by omega) (by rw [eL, e1]; exact o2)
  have hol1 : o = 0 ∨ lv S1 o := by rw [elv]; exact o3
  obtain ⟨kk, hkk⟩ := kind_C (d := d + 9) h1 o1 hol1
  have tC : ∀ {S'}, Ans (d + 21) 253 [.ref 52, .int (nI gv)] S1 (some (.int (nI 0))) S' → tnC (d + 21) S S' := fun hA => flw_K (d := d + 13) hr1 hB hr2' hgv hA
  have tE : ∀ {e S'}, (1 ≤ e ∧ e ≤ 100) → Ans (d + 21) 253 [.ref 52, .int (nI gv)] S1 (some (.int (nI e))) S' → tnE' (d + 21) S S' e := fun he hA => flw_KE (d := d + 13) hr1 hB hr2' hgv he hA
  have go : ∀ {e : Nat} {W : cS}, Bod (d + 20) 253 0 [(0, .ref 52), (1, .int (nI gv))] [] S1 (some (.int (nI e))) W → Ans (d + 21) 253 [.ref 52, .int (nI gv)] S1 (some (.int (nI e))) W := fun hb => Ans.of (by rw [m253]; exact Nat.le_of_ble_eq_true rfl) (Bod.lv (by rfl) hb)
  -- the reference's side
  have refX : ∀ {P T gT Q β D z nn g0 g1 g3 g4 g5 gn Sr}, XR P T gT Q β F D z nn g0 g1 g3 g4 g5 gn tq (x :: r) S Sr → XR P T gT Q β F D z nn g0 g1 g3 g4 g5 gn tq (vAt x (vP x + 2) (vQ x + 2) (vS x) :: r) S1 (wA 95 r.length (nI (vQ x + 2)) Sr) := fun {P T gT Q β D z nn g0 g1 g3 g4 g5 gn Sr} hX => XR_opd hX hS1 hq (vP x + 2)
  have hon : ∀ {P T gT Q β D z nn g0 g1 g3 g4 g5 gn Sr} {b : Int32} {W : cS}, St P T → XR P T gT Q β F D z nn g0 g1 g3 g4 g5 gn tq (x :: r) S Sr → (b = 0 ∨ b = 1) → Bod (d + 20) 379 0 [(0, .ref 61), (1, .int (nI gv))] [] (wA 95 r.length (nI (vQ x + 2)) Sr) (some (.int b)) W → ∃ i, rRn (d + 22) i Sr b W := fun {P T gT Q β D z nn g0 g1 g3 g4 g5 gn Sr b W} hS hX hb hA => by
    obtain ⟨q1, q2⟩ := hr P T hS
    have hA' : Ans (d + 21) 379 [.ref 61, .int (nI gv)] (wA 95 r.length (nI (vQ x + 2)) Sr) (some (.int b)) W := Ans.of (by rw [m379]; exact Nat.le_of_ble_eq_true rfl) (Bod.lv (by rfl) hA)
    exact hon_c (d := d + 13) (XR_top hX) hr30 (rw_of hX q1) (rw_of hX q2) hgv hb hA'
  have i1 : topC (x :: r) + offC (x :: r) - 1 - gv = vB x + i + offC (x :: r) := by omega
  have e95 : ∀ (Sr : cS) a, a ≠ 95 → sA (wA 95 r.length (nI (vQ x + 2)) Sr) a = sA Sr a := fun Sr a ha => if_neg ha
  -- what cannot be called
  have bad : ∀ (hC : Bod (d + 20) 253 0 [(0, .ref 52), (1, .int (nI gv))] [] S1 (some (.int (nI 2))) S1), (∀ {P T gT Q β D z nn g0 g1 g3 g4 g5 gn Sr}, XR P T gT Q β F D z nn g0 g1 g3 g4 g5 gn tq (x :: r) S Sr → Bod (d + 20) 379 0 [(0, .ref 61), (1, .int (nI gv))] [] (wA 95 r.length (nI (vQ x + 2)) Sr) (some (.int 0)) (wI 6164 (nI 2) (wA 95 r.length (nI (vQ x + 2)) Sr))) → stpl St F loc par G tq w pT (d + 21) (x :: r) S ok := fun hC hR => by
    refine Or.inr ⟨2, ty, _, r, S1, by omega, tE (by omega) (go hC), h1, ⟨hp1, hk1, hF1'⟩, fun P T gT Q β D z nn g0 g1 g3 g4 g5 gn Sr hS hX => ?_⟩
    exact ⟨Q, β, D, nn, g0, g1, g3, g4, g5, gn, _, hon hS hX (Or.inl rfl) (hR hX), rIe _ _ _, XRe_I (XR_XRe (refX hX) (CI_lob h1)) (Or.inl rfl)⟩
  have b4 : vH x ≤ 600 := l5
  by_cases c3 : kd = 3
  · have o0 : o ≠ 0 := fun c => by
      obtain ⟨P0, T0, gT0, Q0, β0, D0, z0, nn0, a0, a1, a3, a4, a5, gn0, Sr0, hX0⟩ := hex
      rcases (kR hX0).2 with ⟨_, c2⟩ | ⟨c1, _⟩
      · exact c2 c3
      · exact c1 c
    have hlo : lv S o := o3.resolve_left o0
    have hlo1 : lv S1 o := (elv o).mpr hlo
    -- the thing on the reference's side
    have thg : ∀ {P T gT Q β D z nn g0 g1 g3 g4 g5 gn Sr}, XR P T gT Q β F D z nn g0 g1 g3 g4 g5 gn tq (x :: r) S Sr → β o < 1500 ∧ sA (wA 95 r.length (nI (vQ x + 2)) Sr) 91 (topC (x :: r) + offC (x :: r) - 1 - gv) = nI 3 ∧ sL (wA 95 r.length (nI (vQ x + 2)) Sr) 92 (topC (x :: r) + offC (x :: r) - 1 - gv) = lN (β o) ∧ ∃ t, 108 ≤ t ∧ sQ (wA 95 r.length (nI (vQ x + 2)) Sr) 86 (β o) = some t ∧ Ans (d + 20) 361 [.ref 61, .int (nI (topC (x :: r) + offC (x :: r) - 1 - gv))] (wA 95 r.length (nI (vQ x + 2)) Sr) (some (.ref t)) (wA 95 r.length (nI (vQ x + 2)) Sr) ∧ (∃ N, (sS (wA 95 r.length (nI (vQ x + 2)) Sr))[t - 108]? = some (13, N)) ∧ sI (wA 95 r.length (nI (vQ x + 2)) Sr) (100 * t + 0) = nI (h_kd S1 o) ∧ sI (wA 95 r.length (nI (vQ x + 2)) Sr) 6151 = nI (topC (x :: r) + offC (x :: r)) := fun {P T gT Q β D z nn g0 g1 g3 g4 g5 gn Sr} hX => by
      have hX1 := refX hX
      obtain ⟨t, v2, v3, v4, v5, v6, v7, n, m, p1, p2, p3, p4, p5, p6, p7, p8, p9, p10, _⟩ := XR_o h1 hX1 hlo1
      obtain ⟨k1', k2'⟩ := kR hX
      have k92 : sL Sr 92 (vB x + i + offC (x :: r)) = lN (β o) := by
        rcases k2' with ⟨c1, _⟩ | ⟨_, _, c⟩
        · exact absurd c1 o0
        · exact c
      rw [c3] at k1'
      have a91 : sA (wA 95 r.length (nI (vQ x + 2)) Sr) 91 (topC (x :: r) + offC (x :: r) - 1 - gv) = nI 3 := by rw [i1, e95 Sr 91 (by decide)]; exact k1'
      have a92 : sL (wA 95 r.length (nI (vQ x + 2)) Sr) 92 (topC (x :: r) + offC (x :: r) - 1 - gv) = lN (β o) := by rw [i1]; exact k92
      refine ⟨p1, a91, a92, t, p4, p2, tha_T (d := d + 11) (by omega) a91 a92 p1 p2 p3, p5, ?_, ?_⟩
      · rw [p10, kd_ofi h1 hlo1 rfl]
      · have e := XR_51 hX1
        exact e
    have lnn : ∃ ln, ln < 2 ^ 20 ∧ sI S1 5217 = nI ln := by
      obtain ⟨P0, T0, gT0, Q0, β0, D0, z0, nn0, a0, a1, a3, a4, a5, gn0, Sr0, hX0⟩ := hex
      obtain ⟨e, q1, q2, _⟩ := hX0.2.2.2.2.2.2.2.1.2
      exact ⟨e, q1, by rw [hS1, rI, if_neg (by decide)]; exact q2⟩
    have hka : ∀ n, n < gv → c_kind (sL S1 47 (vB x + i + 1 + n)) ≠ nI 5 := fun n hn => by
      have hl : lob (vL x) = i + 1 := by rw [hx]; rfl
      have := CI_n5 h (i := gv - 1 - n) (by omega)
      have e : topC (x :: r) - 1 - (gv - 1 - n) = vB x + i + 1 + n := by omega
      rw [e] at this
      rw [eL]
      exact this
    have hfk1 : fnOK St F loc G w S1 := by unfold fnOK; rw [eA]; exact hfk
    -- a function and what it is bound to
    have run : ∀ fn se, lv S1 fn → sA S1 3 fn = nI 3 → (se = 0 ∨ (lv S1 se ∧ sA S1 3 se = nI 5)) → (∀ {e S'}, Ans (d + 20) 254 [.ref 52, .int (nI fn), .int (nI gv), .int (nI se), .int (nI 0)] S1 (some (.int (nI e))) S' → Bod (d + 20) 253 0 [(0, .ref 52), (1, .int (nI gv))] [] S1 (some (.int (nI e))) S') → (∀ {P T gT Q β D z nn g0 g1 g3 g4 g5 gn Sr} {b : Nat} {W : cS}, XR P T gT Q β F D z nn g0 g1 g3 g4 g5 gn tq (x :: r) S Sr → b = 0 ∨ b = 1 → Ans (d + 18) 396 [.ref 61, .int (nI (β fn)), .int (nI (vB x + i + offC (x :: r))), .int (nI gv), .int (ioV β se), .int (nI 0)] (wA 95 r.length (nI (vQ x + 2)) Sr) (some (.int (nI b))) W → Bod (d + 20) 379 0 [(0, .ref 61), (1, .int (nI gv))] [] (wA 95 r.length (nI (vQ x + 2)) Sr) (some (.int (nI b))) W) → stpl St F loc par G tq w pT (d + 21) (x :: r) S ok := fun fn se hfn hf3 hse hC hR => by
      rcases call_B (d := d + 6) (St := St) (w := w) h1 hx hi hfn hf3 hFO hfk1 hse hG (by rw [eL]; exact hkc) hka h51 (show vP x + 2 < 2 ^ 20 by omega) lnn with ⟨e, he, hA, hRf⟩ | ⟨k, m, j, st, qt, S', ty', hA, hCI, hGn, hw, h5', hF', hI', hRf⟩
      · refine Or.inr ⟨e, ty, _, r, S1, he, tE he (go (hC hA)), h1, ⟨hp1, hk1, hF1'⟩, fun P T gT Q β D z nn g0 g1 g3 g4 g5 gn Sr hS hX => ?_⟩
        obtain ⟨D', W, q1, q2, q3⟩ := hRf P T gT Q β D z nn g0 g1 g3 g4 g5 gn _ hS (refX hX)
        exact ⟨Q, β, D', nn, g0, g1, g3, g4, g5, gn, W, hon hS hX (Or.inl rfl) (hR hX (Or.inl rfl) q1), q2, q3⟩
      · have hpc' : PC w pT S' := ⟨(hF'.2.2.2.1 24 (by decide)).trans hp1.1, (hF'.2.2.1 2307 (by decide)).trans hp1.2.1, hp1.2.2⟩
        have hck' : clk S' := by
          obtain ⟨s', f', a1, a2, a3⟩ := hk1
          exact ⟨s', f', (hI' 5218 (by decide)).trans a1, (hI' 5219 (by decide)).trans a2, a3⟩
        refine Or.inl ⟨ty', tq, (m, vB x + i + 1, k, 0, vT x + vU x, (st, qt), (0, 0, ([], j + 1))) :: vAt (vAt x (vP x + 2) (vQ x + 2) (vS x)) (vP x + 2) (vQ x + 2) (i + 1, vU x, (l', s)) :: r, S', hok k m j st qt hGn hw, tC (go (hC hA)), hCI, ⟨h5', hpc', hck', hF1'.trans hF'⟩, fun P T gT Q β D z nn g0 g1 g3 g4 g5 gn Sr hS hX => ?_⟩
        obtain ⟨β', D', W, q1, q2⟩ := hRf P T gT Q β D z nn g0 g1 g3 g4 g5 gn _ hS (refX hX)
        exact ⟨Q, β', D', nn, g0, g1, g3, g4, g5, gn, W, hon hS hX (Or.inr rfl) (hR hX (Or.inr rfl) q1), Or.inr ⟨⟨List.cons_ne_nil _ _, hw⟩, q2⟩⟩
    by_cases c4 : h_kd S1 o = 3
    · refine run o 0 hlo1 (kd_ofi h1 hlo1 c4) (Or.inl rfl) (fun {e S'} hA => mCl_1 (d := d + 12) hgv (by omega) hO (by omega) hkk c4 hA) (fun {P T gT Q β D z nn g0 g1 g3 g4 g5 gn Sr b W} hX hb hA => ?_)
      obtain ⟨p1, p2, p3, t, p4, p5, p6, ⟨N, p7⟩, p8, p9⟩ := thg hX
      rw [c4] at p8
      have e32 : (sL (wA 95 r.length (nI (vQ x + 2)) Sr) 92 (topC (x :: r) + offC (x :: r) - 1 - gv)).toInt32 = nI (β o) := by rw [p3]; exact lN_i _
      have e0 : ioV β 0 = Int32.ofInt (-1) := rfl
      rw [e0, ← i1] at hA
      rcases hb with c | c
      · subst c
        exact rCl_2 (d := d + 12) hgv p9 (by omega) (by omega) (by omega) p2 (by omega) (by omega) rfl p4 p6 p7 p8 (by omega) rfl e32 p1 (hA.up (by omega))
      · subst c
        exact rCl_1 (d := d + 12) hgv p9 (by omega) (by omega) (by omega) p2 (by omega) (by omega) rfl p4 p6 p7 p8 (by omega) rfl e32 p1 (hA.up (by omega))
    · by_cases c6 : h_kd S1 o = 6
      · obtain ⟨a, b, f7, hla, ka, f8, hlb, kb⟩ := (h1.2.2.2.1 o hlo1).1.2.2.2.2.1 (kd_ofi h1 hlo1 c6)
        have b0 : b ≠ 0 := by have := hlb.1; omega
        have a1500 := hla.2.1
        have b1500 := hlb.2.1
        refine run a b hla ka (Or.inr ⟨hlb, kb⟩) (fun {e S'} hA => ?_) (fun {P T gT Q β D z nn g0 g1 g3 g4 g5 gn Sr bb W} hX hb hA => ?_)
        · have f1 := firstAt_T (d := d + 18) (S := S1) hlo1.1 hlo1.2.1
          rw [f7] at f1
          have f2 := secondAt_T (d := d + 18) (S := S1) hlo1.1 hlo1.2.1
          rw [f8] at f2
          exact mCl_3 (d := d + 12) hgv (by omega) hO (by omega) hkk c6 f1 (by omega) f2 hA
        · obtain ⟨p1, p2, p3, t, p4, p5, p6, ⟨N, p7⟩, p8, p9⟩ := thg hX
          rw [c6] at p8
          have hX1 := refX hX
          obtain ⟨t', u1, u2, u3⟩ := mth_R h1 hX1 hlo1 f7 f8 hla hlb
          have : t' = t := Option.some.inj (u1.symm.trans p5)
          subst this
          have e0 : ioV β b = nI (β b) := if_neg b0
          have ba := hX1.1.b hla
          have bb' := hX1.1.b hlb
          rw [e0, ← i1] at hA
          rcases hb with c | c
          · subst c
            exact rCl_6 (d := d + 12) hgv p9 (by omega) (by omega) (by omega) p2 (by omega) (by omega) rfl p4 p6 p7 p8 (by omega) rfl u2 (by omega) u3 (by omega) (hA.up (by omega))
          · subst c
            exact rCl_5 (d := d + 12) hgv p9 (by omega) (by omega) (by omega) p2 (by omega) (by omega) rfl p4 p6 p7 p8 (by omega) rfl u2 (by omega) u3 (by omega) (hA.up (by omega))
      · have c5 : h_kd S1 o ≠ 4 := fun c => hnc o hlo o2 (by rw [← eA]; exact kd_ofi h1 hlo1 c)
        refine bad (mCl_4 (d := d + 12) hgv (by omega) hO (by omega) hkk (by omega) c4 c5 c6) (fun {P T gT Q β D z nn g0 g1 g3 g4 g5 gn Sr} hX => ?_)
        obtain ⟨p1, p2, p3, t, p4, p5, p6, ⟨N, p7⟩, p8, p9⟩ := thg hX
        exact rCl_13 (d := d + 12) hgv p9 (by omega) (by omega) (by omega) p2 (by omega) (by omega) rfl p4 p6 p7 p8 (by omega) (by omega) c4 c5 c6 (rfail_T (d := d + 11) 2 (by omega) _)
  · have o0 : o = 0 := by
      obtain ⟨P0, T0, gT0, Q0, β0, D0, z0, nn0, a0, a1, a3, a4, a5, gn0, Sr0, hX0⟩ := hex
      rcases (kR hX0).2 with ⟨c1, _⟩ | ⟨_, c2, _⟩
      · exact c1
      · exact absurd c2 c3
    have hz : h_kd S1 o = 0 := by
      have z0 := CI_z0 h1
      unfold h_kd
      rw [o0, z0]
      rfl
    refine bad (mCl_4 (d := d + 12) hgv (by omega) hO (by omega) hkk (by omega) (by omega) (by omega) (by omega)) (fun {P T gT Q β D z nn g0 g1 g3 g4 g5 gn Sr} hX => ?_)
    have hX1 := refX hX
    have p9 : sI (wA 95 r.length (nI (vQ x + 2)) Sr) 6151 = nI (topC (x :: r) + offC (x :: r)) := by
      have e := XR_51 hX1
      exact e
    have a91 : sA (wA 95 r.length (nI (vQ x + 2)) Sr) 91 (topC (x :: r) + offC (x :: r) - 1 - gv) = nI kd := by rw [i1, e95 Sr 91 (by decide)]; exact (kR hX).1
    exact rCl_14 (d := d + 12) hgv p9 (by omega) (by omega) (by omega) a91 (by omega) k2 c3 (rfail_T (d := d + 11) 2 (by omega) _)
end
