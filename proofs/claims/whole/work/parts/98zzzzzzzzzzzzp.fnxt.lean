/-! FLOW ON BOTH SIDES: a loop's next item (10 | 32) -/
section
variable {P : Nat → Prop} {T : cS} {gT : Nat} {Q : Nat → Prop} {β β' : Nat → Nat} {F : Nat → Nat → Nat → Prop} {loc par : Nat → Nat → Nat} {ty : Nat → Nat × Nat} {G : Nat → Nat → Nat → Nat × Nat × LL → Prop} {D D' K : List Nat} {z nn g0 g1 g3 g4 g5 gn d n m p q pT k e y o pe qe s : Nat} {l' : List (Nat × Nat)} {tq : Nat → Nat × Nat} {C r : List Lv} {x : Lv} {S S' S1 X W Sc Sr : cS} {w : Nat → Int32} {St : (Nat → Prop) → cS → Prop} {ok : List Lv → Prop} {kd : Int32} {hi lo a b : Int64}
theorem lN_s1 {i : Nat} : lN i + 1 = lN (i + 1) := by
  unfold lN
  exact (Int64.ofNat_add i 1).symm
theorem lN_ltN {a b : Nat} (ha : a < 2 ^ 63) (hb : b < 2 ^ 63) : lN a < lN b ↔ a < b := by
  rw [Int64.lt_iff_toInt_lt, lN_t ha, lN_t hb]
  omega
theorem CFr_48 {p : Nat} {u : Int64} : CFr S (wL 48 p u S) := ⟨rfl, rfl, fun _ _ => rfl, fun _ _ => rfl, fun a _ hn => if_neg (fun c => hn (by rw [c]; decide)), fun a _ _ _ => if_neg (by omega), fun _ _ => rfl, ⟨[], (List.append_nil _).symm⟩, fun _ _ _ h => Or.inl h, Nat.le_refl _, Nat.le_refl _⟩
theorem fornext_S (h : CI F loc par ty G tq (x :: r) S) (hpc : PC w pT S) (hck : clk S) (h5 : sI S 5216 = nI (vP x)) (hp : vP x + 1 < pT) (hw0 : w (vP x) = nI 10) (hw1 : w (vP x + 1) = nI pe) (hx : vL x = ((y, 2) :: l', s)) (hH : vH x = y + 2) (h6 : vH x + 1 ≤ 600) (hq : vQ x + 2 < 2 ^ 20) (hqe : qe < 2 ^ 20) (hr : ∀ P T, St P T → rwT P T (vM x) (vQ x) (nI 32) ∧ ∃ e, rwT P T (vM x) (vQ x + 1) e ∧ nI (vQ x + 1) + e = nI qe) (hok1 : ok (vAt x pe qe (vS x) :: r)) (hok2 : ok (vAt x (vP x + 2) (vQ x + 2) (vH x + 1, vU x, vL x) :: r)) : stp St F loc par G tq w pT (d + 21) (x :: r) S ok := by
  have m128 := ml_128
  have m154 := ml_154
  have m350 := ml_350
  have hr30 : r.length ≤ 30 := h.2.2.2.2.2.2.1.2.2.2
  obtain ⟨l1, l2, l3, l4, l5⟩ := CI_len h
  have hT := CI_T h
  have hr1 := rd_T (d := d + 19) hpc h5 (by omega)
  rw [hw0] at hr1
  have hr2 := rd_T (d := d + 18) (PC_I (i := 5216) (k := nI (vP x + 1)) hpc (by decide)) (rIe _ _ _) hp
  rw [hw1, wI_wI] at hr2
  obtain ⟨S1, hS1⟩ : ∃ S1, S1 = wI 5216 (nI (vP x + 2)) S := ⟨_, rfl⟩
  have hr2' : Ans (d + 20) 127 [.ref 52] (wI 5216 (nI (vP x + 1)) S) (some (.int (nI pe))) S1 := by rw [hS1]; exact hr2
  have h1 : CI F loc par ty G tq (vAt x (vP x + 2) (vQ x + 2) (vS x) :: r) S1 := by rw [hS1]; exact CI_pl (CI_at h _ _)
  have h1e : CI F loc par ty G tq (vAt x pe qe (vS x) :: r) S1 := by rw [hS1]; exact CI_pl (CI_at h _ _)
  have hp1 : PC w pT S1 := by rw [hS1]; exact PC_I hpc (by decide)
  have hk1 : clk S1 := by rw [hS1]; exact clk_I hck (by decide) (by decide)
  have hF1 : CFw S S1 := by rw [hS1]; exact CFw_I (by decide)
  have h51 : sI S1 5216 = nI (vP x + 2) := by rw [hS1]; exact rIe _ _ _
  have esL : sL S1 = sL S := by rw [hS1]; rfl
  have esA : sA S1 = sA S := by rw [hS1]; rfl
  have hXX : ∀ {P T gT Q β D z nn g0 g1 g3 g4 g5 gn Sr}, XR P T gT Q β F D z nn g0 g1 g3 g4 g5 gn tq (x :: r) S Sr → XR P T gT Q β F D z nn g0 g1 g3 g4 g5 gn tq (vAt x (vP x + 2) (vQ x + 2) (vS x) :: r) S1 (wA 95 r.length (nI (vQ x + 2)) Sr) := fun {P T gT Q β D z nn g0 g1 g3 g4 g5 gn Sr} hX => by rw [hS1]; exact XR_pl (XR_at hX hq (vP x + 2))
  have hXe : ∀ {P T gT Q β D z nn g0 g1 g3 g4 g5 gn Sr}, XR P T gT Q β F D z nn g0 g1 g3 g4 g5 gn tq (x :: r) S Sr → XR P T gT Q β F D z nn g0 g1 g3 g4 g5 gn tq (vAt x pe qe (vS x) :: r) (wI 5216 (nI pe) S1) (wA 95 r.length (nI qe) Sr) := fun {P T gT Q β D z nn g0 g1 g3 g4 g5 gn Sr} hX => by rw [hS1]; exact XR_pl (XR_pl (XR_at hX hqe pe))
  have hmem : (y, 2) ∈ (vL x).1 := by rw [hx]; exact List.mem_cons_self
  obtain ⟨⟨o, o1, o2, o3, o4⟩, i, i1, i2, i3⟩ := h.2.2.1.1.2 y hmem
  have e0 : vB x + (y + 1) = topC (x :: r) - 1 - 0 := by omega
  have e1 : vB x + y = topC (x :: r) - 1 - 1 := by omega
  rw [e0] at i2 i3
  rw [e1] at o3 o4
  have k1 : h_kd S o = 1 := kd_of o2 (by omega)
  have hlo1 : lv S1 o := by unfold lv; rw [esA]; exact o1
  have kS1 : h_kd S1 o = 1 := by unfold h_kd; rw [esA]; exact k1
  have hob := obk_C (d := d) (nv := 1) (kd := 1) (o := o) h1 (by show 1 < vH x; omega) (by omega) (by omega) o1.2.1 (by
    show c_obj (sL S1 47 (topC (x :: r) - 1 - 1)) (sL S1 48 (topC (x :: r) - 1 - 1)) = nI o
    rw [esL, o3, o4]
    exact (ob_obj o1.2.1).1) (Or.inr hlo1)
  rw [if_pos kS1] at hob
  obtain ⟨_, _, l3', _, _⟩ := CI_len h1
  have l3'' : sI S1 4603 = nI (topC (x :: r)) := l3'
  have wv := lo_ev (d := d + 12) (S := S1) (b := 0) l3'' (by omega) (by omega)
  rw [esL, i3] at wv
  have hok1' := mHS_ok h1.1 o hlo1.1 hlo1.2.1
  have hsz := sz_C (d := d + 12) hlo1 hok1' (Or.inl kS1)
  have hn3 := h_n_le hok1'
  have w3 : sm_c1 .lt (lg_cmp (lN i) 0) true false = false := lg_lt.2 (fun c => by
    have := (lN_ltN (a := i) (b := 0) (by omega) (by omega)).mp c
    omega)
  have hn0 : h_n S o = h_n S1 o := by unfold h_n h_kd h_z; rw [esA]
  have tt : 2 ≤ topC (x :: r) + offC (x :: r) := by omega
  by_cases c : i < h_n S1 o
  · -- an item more
    have w6 : sm_c1 .lt (lg_cmp (lN i) ((nI (h_n S1 o)).toInt64)) true false = true := by
      rw [nI_ll (by omega)]
      exact lg_lt.1 ((lN_ltN (by omega) (by omega)).mpr c)
    have e47 : sL S1 47 (topC (x :: r) - 1 - 0) = 2305843009213693952 := by rw [esL]; exact i2
    have sl := setLo_ev (d := d + 12) (S := S1) (b := 0) (x := lN (i + 1)) l3'' (by omega) (by omega)
    have h4 := CI_lo (p := topC (x :: r) - 1 - 0) (i := i + 1) h1 (by show vB x ≤ _; omega) e47 (by omega)
    obtain ⟨S4, hS4⟩ : ∃ S4, S4 = wL 48 (topC (x :: r) - 1 - 0) (lN (i + 1)) S1 := ⟨_, rfl⟩
    rw [← hS4] at sl h4
    have esA4 : sA S4 = sA S1 := by rw [hS4]; rfl
    have hl4 : lv S4 o := by unfold lv; rw [esA4]; exact hlo1
    have hk4 : h_kd S4 o = 1 := by unfold h_kd; rw [esA4]; exact kS1
    have hn4 : h_n S4 o = h_n S1 o := by unfold h_n h_kd h_z; rw [esA4]
    have hok4 := mHS_ok h4.1 o hl4.1 hl4.2.1
    obtain ⟨en1, en2⟩ := ent_C (d := d + 12) (i := i) hl4 hok4 (by omega)
    have hvl := (h4.2.2.2.1 o hl4).2.1 i (by omega)
    have hk7 : sA S4 3 o ≠ nI 7 := fun c7 => by
      have := kd_of c7 (by omega)
      omega
    obtain ⟨ov, ov1, ov2, ov3⟩ := ent_o (i := i) hok4 (mHS_cl h4.1) hl4 (by omega)
    obtain ⟨S', b1, b2, b3, b4, b5, b6⟩ := mpush_T (d := d) (hi := h_hi S4 o i) (lo := h_lo S4 o i) h4.1 (by show topC (x :: r) < 20480; omega) ov2 ov1 ov3 (Or.inl rfl) (fun k => by have := gC_le (C := vAt x (vP x + 2) (vQ x + 2) (vS x) :: r) k; rw [List.length_cons] at this; omega)
    have hC := CI_give h4 (v := 0) b3 (by omega) b2 b4 b5 (by have := CI_lob h; show lob (vL x) + 0 ≤ vH x; omega) (by show vH x - 0 + 1 ≤ 600; omega) ⟨hvl.2 hk7, hvl.1⟩ (vP x + 2) (vQ x + 2)
    have hC1 : CI F loc par ty G tq (vAt x (vP x + 2) (vQ x + 2) (vH x + 1, vU x, vL x) :: r) S' := hC
    have hFr : CFr S4 S' := CFr_KX b3
    have hF4 : CFr S1 S4 := by rw [hS4]; exact CFr_48
    have ti : (lN i).toInt32 = nI i := lN_i i
    rw [← ti] at en1 en2
    have hb0 := mNi_2 (d := d + 11) (ex := nI pe) (hob.up (by omega)) (wv.up (by omega)) w3 (by omega) (hsz.up (by omega)) w6 (by rw [lN_s1]; exact sl.up (by omega)) (en1.up (by omega)) (en2.up (by omega)) (b1.up (by omega))
    have ha : Ans (d + 20) 154 [.ref 52, .int (nI pe)] S1 (some (.int (nI 0))) S' := Ans.of (by rw [m154]; exact Nat.le_of_ble_eq_true rfl) (Bod.lv (by rfl) hb0)
    have hb : Ans (d + 21) 128 [.ref 52, .int (nI 10)] (wI 5216 (nI (vP x + 1)) S) (some (.int (nI 0))) S' := Ans.of (by rw [m128]; exact Nat.le_of_ble_eq_true rfl) (Bod.lv (by rfl) (mFw10_1 (d := d + 12) (hr2'.up (by omega)) (ha.up (by omega))))
    have ht : tnC (d + 21) S S' := by
      have ho : 1 ≤ 10 ∧ 10 ≤ 15 := by omega
      intro tn v Sf
      exact flw_C (d := d + 13) (S1 := wI 5216 (nI (vP x + 1)) S) hr1 ho hb
    refine Or.inl ⟨ty, tq, _, S', hok2, ht, hC1, ⟨(hFr.2.2.1 5216 (by decide)).trans ((hF4.2.2.1 5216 (by decide)).trans h51), PC_r (PC_r hp1 hF4) hFr, clk_r (clk_r hk1 hF4) hFr, (hF1.trans hF4.w).trans hFr.w⟩, fun P T gT Q β D z nn g0 g1 g3 g4 g5 gn Sr hS hX => ?_⟩
    obtain ⟨hw, e, hw2, he⟩ := hr P T hS
    obtain ⟨t1, t2, t3, t4⟩ := XR_top hX
    obtain ⟨a, N, zm, q1, q2, q3, q4, qN, q6, q7, q8, q9, q10, q11⟩ := rw_two hX hw hw2
    have hX1 := hXX hX
    have hX4 := XR_lo (u := lN (i + 1)) (j := y + 1) (p := topC (x :: r) - 1 - 0) h1 hX1 (by show y + 1 < vH x; omega) (by show _ = vB x + (y + 1); omega) e47
    rw [← hS4] at hX4
    have v0 := (vr_int (XR_v hX (i := 0) (by omega))).2 (by rw [i2]; decide)
    rw [i3] at v0
    have e92 : sL Sr 92 (topC (x :: r) + offC (x :: r) - 1) = lN i := v0.2
    obtain ⟨SS, hSS⟩ : ∃ SS, SS = wL 92 (topC (x :: r) + offC (x :: r) - 1) (lN (i + 1)) (wA 95 r.length (nI (vQ x + 2)) Sr) := ⟨_, rfl⟩
    have hX4' : XR P T gT Q β F D z nn g0 g1 g3 g4 g5 gn tq (vAt x (vP x + 2) (vQ x + 2) (vS x) :: r) S4 SS := by
      rw [hSS, show topC (x :: r) + offC (x :: r) - 1 = topC (x :: r) - 1 - 0 + offC (x :: r) by omega]
      exact hX4
    have hSS' : wL 92 (topC (x :: r) + offC (x :: r) - 1) (sL (wA 95 r.length (nI (vQ x + 2)) Sr) 92 (topC (x :: r) + offC (x :: r) - 1) + 1) (wA 95 r.length (nI (vQ x + 2)) Sr) = SS := by
      rw [hSS]
      congr 1
      show sL Sr 92 (topC (x :: r) + offC (x :: r) - 1) + 1 = _
      rw [e92, lN_s1]
    have es1 : sS SS = sS Sr := by rw [hSS]; rfl
    have es2 : sV SS = sV Sr := by rw [hSS]; rfl
    have es3 : sI SS = sI Sr := by rw [hSS]; rfl
    have es4 : sQ SS = sQ Sr := by rw [hSS]; rfl
    obtain ⟨tt', v2, v3, v4, v5, v6, v7, n, m, bt, tt1, tt2, t108, ⟨NS, tS⟩, wr, wd, wl, wj, f0, f1, fn, fv, _, h87⟩ := XR_o h4 hX4' hl4
    obtain ⟨tt3, _, _, _, _, _, _, _, _, _, tt4, tt5, _⟩ := XR_o h hX o1
    have et : tt' = tt3 := by
      rw [es4, tt4] at tt1
      injection tt1 with tt1
      exact tt1.symm
    have j2 := ((XR_isK (d := d + 12) (ob_ := 1) h hX (by omega) (by rw [o3, o4]; exact (ob_obj o1.2.1).1) (Or.inr o1) o1.2.1).2 1 (by omega) k1).2.2 tt3 tt4 tt5
    rw [← et, show topC (x :: r) + offC (x :: r) - 1 - 1 = topC (x :: r) + offC (x :: r) - 2 by omega] at j2
    obtain ⟨w1, w2, _, w4, w5, w6, w7, w8, w9, k2, k3, k4, k5, k6, k7, hn', hm', _⟩ := wr
    rw [hn4] at f1 fn
    rw [es3] at f1
    rw [es1] at tS
    rw [es2] at w4 w6 w7
    have hvi := fv i (by omega)
    obtain ⟨ek, ek4, ekd, _⟩ := vr_k hvi (hvl.2 hk7)
    have e51 : sI SS 6151 = nI (topC (x :: r) + offC (x :: r)) := by rw [es3]; exact XR_51 hX
    have hpi := rpush_T (d := d + 12) (t := topC (x :: r) + offC (x :: r)) (kd := nI ek) (xa := sL SS v4 i) (xb := sL SS v5 i) (S := SS) e51 (by omega)
    have hpw : wI 6151 (nI (topC (x :: r) + offC (x :: r) + 1)) (wL 93 (topC (x :: r) + offC (x :: r)) (sL SS v5 i) (wL 92 (topC (x :: r) + offC (x :: r)) (sL SS v4 i) (wA 91 (topC (x :: r) + offC (x :: r)) (nI ek) SS))) = pshW (topC (x :: r) + offC (x :: r)) (nI ek) (sL SS v4 i) (sL SS v5 i) SS := by
      unfold pshW
      rw [wI_id e51]
    rw [hpw] at hpi
    obtain ⟨p1, p2, p3, p4, p5⟩ := pshW_s (tp := topC (x :: r) + offC (x :: r)) (kd := nI ek) (xa := sL SS v4 i) (xb := sL SS v5 i) (S := SS)
    have hX2 := XR_give hX4' (mHS_cl h4.1) (mHS_ok h4.1) h4.2.2.2.2.1 b3 (Nat.zero_le _) b4 b5 b6 (tp := topC (x :: r) + offC (x :: r)) (by show _ = topC (x :: r) - 0 + offC (x :: r); omega) p1 p2 (by rw [p3, p4, p5, ← ekd]; exact hvi)
    have hb3 := rOn_28 (d := d + 13) (S := Sr) (S1 := Sr) t1 (by omega) (by omega) t2 t3 q1 t4 q2 q3 q4 qN q7 q8 (by omega) rfl (XR_51 hX) (by omega) tt t108 (j2.up (by omega)) (XR_51 hX) (by omega) (by omega) (o := i) (by rw [e92]; exact ti) (by omega) tS f1 (by omega) c w4 (isK_S es1.symm k2) hn' (by omega) (he1 := by
        show sA (wL 92 (topC (x :: r) + offC (x :: r) - 1) (sL (wA 95 r.length (nI (vQ x + 2)) Sr) 92 (topC (x :: r) + offC (x :: r) - 1) + 1) (wA 95 r.length (nI (vQ x + 2)) Sr)) v2 i = nI ek
        rw [hSS']
        exact ekd) (by omega) w6 (isK_S es1.symm k4) hn' (by omega) w7 (isK_S es1.symm k5) hn' (by omega) (c2 := by
        show Ans (d + 21) 352 [.ref 61, .int (nI ek), .long (sL (wL 92 (topC (x :: r) + offC (x :: r) - 1) (sL (wA 95 r.length (nI (vQ x + 2)) Sr) 92 (topC (x :: r) + offC (x :: r) - 1) + 1) (wA 95 r.length (nI (vQ x + 2)) Sr)) v4 i), .long (sL (wL 92 (topC (x :: r) + offC (x :: r) - 1) (sL (wA 95 r.length (nI (vQ x + 2)) Sr) 92 (topC (x :: r) + offC (x :: r) - 1) + 1) (wA 95 r.length (nI (vQ x + 2)) Sr)) v5 i)] (wL 92 (topC (x :: r) + offC (x :: r) - 1) (sL (wA 95 r.length (nI (vQ x + 2)) Sr) 92 (topC (x :: r) + offC (x :: r) - 1) + 1) (wA 95 r.length (nI (vQ x + 2)) Sr)) none _
        rw [hSS']
        exact hpi)
    exact ⟨Q, β, _, nn, g0, g1, g3, g4, g5, gn, _, rRn_1 (ftR_of (XR_top hX) hr30 (rw_of hX hw) (by omega) (by omega)) (Or.inr rfl) (Ans.of (by rw [m350]; exact Nat.le_of_ble_eq_true rfl) (Bod.lv (by rfl) hb3)), hX2⟩
  · -- no item more
    have w6 : sm_c1 .lt (lg_cmp (lN i) ((nI (h_n S1 o)).toInt64)) true false = false := by
      rw [nI_ll (by omega)]
      exact lg_lt.2 (fun c' => c ((lN_ltN (by omega) (by omega)).mp c'))
    have hb0 := mNi_3 (d := d + 11) (ex := nI pe) (hob.up (by omega)) (wv.up (by omega)) w3 (by omega) (hsz.up (by omega)) w6
    have ha : Ans (d + 20) 154 [.ref 52, .int (nI pe)] S1 (some (.int (nI 0))) (wI 5216 (nI pe) S1) := Ans.of (by rw [m154]; exact Nat.le_of_ble_eq_true rfl) (Bod.lv (by rfl) hb0)
    have hb : Ans (d + 21) 128 [.ref 52, .int (nI 10)] (wI 5216 (nI (vP x + 1)) S) (some (.int (nI 0))) (wI 5216 (nI pe) S1) := Ans.of (by rw [m128]; exact Nat.le_of_ble_eq_true rfl) (Bod.lv (by rfl) (mFw10_1 (d := d + 12) (hr2'.up (by omega)) (ha.up (by omega))))
    have ht : tnC (d + 21) S (wI 5216 (nI pe) S1) := by
      have ho : 1 ≤ 10 ∧ 10 ≤ 15 := by omega
      intro tn v Sf
      exact flw_C (d := d + 13) (S1 := wI 5216 (nI (vP x + 1)) S) hr1 ho hb
    refine Or.inl ⟨ty, tq, _, _, hok1, ht, CI_pl h1e, ⟨rIe _ _ _, PC_I hp1 (by decide), clk_I hk1 (by decide) (by decide), hF1.trans (CFw_I (by decide))⟩, fun P T gT Q β D z nn g0 g1 g3 g4 g5 gn Sr hS hX => ?_⟩
    obtain ⟨hw, e, hw2, he⟩ := hr P T hS
    obtain ⟨t1, t2, t3, t4⟩ := XR_top hX
    obtain ⟨a, N, zm, q1, q2, q3, q4, qN, q6, q7, q8, q9, q10, q11⟩ := rw_two hX hw hw2
    have v0 := (vr_int (XR_v hX (i := 0) (by omega))).2 (by rw [i2]; decide)
    rw [i3] at v0
    have e92 : sL Sr 92 (topC (x :: r) + offC (x :: r) - 1) = lN i := v0.2
    obtain ⟨tt3, v2, v3, v4, v5, v6, v7, n, m, bt, tt4, tt5, t108, ⟨NS, tS⟩, wr, wd, wl, wj, f0, f1, fn, fv, _, h87⟩ := XR_o h hX o1
    have j2 := ((XR_isK (d := d + 12) (ob_ := 1) h hX (by omega) (by rw [o3, o4]; exact (ob_obj o1.2.1).1) (Or.inr o1) o1.2.1).2 1 (by omega) k1).2.2 tt3 tt4 tt5
    rw [show topC (x :: r) + offC (x :: r) - 1 - 1 = topC (x :: r) + offC (x :: r) - 2 by omega] at j2
    have hb3 := rOn_27 (d := d + 13) (S := Sr) (S1 := Sr) t1 (by omega) (by omega) t2 t3 q1 t4 q2 q3 q4 qN q7 q8 (by omega) rfl (XR_51 hX) (by omega) tt t108 (j2.up (by omega)) (XR_51 hX) (by omega) (by omega) (o := i) (by rw [e92]; exact lN_i i) (by omega) tS f1 (by omega) (by omega) q9 q4
    refine ⟨Q, β, D, nn, g0, g1, g3, g4, g5, gn, _, rRn_1 (ftR_of (XR_top hX) hr30 (rw_of hX hw) (by omega) (by omega)) (Or.inr rfl) (Ans.of (by rw [m350]; exact Nat.le_of_ble_eq_true rfl) (Bod.lv (by rfl) hb3)), ?_⟩
    rw [q10, he]
    exact hXe hX
end
