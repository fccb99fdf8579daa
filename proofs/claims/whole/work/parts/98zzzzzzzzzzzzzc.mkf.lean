/-! NAMES ON BOTH SIDES: a new function (22 | 37) -/
section
variable {P : Nat → Prop} {T : cS} {gT : Nat} {Q : Nat → Prop} {β β' : Nat → Nat} {F : Nat → Nat → Nat → Prop} {loc par : Nat → Nat → Nat} {ty : Nat → Nat × Nat} {G : Nat → Nat → Nat → Nat × Nat × LL → Prop} {D D' K : List Nat} {z nn g0 g1 g3 g4 g5 gn d n m p q q' pT k j f s r0 rr : Nat} {tq : Nat → Nat × Nat} {C r : List Lv} {x : Lv} {S S' Sf S0 S1 X W Sc Sr : cS} {w : Nat → Int32} {St : (Nat → Prop) → cS → Prop} {ok : List Lv → Prop} {hi lo a b : Int64} {kd : Int32}
/-- the code of a thing is set -/
theorem tF_V {u : Value} (hT : tF r0 s S W) (ok : tOk W r0 s) : tF r0 s S (wV (100 * s + 8) u W) ∧ tOk (wV (100 * s + 8) u W) r0 s := by
  obtain ⟨v2, v3, v4, v5, v6, v7, n, m, c1, c2, c3, c4⟩ := ok
  have eV : ∀ i, i ≠ 100 * s + 8 → sV (wV (100 * s + 8) u W) i = sV W i := fun i hi => if_neg hi
  obtain ⟨d1, d2, d3, d4, d5, d6, d7, d8, d9, d10⟩ := c1
  have c1' : tRef (wV (100 * s + 8) u W) r0 s v2 v3 v4 v5 v6 v7 n m := ⟨d1, d2, d3, by rw [eV _ (by omega)]; exact d4, by rw [eV _ (by omega)]; exact d5, by rw [eV _ (by omega)]; exact d6, by rw [eV _ (by omega)]; exact d7, by rw [eV _ (by omega)]; exact d8, by rw [eV _ (by omega)]; exact d9, d10⟩
  have c1 : tRef W r0 s v2 v3 v4 v5 v6 v7 n m := ⟨d1, d2, d3, d4, d5, d6, d7, d8, d9, d10⟩
  obtain ⟨a1, a2, a3, a4, a5, a6, a7, a8, a9, a10⟩ := hT
  have e1 := tc_ref c1
  have e2 := tc_ref c1'
  refine ⟨⟨a1, a2, a3, fun i hi => ⟨(a4 i hi).1, ?_⟩, a5, a6, a7, fun f v f2 f7 hv => ?_, ?_, ?_⟩, ⟨v2, v3, v4, v5, v6, v7, n, m, c1', c2, c3, c4⟩⟩
  · rw [eV i (hi 8 (by omega))]
    exact (a4 i hi).2
  · rw [eV _ (by omega)] at hv
    exact a8 f v f2 f7 hv
  · rw [e2.1]
    rw [e1.1] at a9
    exact a9
  · rw [e2.2]
    rw [e1.2] at a10
    exact a10
/-- the new object is pushed: both -/
theorem push_k (h : CIk k F loc par ty G tq (x :: r) X) (hk : lv X k) (h6 : vH x + 1 ≤ 600) : ∃ S', Ans (d + 2) 153 [.ref 46, .long 4611686018427387904, .long (lN k)] X none S' ∧ (∀ p q, CI F loc par ty G tq (vAt x p q (vH x + 1, vU x, vL x) :: r) S') ∧ CFm X S' ∧ ∀ (P : Nat → Prop) (T : cS) (gT : Nat) (Q : Nat → Prop) (β : Nat → Nat) (D : List Nat) (z nn g0 g1 g3 g4 g5 gn : Nat) (W : cS), XR P T gT Q β F D z nn g0 g1 g3 g4 g5 gn tq (x :: r) X W → ∃ D', XR P T gT Q β F D' z nn g0 g1 g3 g4 g5 gn tq (vAt x (vP x) (vQ x) (vH x + 1, vU x, vL x) :: r) S' (pshW (topC (x :: r) + offC (x :: r)) (nI 3) (lN (β k)) 0 W) := by
  obtain ⟨l1, l3, _, l4, l5⟩ := CIk_len h
  have hlb := CIk_lob h
  have ho := ob_obj hk.2.1
  obtain ⟨S', b1, b2, b3, b4, b5, b6⟩ := mpush_T (d := d) (o := k) (hi := 4611686018427387904) (lo := lN k) h.1 (show topC (x :: r) < 20480 by omega) ho.1 hk.2.1 (Or.inr hk) (Or.inr rfl) (fun k => by have := gC_le (C := x :: r) k; rw [List.length_cons] at this; omega)
  refine ⟨S', b1, fun p q => ?_, CFm_KX b3, fun P T gT Q β D z nn g0 g1 g3 g4 g5 gn W hX => ?_⟩
  · have := CIk_give (v := 0) h b3 (Nat.zero_le _) b2 b4 b5 (Or.inl rfl) hlb h6 ⟨by decide, by decide⟩ p q
    exact this
  · obtain ⟨p1, p2, p3, p4, p5⟩ := pshW_s (tp := topC (x :: r) + offC (x :: r)) (kd := nI 3) (xa := lN (β k)) (xb := 0) (S := W)
    have hg := XR_give (v := 0) (hi := 4611686018427387904) (lo := lN k) (tp := topC (x :: r) + offC (x :: r)) hX (mHS_cl h.1) (mHS_ok h.1) h.2.2.2.2.1 b3 (Nat.zero_le _) b4 b5 b6 (by omega) p1 p2 (by rw [p3, p4]; exact Or.inr (Or.inr (Or.inr (Or.inr (Or.inl ⟨k, hk.1, hk.2.1, rfl, rfl, rfl, rfl⟩)))))
    exact ⟨_, hg⟩
/-- the frame of a level, by its scope -/
theorem CI_ft (h : CI F loc par ty G tq (x :: r) S) : ftO ty S (vM x) (vL x).2 (vF x) := by
  obtain ⟨a1, a2, _⟩ := h.2.2.2.2.2.1
  by_cases c : vF x = 0
  · exact ⟨fun _ => c, fun h0 => absurd (a1 c) h0⟩
  · obtain ⟨b1, b2, b3, b4⟩ := a2 c
    exact ⟨fun h0 => absurd h0 b3, fun _ => ⟨b1, b2, b4⟩⟩
theorem mkfun_S (h : CI F loc par ty G tq (x :: r) S) (hpc : PC w pT S) (hck : clk S) (h5 : sI S 5216 = nI (vP x)) (hp : vP x + 1 < pT) (hw0 : w (vP x) = nI 22) (hw1 : w (vP x + 1) = nI f) (hF : F f (vM x) j ∧ 108 ≤ vM x) (hF1 : F f 1 rr) (hrr : rr < 2 ^ 20) (hj : j < 2 ^ 20) (hpar : par (vM x) (j + 1) = (vL x).2) (h6 : vH x + 1 ≤ 600) (hq : vQ x + 2 < 2 ^ 20) (hr : ∀ P T, St P T → rwT P T (vM x) (vQ x) (nI 37) ∧ rwT P T (vM x) (vQ x + 1) (nI j) ∧ riT P T (vM x) 7 j (nI rr)) (hok : ok (vAt x (vP x + 2) (vQ x + 2) (vH x + 1, vU x, vL x) :: r)) : stp St F loc par G tq w pT (d + 21) (x :: r) S ok := by
  have m161 := ml_161
  have m177 := ml_177
  have m400 := ml_400
  have hr30 : r.length ≤ 30 := h.2.2.2.2.2.2.1.2.2.2
  obtain ⟨l1, l2, l3, l4, l5⟩ := CI_len h
  have hT := CI_T h
  have hr1 := rd_T (d := d + 19) hpc h5 (by omega)
  rw [hw0] at hr1
  have hr2 := rd_T (d := d + 18) (PC_I (i := 5216) (k := nI (vP x + 1)) hpc (by decide)) (rIe _ _ _) hp
  rw [hw1, wI_wI] at hr2
  obtain ⟨S1, hS1⟩ : ∃ S1, S1 = wI 5216 (nI (vP x + 2)) S := ⟨_, rfl⟩
  have hr2' : Ans (d + 20) 127 [.ref 52] (wI 5216 (nI (vP x + 1)) S) (some (.int (nI f))) S1 := by rw [hS1]; exact hr2
  have h1 := CI_opd h hS1 (vP x + 2) (vQ x + 2)
  have hp1 : PC w pT S1 := by rw [hS1]; exact PC_I hpc (by decide)
  have hk1 : clk S1 := by rw [hS1]; exact clk_I hck (by decide) (by decide)
  have hF1' : CFw S S1 := by rw [hS1]; exact CFw_I (by decide)
  have h51 : sI S1 5216 = nI (vP x + 2) := by rw [hS1]; exact rIe _ _ _
  have hft : ftO ty S1 (vM x) (vL x).2 (vF x) := by have e := CI_ft h1; exact e
  have hfy : vF x = 0 ∨ lv S1 (vF x) := by
    by_cases c : (vL x).2 = 0
    · exact Or.inl (hft.1 c)
    · exact Or.inr (hft.2 c).1
  have hfr : sI S1 5215 = nI (vF x) := h1.2.2.2.2.2.2.1.2.2.1
  have goN : ∀ {e : Nat} {W : cS}, e < 2 ^ 20 → Ans (d + 20) 177 [.ref 52, .int (nI f)] S1 (some (.int (nI e))) W → Ans (d + 21) 161 [.ref 52, .int (nI 22)] (wI 5216 (nI (vP x + 1)) S) (some (.int (nI e))) W := fun he hA => Ans.of (by rw [m161]; exact Nat.le_of_ble_eq_true rfl) (Bod.lv (by rfl) (mNm_8 (d := d + 12) (op := 22) (by omega) rfl hr2' he hA))
  rcases new_L (d := d + 10) (dr := d + 10) (kd := 3) (i := nI f) (y := vF x) (u := 0) (by omega) h1 hfy (Or.inl rfl) with ⟨hf, A⟩ | ⟨_, k, X, W, A, B, hFX, hN, ⟨w3, w7, w8, w9, w10⟩, hCI, hR⟩
  · have ha : Ans (d + 20) 177 [.ref 52, .int (nI f)] S1 (some (.int (nI 8))) S1 := Ans.of (by rw [m177]; exact Nat.le_of_ble_eq_true rfl) (Bod.lv (by rfl) (mMf_2 (d := d + 11) (A.up (by omega)) (by decide)))
    have ht : tnE' (d + 21) S S1 8 := by
      have he : 1 ≤ 8 ∧ 8 ≤ 100 := by omega
      have hoc : 16 ≤ 22 ∧ 22 ≤ 24 := by omega
      intro tn v Sf S4 b
      exact flw_NE (d := d + 13) hr1 hoc he (goN (by omega) ha)
    refine Or.inr ⟨8, ty, _, r, S1, by omega, ht, h1, ⟨hp1, hk1, hF1'⟩, fun P T gT Q β D z nn g0 g1 g3 g4 g5 gn Sr hS hX => ?_⟩
    have hX1 := XR_opd hX hS1 hq (vP x + 2)
    obtain ⟨S2, D', b1, b2⟩ := (new_R (d := d + 10) (kd := nI 3) h1 hX1).1 hf
    obtain ⟨q1, q2, q3⟩ := hr P T hS
    have hA : Ans (d + 21) 400 [.ref 61, .int (nI 37), .int (nI j)] (wA 95 r.length (nI (vQ x + 2)) Sr) (some (.int 0)) (wI 6164 (nI 8) S2) := Ans.of (by rw [m400]; exact Nat.le_of_ble_eq_true rfl) (Bod.lv (by rfl) (rMf_3 (d := d + 12) hj (b1.up (by omega))))
    exact ⟨Q, β, D', nn, g0, g1, g3, g4, g5, gn, _, hon_w (d := d + 13) (XR_top hX) hr30 (rw_of hX q1) (rw_of hX q2) hj (by decide) (Or.inl rfl) hA, rIe _ _ _, XRe_I (XR_XRe b2 (CI_lob h1)) (Or.inl rfl)⟩
  · have hlk := nbX_lk hN
    have hk1' := hlk.1
    have hk2 := hlk.2.1
    have hty : tyO F loc par ty W k := by
      refine ⟨fun c => ?_, fun _ => ⟨w8, f, vM x, j, vF x, w9, hF, w7, ?_⟩, fun c => ?_, fun c => ?_, fun c => ?_, fun c => ?_⟩
      · rw [w3] at c
        exact absurd c (by decide)
      · rw [hpar]
        exact ftO_K hft (fun o ho => ⟨fun _ => (hN.2.2.2.2.1 o).mpr (Or.inl ho), fun _ => (hN.2.2.2.2.2.1 o ho).1⟩)
      · rw [w3] at c
        exact absurd c (by decide)
      · rw [w3] at c
        exact absurd c (by decide)
      · rw [w3] at c
        exact absurd c (by decide)
      · rw [w3] at c
        exact absurd c (by decide)
    have hCk := hCI ty (fun _ _ => rfl) hty
    obtain ⟨S', c1, c2, c3, c4⟩ := push_k (d := d + 10) hCk hlk (by show vH x + 1 ≤ 600; exact h6)
    have hX5 : sI X 5215 = nI (vF x) := (hFX.wide.2.2.1 5215 (by decide)).trans hfr
    rw [← hX5] at B
    rw [← nI_ll (n := k) (by omega)] at c1
    have ha : Ans (d + 20) 177 [.ref 52, .int (nI f)] S1 (some (.int (nI 0))) S' := Ans.of (by rw [m177]; exact Nat.le_of_ble_eq_true rfl) (Bod.lv (by rfl) (mMf_1 (d := d + 11) (A.up (by omega)) (by
      show (if nI k = 0 then false else true) = true
      exact if_neg (nI_ne (b := 0) (by omega) (by omega) (by omega) : nI k ≠ nI 0)) (B.up (by omega)) (c1.up (by omega))))
    have hFr : CFr S1 S' := (hN.2.2.1.trans c3).wide
    have ht : tnC (d + 21) S S' := by
      have hoc : 16 ≤ 22 ∧ 22 ≤ 24 := by omega
      intro tn v Sf
      exact flw_N (d := d + 13) hr1 hoc (goN (by omega) ha)
    refine Or.inl ⟨ty, tq, _, S', hok, ht, c2 (vP x + 2) (vQ x + 2), ⟨(hFr.2.2.1 5216 (by decide)).trans h51, PC_r hp1 hFr, clk_r hk1 hFr, hF1'.trans hFr.w⟩, fun P T gT Q β D z nn g0 g1 g3 g4 g5 gn Sr hS hX => ?_⟩
    have hX1 := XR_opd hX hS1 hq (vP x + 2)
    obtain ⟨q1, q2, q3⟩ := hr P T hS
    obtain ⟨β', D', r0, s, Sn, eb, r1, eo, B1, ⟨s1, s0⟩, s108, ⟨Ns, s2⟩, hps, ⟨lS, hSl⟩, hXn, ⟨u1, u2⟩, ⟨u3, u4, u5, u6, u7, u8, u9, u10⟩, hfin⟩ := hR P T gT Q β D z nn g0 g1 g3 g4 g5 gn _ hX1
    obtain ⟨a, N, zm, e1, e2, e3, e4, e5, e6, e7, e8⟩ := ri_of hXn (by omega) q3
    obtain ⟨t1, _, _, t4⟩ := XR_top hXn
    have t4' : sQ Sn 94 r.length = some (vM x) := t4
    have hms : vM x ≠ s := fun c => by
      have hs2 := s2
      rw [← c, e2] at hs2
      have := Option.some.inj hs2
      injection this with h1' _
      exact absurd h1' (by decide)
    have g7 : sV (rsT r0 s (nI 3) Sn) (100 * vM x + 7) = .ref a := by
      unfold rsT
      exact (if_neg (by omega)).trans e3
    have g96 : sA Sn 96 r.length = (if vF x = 0 then Int32.ofInt (-1) else nI (β (vF x))) := hXn.2.2.2.2.1.1.2.2.1
    -- the thing, all told
    obtain ⟨W2, hW2⟩ : ∃ W2, W2 = wI (100 * s + 11) (lkI β (vF x)) (wI (100 * s + 10) (nI rr) (wI (100 * s + 9) (nI j) (wV (100 * s + 8) (.ref (vM x)) (rsT r0 s (nI 3) Sn)))) := ⟨_, rfl⟩
    obtain ⟨y1, y2⟩ := tF_V (u := .ref (vM x)) u1 u2
    obtain ⟨y3, y4⟩ := tF_I (j := 9) (q := nI j) y1 y2 (by omega)
    obtain ⟨y5, y6⟩ := tF_I (j := 10) (q := nI rr) y3 y4 (by omega)
    obtain ⟨y7, y8⟩ := tF_I (j := 11) (q := lkI β (vF x)) y5 y6 (by omega)
    rw [← hW2] at y7 y8
    have i11 : ∀ i, i ≠ 100 * s + 9 → i ≠ 100 * s + 10 → i ≠ 100 * s + 11 → sI W2 i = sI (rsT r0 s (nI 3) Sn) i := fun i h9 h10 h11 => by
      rw [hW2, rI, if_neg h11, rI, if_neg h10, rI, if_neg h9]
      rfl
    have hXW := hfin W2 y7 y8 (by rw [hW2]; exact u7) (by rw [i11 _ (by omega) (by omega) (by omega)]; exact u3) (by rw [i11 _ (by omega) (by omega) (by omega)]; exact u4) (by rw [hW2, rIe]) (by rw [i11 _ (by omega) (by omega) (by omega)]; exact u6) ⟨fun _ => ⟨f, vM x, j, rr, w9, by rw [hW2]; exact if_pos rfl, by rw [hW2, rI, if_neg (by omega), rI, if_neg (by omega), rIe], hF.1, hF.2, by rw [hW2, rI, if_neg (by omega), rIe], hF1⟩, fun c => by rw [w3] at c; exact absurd c (by decide)⟩
    obtain ⟨D2, hX2⟩ := c4 P T gT Q β' D' z nn g0 g1 g3 g4 g5 gn W2 hXW
    have e51 : sI W2 6151 = nI (topC (x :: r) + offC (x :: r)) := by
      rw [i11 _ (by omega) (by omega) (by omega), u10 _ (by omega)]
      have e := XR_51 hXn
      exact e
    have hpi := rpush_T (d := d + 11) (t := topC (x :: r) + offC (x :: r)) (kd := nI 3) (xa := (nI r0).toInt64) (xb := 0) (S := W2) e51 (by omega)
    have hpw : wI 6151 (nI (topC (x :: r) + offC (x :: r) + 1)) (wL 93 (topC (x :: r) + offC (x :: r)) 0 (wL 92 (topC (x :: r) + offC (x :: r)) (nI r0).toInt64 (wA 91 (topC (x :: r) + offC (x :: r)) (nI 3) W2))) = pshW (topC (x :: r) + offC (x :: r)) (nI 3) (lN (β' k)) 0 W2 := by
      unfold pshW
      rw [wI_id e51, nI_ll (by omega), eb]
    rw [hpw] at hpi
    have he : sA (wI (100 * s + 9) (nI j) (wV (100 * s + 8) (.ref (vM x)) (rsT r0 s (nI 3) Sn))) a j = nI rr := by
      show sA (rsT r0 s (nI 3) Sn) a j = nI rr
      rw [u8 a (by omega)]
      exact e8
    have h59 : sI (rsT r0 s (nI 3) Sn) 6159 = nI (r.length + 1) := by rw [u10 _ (by omega)]; exact hXn.2.2.2.2.2.1.2.1
    have hS3 : sS (rsT r0 s (nI 3) Sn) = sS Sn := rfl
    have hb : Bod (d + 20) 400 0 [(0, .ref 61), (1, .int (nI 37)), (2, .int (nI j))] [] (wA 95 r.length (nI (vQ x + 2)) Sr) (some (.int 1)) (pshW (topC (x :: r) + offC (x :: r)) (nI 3) (lN (β' k)) 0 W2) := by
      by_cases c0 : vF x = 0
      · have eW : W2 = wI (100 * s + 11) (Int32.ofInt (-1)) (wI (100 * s + 10) (nI rr) (wI (100 * s + 9) (nI j) (wV (100 * s + 8) (.ref (vM x)) (rsT r0 s (nI 3) Sn)))) := by rw [hW2]; unfold lkI; rw [if_pos c0]
        have n3 : sA (wI (100 * s + 10) (nI rr) (wI (100 * s + 9) (nI j) (wV (100 * s + 8) (.ref (vM x)) (rsT r0 s (nI 3) Sn)))) 96 (r.length + 1 - 1) = Int32.ofInt (-1) := by
          show sA (rsT r0 s (nI 3) Sn) 96 r.length = _
          rw [u8 96 (by omega), g96, if_pos c0]
        refine rMf_2 (d := d + 12) (a := r0) (g := s) (cl := r.length + 1) (m := vM x) (e := rr) hj r1 (B1.up (by omega)) s108 (by show sQ (rsT r0 s (nI 3) Sn) 86 r0 = some s; exact s1) h59 (by omega) (by omega) e1 t4' s2 e2 g7 e4 e5 e7 he hrr n3 ?_
        rw [← eW]
        exact hpi
      · obtain ⟨b, hb96⟩ : ∃ b, b = β (vF x) := ⟨_, rfl⟩
        have eW : W2 = wI (100 * s + 11) (nI b) (wI (100 * s + 10) (nI rr) (wI (100 * s + 9) (nI j) (wV (100 * s + 8) (.ref (vM x)) (rsT r0 s (nI 3) Sn)))) := by rw [hW2, hb96]; unfold lkI; rw [if_neg c0]
        have hlf := hfy.resolve_left c0
        have hbl := hX1.1.b hlf
        have he96 : sA (wI (100 * s + 10) (nI rr) (wI (100 * s + 9) (nI j) (wV (100 * s + 8) (.ref (vM x)) (rsT r0 s (nI 3) Sn)))) 96 (r.length + 1 - 1) = nI b := by
          show sA (rsT r0 s (nI 3) Sn) 96 r.length = _
          rw [u8 96 (by omega), g96, if_neg c0, hb96]
        refine rMf_1 (d := d + 12) (a := r0) (g := s) (cl := r.length + 1) (m := vM x) (e := rr) hj r1 (B1.up (by omega)) s108 (by show sQ (rsT r0 s (nI 3) Sn) 86 r0 = some s; exact s1) h59 (by omega) (by omega) e1 t4' s2 e2 g7 e4 e5 e7 he hrr he96 (by omega) ?_
        rw [← eW]
        exact hpi
    have hA : Ans (d + 21) 400 [.ref 61, .int (nI 37), .int (nI j)] (wA 95 r.length (nI (vQ x + 2)) Sr) (some (.int 1)) _ := Ans.of (by rw [m400]; exact Nat.le_of_ble_eq_true rfl) (Bod.lv (by rfl) hb)
    exact ⟨Q, β', D2, nn, g0, g1, g3, g4, g5, gn, _, hon_w (d := d + 13) (XR_top hX) hr30 (rw_of hX q1) (rw_of hX q2) hj (by decide) (Or.inr rfl) hA, hX2⟩
end
