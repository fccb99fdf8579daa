/-! STATEMENTS OF THE REFERENCE: for -/
section
variable {β : Nat → Nat} {n : Nat} {E : Nat → Nat → Bool} {V : Nat → Int32} {T : Nat → Nat × Nat} {P : Nat → Int32 → Int32 × Int32} {own0 : Nat → Nat × Nat} {m u k1 : Nat} {S0 S S1 S2 : cS} {H B0 W d l c w t f f1 b j s : Nat} {X Y : Nat → Nat} {o1 o2 : List Op} {A A1 : Prop}
theorem nt0 {K : Nat → Nat} {o : Op} (h : o.1 ≠ 16) : nwN K [o] = 0 ∧ ntN K [o] = 0 := by
  constructor
  · show nwO K o + 0 = 0
    unfold nwO
    rw [if_neg (fun q => h q.1)]
  · show ntO K o + 0 = 0
    unfold ntO
    rw [if_neg (fun q => h q.1)]
theorem wR1 (K : Nat → Nat) (o : Op) : wR K [o] = lR K o := rfl
theorem z_for {dp ind tr ca af k F D : Nat} {opn : Nat → Nat} {lp : LpT} {sc : SCs} {at' : List Nat} (hX : zX β n V own0 m k1 S0) (hB : ZB β n E V T own0 m u k1 S0 H B0 W F 0) (h : zIs β n E V T own0 m u k1 S0 H B0 W 0 opn dp ind s lp tr sc at' X af c w t b k S) (hK : qK β n k = 44) (hF : 4 * rem β n k ≤ F + 4) (hD : lvZ dp ≤ D + 1) : ∃ S1 v, Ans D 345 [.ref 61, .int (nI ind), .int (nI (qL β n k))] S (some (.int v)) S1 ∧ zOs β n E V T own0 m u k1 S0 H B0 W 0 opn (dp + 1) ind lp sc at' X af S c w t b k (psFor (qK β n) (qL β n) E (ps (qK β n) (qL β n) (qI β n) E F) dp ind s tr ca c sc at' k) v S1 := by
  obtain ⟨h0, ⟨r1, r2, r3, r4⟩, hls, hK1, hI, hx1, hx2, hx3⟩ := h
  obtain ⟨h1, h2, h3, h4, h5, h6, h7, h8, h9, h10, h11, h12, h13⟩ := id h0
  obtain ⟨⟨c01, c02, c03, c04, c05⟩, ⟨c11, c12⟩, ⟨c21, c22, c23⟩, ⟨tr', c31, c32, c33⟩, c4, c5, ⟨c61, c62⟩, ⟨c71, c72, c73, c74⟩, ⟨c81, c82⟩, c9, c10⟩ := id h4
  obtain rfl := c33 rfl
  have hk1 := hX.2.1
  have hn3 := hX.1
  have hm1 := hX.2.2.2.2.1
  have hLM := qL_lt (k := k) hX
  have hiM := k_i (k := k) hX
  have hlv : lvZ dp = 260 + 4 * (12 - dp) := rfl
  obtain ⟨e, rfl⟩ : ∃ e, D = e + 10 := ⟨D - 10, by omega⟩
  have hk2 := q_end hX h7 hK1
  obtain ⟨q1, q2, q3, q4⟩ := rm_gt (β := β) (n := n) (k := k) (by omega)
  obtain ⟨q5, q6⟩ := rem_ge hK1
  have hEa := zE_wI (i := 6115) (x := nI (k + 1)) h1 (by decide)
  have kxa : kX m S (wI 6115 (nI (k + 1)) S) := kX_wI (Or.inl rfl)
  have fa : sI (wI 6115 (nI (k + 1)) S) 6116 = nI 0 := (rIn _ _ (by decide)).trans h3
  have ml : ∀ {v' : Int32} {Sf : cS}, Bod (e + 9) 345 0 [(0, .ref 61), (1, .int (nI ind)), (2, .int (nI (qL β n k)))] [] S (some (.int v')) Sf → Ans (e + 10) 345 [.ref 61, .int (nI ind), .int (nI (qL β n k))] S (some (.int v')) Sf := fun p => Ans.of (by rw [ml_345]; exact Nat.le_of_ble_eq_true rfl) p
  obtain ⟨ta1, -⟩ := z_tok hX hEa hk2
  have hlt1 := rkd_lt (qK β n (k + 1))
  by_cases hn3' : qK β n (k + 1) = 3
  case neg =>
    have eP : psFor (qK β n) (qL β n) E (ps (qK β n) (qL β n) (qI β n) E F) dp ind s tr' ca c sc at' k = .inl (qL β n k) := if_neg (fun q => hn3' q.1)
    rw [eP]
    obtain ⟨b1, b2⟩ := z_bad (d := e + 7) (j := k + 1) hX hEa (rIe _ _ _) fa hk2 h9 h10 h11
    exact ⟨_, nI 0, ml (zFo_5 (d := e + 1) (by omega) (by omega) h2 (by omega) ta1 (by omega) (fun q => hn3' (rkd_1.mp q)) b1), Or.inl ⟨_, zB_in (show fl β n (k + 1) = flq (qL β n k) by rw [← q3]; rfl), rfl, b2⟩⟩
  obtain ⟨nr, nr1, nr2, nr3, nr4⟩ := z_nm hX hEa hk2 hn3'
  have hk3 : k + 2 ≤ k1 := q_end hX hk2 q4
  obtain ⟨q7, q8, q9, q10⟩ := rm_gt' (β := β) (n := n) (k := k + 1) (k' := k + 2) rfl (by omega)
  have hEb := zE_wI (i := 6115) (x := nI (k + 2)) hEa (by decide)
  have kxb := kX_trans kxa (kX_wI (m := m) (i := 6115) (x := nI (k + 2)) (S := wI 6115 (nI (k + 1)) S) (Or.inl rfl))
  have fb : sI (wI 6115 (nI (k + 2)) (wI 6115 (nI (k + 1)) S)) 6116 = nI 0 := (rIn _ _ (by decide)).trans fa
  by_cases hin : qK β n (k + 2) = 45
  case neg =>
    have eP : psFor (qK β n) (qL β n) E (ps (qK β n) (qL β n) (qI β n) E F) dp ind s tr' ca c sc at' k = .inl (qL β n k) := if_neg (fun q => hin q.2)
    rw [eP]
    have hw := z_wdF (d := e + 8) (K := 5) hX hEb (rIe _ _ _) hk3 (by decide) hin
    obtain ⟨b1, b2⟩ := z_bad (d := e + 7) (j := k + 2) hX hEb (rIe _ _ _) fb hk3 h9 h10 h11
    exact ⟨_, nI 0, ml (zFo_4 (d := e + 1) (by omega) (by omega) h2 (by omega) nr3 (by omega) rfl nr4 nr1 hw b1), Or.inl ⟨_, zB_in (show fl β n (k + 2) = flq (qL β n k) by rw [← q3, ← q9]; rfl), rfl, b2⟩⟩
  have hw := z_wdT (d := e + 8) (K := 5) hX hEb (rIe _ _ _) hk3 (by decide) hin
  have hk4 : k + 3 ≤ k1 := q_end hX hk3 q10
  obtain ⟨q11, q12, q13, q14⟩ := rm_gt' (β := β) (n := n) (k := k + 2) (k' := k + 3) rfl (by omega)
  obtain ⟨Sb, hSb⟩ : ∃ Sb, Sb = wI 6115 (nI (k + 2)) (wI 6115 (nI (k + 1)) S) := ⟨_, rfl⟩
  have ab : sI Sb 6115 = nI (k + 2) := by rw [hSb]; exact rIe _ _ _
  rw [← hSb] at hEb kxb fb hw
  have hEc := zE_wI (i := 6115) (x := nI (k + 3)) hEb (by decide)
  have kxc := kX_trans kxb (kX_wI (m := m) (i := 6115) (x := nI (k + 3)) (S := Sb) (Or.inl rfl))
  have fc : sI (wI 6115 (nI (k + 3)) Sb) 6116 = nI 0 := (rIn _ _ (by decide)).trans fb
  obtain ⟨q15, q16⟩ := rem_ge q14
  obtain ⟨Sx, vx, hAx, x1, x2⟩ := zIs_x (q := k + 3) (D := e + 9) hX h0 kxc hEc (rIe _ _ _) fc hk4 (by omega) (by omega) (by omega) (by omega)
  have hPs : psFor (qK β n) (qL β n) E (ps (qK β n) (qL β n) (qI β n) E F) dp ind s tr' ca c sc at' k = pb (qL β n k) (exs (qK β n) s (k + 3)) _ := if_pos ⟨hn3', hin⟩
  cases hex : exs (qK β n) s (k + 3) with
  | none =>
    obtain ⟨v0, b0⟩ := x1 hex
    rw [v0] at hAx
    rw [hPs, hex]
    exact ⟨Sx, nI 0, ml (zFo_3 (d := e + 1) (by omega) (by omega) h2 (by omega) nr3 (by omega) rfl nr4 nr1 (by rw [← hSb]; exact hw) ab (by omega) hAx), Or.inl ⟨_, zB_in (show fl β n (k + 3) = flq (qL β n k) by rw [← q3, ← q9, ← q13]; rfl), rfl, b0⟩⟩
  | some r =>
    obtain ⟨v1, g4, kx4, n60r, -, -⟩ := x2 r hex
    rw [v1] at hAx
    rw [hPs, hex]
    obtain ⟨y1, y2, y3, y4, y5⟩ := exs_3 hex
    have hrr := rm_run (β := β) (n := n) (k := k + 3) (k1 := r.1) (by omega) y1
    have hlt := ln_tk (k := k) (r := r.1) hK1 (fun q a1 a2 => by
      rcases Nat.lt_or_ge q (k + 3) with e1 | e1
      · rcases (show q = k ∨ q = k + 1 ∨ q = k + 2 by omega) with rfl | rfl | rfl <;> omega
      · exact y1 q (by omega) a2)
    have hrk : r.1 ≤ k1 := by
      rcases Nat.lt_or_ge k1 r.1 with e1 | e1
      · have := y1 k1 (by omega) e1
        have := hX.2.2.1
        omega
      · exact e1
    obtain ⟨t1, t2, t3⟩ := hlt r.1 (by omega) (Nat.le_refl _)
    obtain ⟨q17, q18⟩ := rem_ge t1
    have z4 := g4 X (X 2)
    obtain ⟨S3, hA3, z3, kx3⟩ := zO_1 (d := e + 5) (o := (9, [], 0, 0)) (x := nI 31) hX z4 (by omega) h12 rfl (by decide) (by decide) (by decide) rfl
    have w3 : wR (qK β n) (r.2.2 ++ [(9, [], 0, 0)]) = wR (qK β n) r.2.2 + 1 := by rw [wR_app]; rfl
    obtain ⟨S4, hA4, z4', kx4'⟩ := zO_hole (d := e + 4) (o := (4, [], 4, 0)) (x := nI 11) hX z3 (by rw [w3]; omega) h12 rfl (by decide) (by decide) (by decide) rfl
    obtain ⟨m1, m2, m3, m4, -⟩ := zE_m z4'.1
    have w4 : wR (qK β n) ((r.2.2 ++ [(9, [], 0, 0)]) ++ [(4, [], 4, 0)]) = wR (qK β n) r.2.2 + 3 := by rw [wR_app, w3]; rfl
    rw [w4] at m4
    obtain ⟨S5, hA5, z5, kx5⟩ := zO_2 (d := e + 5) (o := (2, [qL β n k], 0, 0)) (x := nI 0) (y := nI (qL β n k)) hX z4' (by rw [w4]; omega) h12 rfl (by show (2 : Nat) ≠ 16; decide) (by show (2 : Nat) ≠ 60; decide) (by show (2 : Nat) ≠ 23; decide) rfl
    have l5 : ((r.2.2 ++ [(9, [], 0, 0)]) ++ [(4, [], 4, 0)]) ++ [(2, [qL β n k], 0, 0)] = (r.2.2 ++ [(9, [], 0, 0)]) ++ (4, [], 4, 0) :: [(2, [qL β n k], 0, 0)] := by simp only [List.append_assoc, List.cons_append, List.nil_append]
    rw [l5] at z5
    obtain ⟨S6, hA6, z6, kx6, hi6⟩ := zO_fill (d := e + 8) (x := 4) hX z5 h12 (by show (4 : Nat) ∈ _; decide)
    obtain ⟨pre, hpre⟩ : ∃ pre, pre = r.2.2 ++ [(9, [], 0, 0), (4, [], 4, 3), (2, [qL β n k], 0, 0)] := ⟨_, rfl⟩
    have z6' : zO β n V (zPT (qK β n) (qI β n) V T) (agT T sc.1) own0 m u S0 H B0 X (X 2) (wI 6115 (nI (k + 3)) Sb) c w t (sc.1.length - 1) b r.1 pre (sc.1.length - 1) S6 := by
      rw [hpre]
      have : r.2.2 ++ [(9, [], 0, 0), (4, [], 4, 3), (2, [qL β n k], 0, 0)] = (r.2.2 ++ [(9, [], 0, 0)]) ++ (4, [], 4, 3) :: [(2, [qL β n k], 0, 0)] := by simp only [List.append_assoc, List.cons_append, List.nil_append]
      rw [this]
      exact z6
    have wp : wR (qK β n) pre = wR (qK β n) r.2.2 + 5 := by rw [hpre, wR_app]; rfl
    have cp : wC pre = wC r.2.2 + 5 := by rw [hpre, wC_app]; rfl
    have np : n60 pre := by
      rw [hpre]
      refine n60_app.mpr ⟨n60r, fun o ho => ?_⟩
      simp only [List.mem_cons, List.not_mem_nil, or_false] at ho
      rcases ho with rfl | rfl | rfl
      · show (9 : Nat) ≠ 60; decide
      · show (4 : Nat) ≠ 60; decide
      · show (2 : Nat) ≠ 60; decide
    have nwp : nwN (qK β n) pre = nwN (qK β n) r.2.2 ∧ ntN (qK β n) pre = ntN (qK β n) r.2.2 := by
      rw [hpre, nwN_app, ntN_app]
      exact ⟨rfl, rfl⟩
    obtain ⟨S7, hA7, z7, kx7⟩ := zO_hole (d := e + 4) (o := (10, [], 0, 0)) (x := nI 32) hX z6' (by rw [wp]; omega) h12 rfl (by decide) (by decide) (by decide) rfl
    have w7 : wR (qK β n) (pre ++ [(10, [], 0, 0)]) = wR (qK β n) r.2.2 + 7 := by rw [wR_app, wp]; rfl
    have kx07 := kX_trans kxc (kX_trans kx4 (kX_trans kx3 (kX_trans kx4' (kX_trans kx5 (kX_trans kx6 kx7)))))
    have hF15 : X 1 < 15 := by omega
    have hN7 := zN_X (zSc_N c9 c11 hF15 c4 c5) kx07
    obtain ⟨S8, hA8, z8, kx8⟩ := zO_nm (d := e + 4) (o := (19, [k + 1, s], 0, 0)) (x := nI 6) (r := nr) hX z7 hN7 (by rw [w7]; omega) h12 nr1 rfl (by show (19 : Nat) ≠ 16; decide) (by show (19 : Nat) ≠ 60; decide) (by show (19 : Nat) ≠ 23; decide) (by rw [wdS_19, nr2])
    have kx08 := kX_trans kx07 kx8
    have l8 : (pre ++ [(10, [], 0, 0)]) ++ [(19, [k + 1, s], 0, 0)] = pre ++ (10, [], 0, 0) :: [(19, [k + 1, s], 0, 0)] := by simp only [List.append_assoc, List.cons_append, List.nil_append]
    rw [l8] at z8
    have w8 : wR (qK β n) (pre ++ (10, [], 0, 0) :: [(19, [k + 1, s], 0, 0)]) = wR (qK β n) r.2.2 + 11 := by rw [wR_app, wp]; rfl
    have nw8 : nwN (qK β n) (pre ++ (10, [], 0, 0) :: [(19, [k + 1, s], 0, 0)]) = nwN (qK β n) r.2.2 := by rw [nwN_app, nwp.1]; rfl
    have nt8 : ntN (qK β n) (pre ++ (10, [], 0, 0) :: [(19, [k + 1, s], 0, 0)]) = ntN (qK β n) r.2.2 := by rw [ntN_app, nwp.2]; rfl
    have n8 : n60 (pre ++ (10, [], 0, 0) :: [(19, [k + 1, s], 0, 0)]) := by
      refine n60_app.mpr ⟨np, fun o ho => ?_⟩
      rcases List.mem_cons.mp ho with e1 | e1
      · rw [e1]; show (10 : Nat) ≠ 60; decide
      · rw [List.mem_singleton.mp e1]; show (19 : Nat) ≠ 60; decide
    have hE8 := z8.1
    rw [w8, nw8, nt8, zbk_n _ _ _ n8] at hE8
    have hscB : (scB E s (k + 1) sc).1 = sc.1 := (scB_l E s (k + 1) sc).1
    have hI8 := zI0_X (k' := r.1) (sc' := scB E s (k + 1) sc) (c' := c + (wR (qK β n) r.2.2 + 11)) h0 kx08 hE8 z8.2.1 z8.2.2.1 (by omega) (by omega) (by omega) (by omega) hrk hK1 hI (fun j j1 j2 => by
      obtain ⟨a1, a2, a3⟩ := hlt j j1 j2
      exact ⟨a1, by omega⟩) hscB (scL_B E s (k + 1) sc h6) (Or.inl rfl) (Or.inr (by omega))
    have htr8 : sI S8 6127 = nI tr' := (kx08.1 6127 (by decide) (by decide) (by decide) (by decide) (by decide)).trans c31
    have hL8 : sI S8 6126 = nI (X 2) := (kx08.1 6126 (by decide) (by decide) (by decide) (by decide) (by decide)).trans c21
    obtain ⟨S9, hS9⟩ : ∃ S9, S9 = wI 6126 (nI (X 2 + 1)) (wA 78 (X 2) (nI tr') (wA 77 (X 2) (nI (c + (wR (qK β n) r.2.2 + 3))) S8)) := ⟨_, rfl⟩
    have hA9 := z_begin (d := e) (x := nI (c + (wR (qK β n) r.2.2 + 3))) hL8 htr8 (by omega) (by omega)
    rw [← hS9] at hA9
    obtain ⟨hI9, kw9, ka9, i9, l9⟩ := zI0_loop (ca := ca + wC r.2.2 + 3) (on := c + (wR (qK β n) r.2.2 + 3)) hI8 (by omega) hx2 htr8 hS9
    have hz13 : qK β n r.1 = 13 → qK β n (r.1 + 1) = 2 → zRm β n H W (r.1 + 2) (c + (wR (qK β n) r.2.2 + 11)) (w + nwN (qK β n) r.2.2) (t + ntN (qK β n) r.2.2) ((scB E s (k + 1) sc).1.length - 1) := fun e1 e2 => by
      obtain ⟨p1, p2, p3, p4⟩ := rm_gt (β := β) (n := n) (k := r.1) (by omega)
      have p5 : rem β n (r.1 + 2) + 1 ≤ rm β n (r.1 + 1) := rm_nl (β := β) (n := n) (j := r.1 + 1) e2
      rw [hscB]
      exact ⟨by omega, by omega, by omega, by omega, h12, h13⟩
    obtain ⟨S10, v10, hA10, hO10⟩ := hB opn dp ind s (some (ca + wC r.2.2 + 3, c + (wR (qK β n) r.2.2 + 3), tr')) tr' (ca + wC r.2.2 + 10) (scB E s (k + 1) sc) at' (upL (X 2 + 1) X) af (c + (wR (qK β n) r.2.2 + 11)) _ _ b r.1 S9 (e + 9) hI9 t1 (t2.trans hI) (by omega) hz13 (by omega)
    have eC : c + (wR (qK β n) r.2.2 + 11) = c + wR (qK β n) r.2.2 + 11 := by omega
    have eC2 : c + (wR (qK β n) r.2.2 + 3) = c + wR (qK β n) r.2.2 + 3 := by omega
    rw [eC, eC2, show bmZ 0 = 2 from rfl] at hO10
    rw [eC2] at hA9
    have hM0 : c + wR (qK β n) (r.2.2 ++ [(9, [], 0, 0)]) + 1 < 2 ^ 20 := by rw [w3]; omega
    have hM1 : c + wR (qK β n) pre + 1 < 2 ^ 20 := by rw [wp]; omega
    rcases hO10 with ⟨l, hb, hv, hzB⟩ | ⟨x, hx, hv, x13, x2', xI, xlt, hG⟩
    · rw [hv] at hA10
      refine ⟨S10, nI 0, ml (zFo_2 (d := e + 1) (by omega) (by omega) h2 (by omega) nr3 (by omega) rfl nr4 nr1 (by rw [← hSb]; exact hw) ab (by omega) hAx hA3 hM0 hA4 m1 m3 m2 m4 (by omega) hA5 hA6 hM1 hA7 hA8 (by rw [eC2]; exact hA9) hA10), Or.inl ⟨l, ?_, rfl, hzB⟩⟩
      show zBd β n opn (dp + 1) (sb (ps (qK β n) (qL β n) (qI β n) E F 2 (dp + 1) ind s (some (ca + wC r.2.2 + 3, c + wR (qK β n) r.2.2 + 3, tr')) tr' (ca + wC r.2.2 + 10) (c + wR (qK β n) r.2.2 + 11) (scB E s (k + 1) sc) at' r.1) _) l
      rcases hb with ⟨q, hq, hl⟩ | ⟨x, hx, e1, e3, hl⟩
      · rw [hq]
        exact Or.inl ⟨q, rfl, hl⟩
      · rw [hx]
        exact Or.inr ⟨_, rfl, e1, e3, hl⟩
    · rw [hv] at hA10
      obtain ⟨g1, g2, g3, -, g5, g6, g7, g8, g9, g10, g11, g12, g13, g14, g15, g16⟩ := hG
      rw [hscB] at g1 g10
      have g16' := scL_trans (scL_B E s (k + 1) sc h6) g16
      have hlen : sc.1.length ≤ x.2.2.1.1.length := by
        obtain ⟨⟨l0, hl0⟩, _⟩ := g16'
        rw [hl0, List.length_append]
        omega
      have z9 := zO_ext z8 (S2 := S9) (by rw [w8, nw8, nt8, zbk_n _ _ _ n8, ← hscB]; exact hI9.1) (i9 _ (by decide)) (i9 _ (by decide)) (kw9 _ _ _ _ _) ka9
      have hc9 : c + wR (qK β n) (pre ++ (10, [], 0, 0) :: [(19, [k + 1, s], 0, 0)]) = c + wR (qK β n) r.2.2 + 11 := by rw [w8]; omega
      have z10 := zO_app (Y := upL (X 2 + 1) X) z9 (by rw [hc9, nw8, nt8, zbk_n _ _ _ n8]; exact g1) (fun i => by
        show X i ≤ if i = 2 then X 2 + 1 else X i
        split
        · rename_i e1
          rw [e1]
          omega
        · exact Nat.le_refl _) (agT_L g16')
      have l10 : (pre ++ (10, [], 0, 0) :: [(19, [k + 1, s], 0, 0)]) ++ x.2.1 = pre ++ (10, [], 0, 0) :: ([(19, [k + 1, s], 0, 0)] ++ x.2.1) := by simp only [List.append_assoc, List.cons_append, List.nil_append]
      rw [l10] at z10
      have wm : wR (qK β n) [((19, [k + 1, s], 0, 0) : Op)] = 4 := rfl
      have cm : wC [((19, [k + 1, s], 0, 0) : Op)] = 3 := rfl
      obtain ⟨p1, p2, p3, p4⟩ := rm_gt (β := β) (n := n) (k := r.1) (by omega)
      have p5 : rem β n (r.1 + 2) + 1 ≤ rm β n (r.1 + 1) := rm_nl (β := β) (n := n) (j := r.1 + 1) x2'
      have hq1 := qP_le (β := β) (n := n) (show k + 1 ≤ r.1 + 2 by omega)
      have hq2 := qP_le (β := β) (n := n) (show k ≤ x.1 by omega)
      have hqx := (q_lt β n x.1).1
      have hqk : qP β n k + 1 ≤ qP β n (k + 1) := by
        have a1 := (q_lt β n k).1
        have a2 := (q_lt β n (k + 1)).1
        unfold rm at q1
        omega
      have l10' : sI S10 6126 = nI (X 2 + 1) := (g2 6126 (by decide)).trans l9
      have hcc : c + wR (qK β n) pre + 2 + wR (qK β n) [((19, [k + 1, s], 0, 0) : Op)] = c + wR (qK β n) r.2.2 + 11 := by rw [wp, wm]; omega
      obtain ⟨S11, S12, S13, hA11, hA12, hA13, z13, n13, l13, i13, d13, a13⟩ := loop_tail (d := e) (on := c + wR (qK β n) r.2.2 + 3) (ce := ca + wC r.2.2 + 10 + wC x.2.1 + 2) (cc := ca) (ci := ca + wC r.2.2 + 10) (l2 := X 2 - 1) (x := ((7 + wC x.2.1 : Nat) : Int)) (y := ((ca + wC r.2.2 + 3 : Nat) : Int) - (ca + wC r.2.2 + 10 + wC x.2.1 : Nat)) hX z10 (Or.inr rfl) np (n60_1 (by show (19 : Nat) ≠ 60; decide)) (by rw [wp, wm]; omega) h12 (by omega) (by omega) (by rw [hcc]; omega) l10' (fun i hi => by rw [hSb]; exact c81 i hi) (by rw [cp, cm]; omega)
      rw [hcc, wm, wp] at z13 n13
      have eJ : ((c + wR (qK β n) r.2.2 + 3 : Nat) : Int) - (c + wR (qK β n) r.2.2 + 11 + wR (qK β n) x.2.1 + 1 : Nat) = ((c + wR (qK β n) r.2.2 + 3 : Nat) : Int) - ((c + wR (qK β n) r.2.2 + 11 + wR (qK β n) x.2.1 : Nat) + 1) := by omega
      rw [eJ, show 3 + 4 + wR (qK β n) x.2.1 = 7 + wR (qK β n) x.2.1 by omega, show c + (wR (qK β n) r.2.2 + 5) + 4 + wR (qK β n) x.2.1 + 4 = c + wR (qK β n) r.2.2 + 11 + wR (qK β n) x.2.1 + 2 by omega] at z13 n13
      obtain ⟨J, hJ⟩ : ∃ J : Op, J = (4, [], ((ca + wC r.2.2 + 3 : Nat) : Int) - (ca + wC r.2.2 + 10 + wC x.2.1 : Nat), ((c + wR (qK β n) r.2.2 + 3 : Nat) : Int) - ((c + wR (qK β n) r.2.2 + 11 + wR (qK β n) x.2.1 : Nat) + 1)) := ⟨_, rfl⟩
      obtain ⟨U, hU⟩ : ∃ U : Op, U = (10, [], ((7 + wC x.2.1 : Nat) : Int), ((7 + wR (qK β n) x.2.1 : Nat) : Int)) := ⟨_, rfl⟩
      obtain ⟨bd, hbd⟩ : ∃ bd, bd = rsv (qK β n) (ca + wC r.2.2 + 10 + wC x.2.1 + 2) (c + wR (qK β n) r.2.2 + 11 + wR (qK β n) x.2.1 + 2) (ca + wC r.2.2 + 10) (c + wR (qK β n) r.2.2 + 11) x.2.1 := ⟨_, rfl⟩
      rw [← hJ, ← hU, ← hbd] at z13 n13
      have wbd : wR (qK β n) bd = wR (qK β n) x.2.1 := by rw [hbd]; exact (rsv_w x.2.1 _ _).2.1
      obtain ⟨nbd, tbd⟩ : nwN (qK β n) bd = nwN (qK β n) x.2.1 ∧ ntN (qK β n) bd = ntN (qK β n) x.2.1 := by rw [hbd]; exact rsv_nt _ _ _ x.2.1 _ _
      have wU : wR (qK β n) (pre ++ U :: ([(19, [k + 1, s], 0, 0)] ++ (bd ++ [J]))) = wR (qK β n) r.2.2 + 13 + wR (qK β n) x.2.1 := by
        rw [wR_app, wp]
        show _ + (lR (qK β n) U + wR (qK β n) ([(19, [k + 1, s], 0, 0)] ++ (bd ++ [J]))) = _
        rw [wR_app, wR_app, wm, wbd, wR1, hU, hJ]
        show wR (qK β n) r.2.2 + 5 + (2 + (4 + (wR (qK β n) x.2.1 + 2))) = _
        omega
      have nU : nwN (qK β n) (pre ++ U :: ([(19, [k + 1, s], 0, 0)] ++ (bd ++ [J]))) = nwN (qK β n) r.2.2 + nwN (qK β n) x.2.1 := by
        rw [nwN_app, nwp.1]
        show _ + (nwO (qK β n) U + nwN (qK β n) ([(19, [k + 1, s], 0, 0)] ++ (bd ++ [J]))) = _
        rw [nwN_app, nwN_app, nbd, hU, hJ]
        show nwN (qK β n) r.2.2 + (0 + (0 + (nwN (qK β n) x.2.1 + 0))) = _
        omega
      have tU : ntN (qK β n) (pre ++ U :: ([(19, [k + 1, s], 0, 0)] ++ (bd ++ [J]))) = ntN (qK β n) r.2.2 + ntN (qK β n) x.2.1 := by
        rw [ntN_app, nwp.2]
        show _ + (ntO (qK β n) U + ntN (qK β n) ([(19, [k + 1, s], 0, 0)] ++ (bd ++ [J]))) = _
        rw [ntN_app, ntN_app, tbd, hU, hJ]
        show ntN (qK β n) r.2.2 + (0 + (0 + (ntN (qK β n) x.2.1 + 0))) = _
        omega
      have hcH : c + wR (qK β n) (pre ++ U :: ([(19, [k + 1, s], 0, 0)] ++ (bd ++ [J]))) + 1 ≤ H := by
        rw [wU]
        omega
      obtain ⟨S14, hA14, z14, kx14⟩ := zO_1 (d := e + 5) (o := (11, [], 0, 0)) (x := nI 33) hX z13 hcH h12 rfl (by decide) (by decide) (by decide) rfl
      have zS := zO_pre z14 (S := S) (kX_kW kxc (by rw [hSb]; exact ⟨fun _ _ => rfl, fun _ _ => rfl, fun _ _ => ⟨rfl, rfl⟩⟩)) (kX_kA kxc)
      have hfin : (pre ++ U :: ([(19, [k + 1, s], 0, 0)] ++ (bd ++ [J]))) ++ [(11, [], 0, 0)] = r.2.2 ++ (9, [], 0, 0) :: (4, [], 4, 3) :: (2, [qL β n k], 0, 0) :: U :: (19, [k + 1, s], 0, 0) :: (bd ++ [J, (11, [], 0, 0)]) := by
        rw [hpre]
        simp only [List.append_assoc, List.cons_append, List.nil_append]
      have wF : wR (qK β n) ((pre ++ U :: ([(19, [k + 1, s], 0, 0)] ++ (bd ++ [J]))) ++ [(11, [], 0, 0)]) = wR (qK β n) r.2.2 + 14 + wR (qK β n) x.2.1 := by
        rw [wR_app, wU]
        show _ + 1 = _
        omega
      have nF : nwN (qK β n) ((pre ++ U :: ([(19, [k + 1, s], 0, 0)] ++ (bd ++ [J]))) ++ [(11, [], 0, 0)]) = nwN (qK β n) r.2.2 + nwN (qK β n) x.2.1 := by
        rw [nwN_app, nU]
        rfl
      have tF : ntN (qK β n) ((pre ++ U :: ([(19, [k + 1, s], 0, 0)] ++ (bd ++ [J]))) ++ [(11, [], 0, 0)]) = ntN (qK β n) r.2.2 + ntN (qK β n) x.2.1 := by
        rw [ntN_app, tU]
        rfl
      have n14 := n60_app.mpr ⟨n13, n60_1 (show ((11, [], 0, 0) : Op).1 ≠ 60 by decide)⟩
      rw [hfin] at zS wF nF tF n14
      have i107 : ∀ i, i ≠ 6115 → i ≠ 6116 → i ≠ 6131 → i ≠ 6132 → i ≠ 6126 → i ≠ 6130 → i < 10800 → sI S14 i = sI S10 i := fun i e1 e2 e3 e4 e5 e6 e7 => (kx14.1 i e7 e1 e2 e3 e4).trans (i13 i e5 e6 e7)
      have i17 : ∀ i, i ≠ 6115 → i ≠ 6116 → i ≠ 6131 → i ≠ 6132 → i ≠ 6126 → i < 10800 → sI S9 i = sI S i := fun i e1 e2 e3 e4 e5 e6 => (i9 i e5).trans (kx08.1 i e6 e1 e2 e3 e4)
      refine ⟨S14, nI 1, ml (zFo_1 (d := e + 1) (by omega) (by omega) h2 (by omega) nr3 (by omega) rfl nr4 nr1 (by rw [← hSb]; exact hw) ab (by omega) hAx hA3 hM0 hA4 m1 m3 m2 m4 (by omega) hA5 hA6 hM1 hA7 hA8 (by rw [eC2]; exact hA9) hA10 (by rw [eC2]; exact hA11) hA12 hA13 hA14), Or.inr ⟨(x.1, _, x.2.2.1, at'), ?_, rfl, ⟨zS, fun i hi => ?_, fun _ => ?_, (fun hz => by cases hz), fun i q hq => ?_, fun _ => n14, ?_, ?_, ?_, ?_, ?_, fun j j1 j2 => ?_, g13, fun _ => g14 (by omega), by show k ≤ x.1; omega, g16'⟩, ?_⟩⟩
      · show sb (ps (qK β n) (qL β n) (qI β n) E F 2 (dp + 1) ind s (some (ca + wC r.2.2 + 3, c + wR (qK β n) r.2.2 + 3, tr')) tr' (ca + wC r.2.2 + 10) (c + wR (qK β n) r.2.2 + 11) (scB E s (k + 1) sc) at' r.1) _ = _
        rw [hx, sb_r, hU, hJ, hbd]
      · by_cases e1 : i = 6126
        · rw [e1, c21]
          exact (kx14.1 6126 (by decide) (by decide) (by decide) (by decide) (by decide)).trans l13
        · have e2 : i < 10800 ∧ i ≠ 6130 ∧ i ≠ 6115 ∧ i ≠ 6116 ∧ i ≠ 6131 ∧ i ≠ 6132 := by
            simp only [List.mem_cons, List.not_mem_nil, or_false] at hi
            omega
          exact (i107 i e2.2.2.1 e2.2.2.2.1 e2.2.2.2.2.1 e2.2.2.2.2.2 e1 e2.2.1 e2.1).trans ((g2 i hi).trans (i17 i e2.2.2.1 e2.2.2.2.1 e2.2.2.2.2.1 e2.2.2.2.2.2 e1 e2.1))
      · exact (i107 6139 (by decide) (by decide) (by decide) (by decide) (by decide) (by decide) (by decide)).trans ((g3 rfl).trans (i17 6139 (by decide) (by decide) (by decide) (by decide) (by decide) (by decide)))
      · have hi2 := (List.getElem?_eq_some_iff.mp hq).1
        have hi3 : i < x.2.2.1.1.length - 1 := by
          have : i + 1 < x.2.2.1.1.length := hi2
          omega
        obtain ⟨a1, a2, a3, a4⟩ := g5 i q hq
        obtain ⟨b1, b2, b3, b4⟩ := d13 i hi3
        exact ⟨((congrFun kx14.2.2.1 i).trans b1).trans a1, ((congrFun kx14.2.2.2.1 i).trans b2).trans a2, ((congrFun kx14.2.2.2.2.1 i).trans b3).trans a3, ((congrFun kx14.2.2.2.2.2.1 i).trans b4).trans a4⟩
      · show wR (qK β n) _ + 13 * rem β n x.1 ≤ _
        rw [wF]
        omega
      · show nwN (qK β n) _ + rem β n x.1 ≤ _
        rw [nF]
        omega
      · show ntN (qK β n) _ + rem β n x.1 ≤ _
        rw [tF]
        omega
      · show x.2.2.1.1.length + rem β n x.1 ≤ _
        omega
      · show (zbk (qK β n) c _).length + qP β n k ≤ qP β n x.1
        rw [zbk_n _ _ _ n14]
        exact Nat.le_trans (Nat.le_of_eq (Nat.zero_add _)) hq2
      · rcases Nat.lt_or_ge r.1 j with e1 | e1
        · rcases Nat.lt_or_ge j (r.1 + 2) with e2 | e2
          · obtain rfl : j = r.1 + 1 := by omega
            exact ⟨by omega, by omega⟩
          · obtain ⟨a1, a2⟩ := g12 j e2 j2
            exact ⟨by omega, a2⟩
        · obtain ⟨a1, a2, _⟩ := hlt j j1 e1
          exact ⟨by omega, a1⟩
      · show wR (qK β n) _ + 2 + 13 * rem β n x.1 ≤ _
        rw [wF]
        omega
end
