/-! STATEMENTS OF THE REFERENCE: while -/
section
variable {β : Nat → Nat} {n : Nat} {E : Nat → Nat → Bool} {V : Nat → Int32} {T : Nat → Nat × Nat} {P : Nat → Int32 → Int32 × Int32} {own0 : Nat → Nat × Nat} {m u k1 : Nat} {S0 S S1 S2 : cS} {H B0 W d l c w t f f1 b j s : Nat} {X Y : Nat → Nat} {o1 o2 : List Op} {A A1 : Prop}
theorem z_whl {dp ind tr ca af k F D : Nat} {opn : Nat → Nat} {lp : LpT} {sc : SCs} {at' : List Nat} (hX : zX β n V own0 m k1 S0) (hB : ZB β n E V T own0 m u k1 S0 H B0 W F 0) (h : zIs β n E V T own0 m u k1 S0 H B0 W 0 opn dp ind s lp tr sc at' X af c w t b k S) (hK : qK β n k = 43) (hF : 4 * rem β n k ≤ F + 4) (hD : lvZ dp ≤ D + 1) : ∃ S1 v, Ans D 342 [.ref 61, .int (nI ind), .int (nI (qL β n k))] S (some (.int v)) S1 ∧ zOs β n E V T own0 m u k1 S0 H B0 W 0 opn (dp + 1) ind lp sc at' X af S c w t b k (psWh (qK β n) (qL β n) (ps (qK β n) (qL β n) (qI β n) E F) dp ind s tr ca c sc at' k) v S1 := by
  obtain ⟨h0, ⟨r1, r2, r3, r4⟩, hls, hK1, hI, hx1, hx2, hx3⟩ := h
  obtain ⟨h1, h2, h3, h4, h5, h6, h7, h8, h9, h10, h11, h12, h13⟩ := id h0
  obtain ⟨⟨c01, c02, c03, c04, c05⟩, ⟨c11, c12⟩, ⟨c21, c22, c23⟩, ⟨tr', c31, c32, c33⟩, c4, c5, ⟨c61, c62⟩, ⟨c71, c72, c73, c74⟩, ⟨c81, c82⟩, c9, c10⟩ := id h4
  obtain rfl := c33 rfl
  have hk1 := hX.2.1
  have hn3 := hX.1
  have hLM := qL_lt (k := k) hX
  have hiM := k_i (k := k) hX
  have hlv : lvZ dp = 260 + 4 * (12 - dp) := rfl
  obtain ⟨e, rfl⟩ : ∃ e, D = e + 10 := ⟨D - 10, by omega⟩
  have hk2 := q_end hX h7 hK1
  obtain ⟨q1, q2, q3, q4⟩ := rm_gt (β := β) (n := n) (k := k) (by omega)
  obtain ⟨q5, q6⟩ := rem_ge hK1
  obtain ⟨q7, q8⟩ := rem_ge q4
  have hEa := zE_wI (i := 6115) (x := nI (k + 1)) h1 (by decide)
  have z0 : zO β n V (zPT (qK β n) (qI β n) V T) (agT T sc.1) own0 m u S0 H B0 X (X 2) (wI 6115 (nI (k + 1)) S) c w t (sc.1.length - 1) b (k + 1) [] (sc.1.length - 1) (wI 6115 (nI (k + 1)) S) := zO_nil hEa (rIe _ _ _) ((rIn _ _ (by decide)).trans h3)
  have kxa : kX m S (wI 6115 (nI (k + 1)) S) := kX_wI (Or.inl rfl)
  obtain ⟨S1, hA1, z1, kx1⟩ := zO_hole (d := e + 4) (o := (4, [], 4, 0)) (x := nI 11) hX z0 (by show c + 0 + 2 ≤ H; omega) h12 rfl (by decide) (by decide) (by decide) rfl
  obtain ⟨m1, m2, m3, m4, -⟩ := zE_m z1.1
  obtain ⟨S2, hA2, z2, kx2⟩ := zO_2 (d := e + 5) (o := (2, [qL β n k], 0, 0)) (x := nI 0) (y := nI (qL β n k)) hX z1 (by show c + 2 + 2 ≤ H; omega) h12 rfl (by show (2 : Nat) ≠ 16; decide) (by show (2 : Nat) ≠ 60; decide) (by show (2 : Nat) ≠ 23; decide) rfl
  obtain ⟨S3, hA3, z3, kx3, hi3⟩ := zO_fill (d := e + 8) (o1 := []) (o := (4, [], 4, 0)) (o2 := [(2, [qL β n k], 0, 0)]) (x := 4) hX z2 h12 (by show (4 : Nat) ∈ _; decide)
  have z3' : zO β n V (zPT (qK β n) (qI β n) V T) (agT T sc.1) own0 m u S0 H B0 X (X 2) (wI 6115 (nI (k + 1)) S) c w t (sc.1.length - 1) b (k + 1) [(4, [], 4, 3), (2, [qL β n k], 0, 0)] (sc.1.length - 1) S3 := z3
  have kx03 := kX_trans kxa (kX_trans kx1 (kX_trans kx2 kx3))
  have hE3 : zE own0 m u S0 H B0 (c + 4) w t (sc.1.length - 1) b S3 := z3.1
  obtain ⟨S4, v4, hA4, x1, x2⟩ := zIs_x (q := k + 1) (D := e + 9) hX h0 kx03 hE3 z3.2.1 z3.2.2.1 hk2 (by omega) (by omega) (by omega) (by omega)
  have hPs : psWh (qK β n) (qL β n) (ps (qK β n) (qL β n) (qI β n) E F) dp ind s tr' ca c sc at' k = pb (qL β n k) (exs (qK β n) s (k + 1)) _ := rfl
  have ml : ∀ {v' : Int32} {Sf : cS}, Bod (e + 9) 342 0 [(0, .ref 61), (1, .int (nI ind)), (2, .int (nI (qL β n k)))] [] S (some (.int v')) Sf → Ans (e + 10) 342 [.ref 61, .int (nI ind), .int (nI (qL β n k))] S (some (.int v')) Sf := fun p => Ans.of (by rw [ml_342]; exact Nat.le_of_ble_eq_true rfl) p
  have hm4 : sI S1 (100 * m + 1) = nI (c + 2) := m4
  cases hex : exs (qK β n) s (k + 1) with
  | none =>
    obtain ⟨v0, b0⟩ := x1 hex
    rw [v0] at hA4
    rw [hPs, hex]
    exact ⟨S4, nI 0, ml (zWh_3 (d := e + 1) (by omega) (by omega) h2 (by omega) (show c + 0 + 1 < 2 ^ 20 by omega) hA1 m1 m3 m2 hm4 (by omega) hA2 hA3 hA4), Or.inl ⟨_, zB_in (show fl β n (k + 1) = flq (qL β n k) by rw [← q3]; rfl), rfl, b0⟩⟩
  | some r =>
    obtain ⟨v1, g4, kx4, n60r, -, -⟩ := x2 r hex
    rw [v1] at hA4
    rw [hPs, hex]
    obtain ⟨y1, y2, y3, y4, y5⟩ := exs_3 hex
    have hrr := rm_run (β := β) (n := n) (k := k + 1) (k1 := r.1) (by omega) y1
    have hlt := ln_tk (k := k) (r := r.1) hK1 (fun q a1 a2 => by
      rcases Nat.lt_or_ge k q with e1 | e1
      · exact y1 q (by omega) a2
      · obtain rfl : q = k := by omega
        omega)
    have z4 := zO_app (Y := X) z3' (g4 X (X 2)) (fun _ => Nat.le_refl _) id
    have hrk : r.1 ≤ k1 := by
      rcases Nat.lt_or_ge k1 r.1 with e1 | e1
      · have := y1 k1 (by omega) e1
        have := hX.2.2.1
        omega
      · exact e1
    obtain ⟨t1, t2, t3⟩ := hlt r.1 (by omega) (Nat.le_refl _)
    obtain ⟨q9, q10⟩ := rem_ge t1
    have eW4 : wR (qK β n) ([(4, [], 4, 3), (2, [qL β n k], 0, 0)] ++ r.2.2) = 4 + wR (qK β n) r.2.2 := wR_app _ _ _
    obtain ⟨S5, hA5, z5, kx5⟩ := zO_hole (d := e + 4) (o := (5, [], 0, 0)) (x := nI 12) hX z4 (by rw [eW4]; omega) h12 rfl (by decide) (by decide) (by decide) rfl
    have kx05 := kX_trans kx03 (kX_trans kx4 kx5)
    have eW5 : wR (qK β n) (([(4, [], 4, 3), (2, [qL β n k], 0, 0)] ++ r.2.2) ++ [(5, [], 0, 0)]) = 6 + wR (qK β n) r.2.2 := by
      rw [wR_app, eW4]
      show 4 + wR (qK β n) r.2.2 + 2 = _
      omega
    have eN5 : nwN (qK β n) (([(4, [], 4, 3), (2, [qL β n k], 0, 0)] ++ r.2.2) ++ [(5, [], 0, 0)]) = nwN (qK β n) r.2.2 := by
      rw [nwN_app, nwN_app]
      show 0 + nwN (qK β n) r.2.2 + 0 = _
      omega
    have eT5 : ntN (qK β n) (([(4, [], 4, 3), (2, [qL β n k], 0, 0)] ++ r.2.2) ++ [(5, [], 0, 0)]) = ntN (qK β n) r.2.2 := by
      rw [ntN_app, ntN_app]
      show 0 + ntN (qK β n) r.2.2 + 0 = _
      omega
    have n5 : n60 (([(4, [], 4, 3), (2, [qL β n k], 0, 0)] ++ r.2.2) ++ [(5, [], 0, 0)]) := by
      refine n60_app.mpr ⟨n60_app.mpr ⟨fun o ho => ?_, n60r⟩, n60_1 (by show (5 : Nat) ≠ 60; decide)⟩
      rcases List.mem_cons.mp ho with e1 | e1
      · rw [e1]; show (4 : Nat) ≠ 60; decide
      · rw [List.mem_singleton.mp e1]; show (2 : Nat) ≠ 60; decide
    have hE5 := z5.1
    rw [eW5, eN5, eT5, zbk_n _ _ _ n5] at hE5
    have hI5 := zI0_X (k' := r.1) (sc' := sc) (c' := c + (6 + wR (qK β n) r.2.2)) h0 kx05 hE5 z5.2.1 z5.2.2.1 (by omega) (by omega) (by omega) (by omega) hrk hK1 hI (fun j j1 j2 => by
      obtain ⟨a1, a2, a3⟩ := hlt j j1 j2
      exact ⟨a1, by omega⟩) rfl (scL_refl E sc) (Or.inl rfl) (Or.inr (by omega))
    have htr5 : sI S5 6127 = nI tr' := (kx05.1 6127 (by decide) (by decide) (by decide) (by decide) (by decide)).trans c31
    have hL5 : sI S5 6126 = nI (X 2) := (kx05.1 6126 (by decide) (by decide) (by decide) (by decide) (by decide)).trans c21
    obtain ⟨S6, hS6⟩ : ∃ S6, S6 = wI 6126 (nI (X 2 + 1)) (wA 78 (X 2) (nI tr') (wA 77 (X 2) (nI (c + 2)) S5)) := ⟨_, rfl⟩
    have hA6 := z_begin (d := e) (x := nI (c + 2)) hL5 htr5 (by omega) (by omega)
    rw [← hS6] at hA6
    obtain ⟨hI6, kw6, ka6, i6, l6⟩ := zI0_loop (ca := ca + 2) (on := c + 2) hI5 (by omega) hx2 htr5 hS6
    have hz13 : qK β n r.1 = 13 → qK β n (r.1 + 1) = 2 → zRm β n H W (r.1 + 2) (c + (6 + wR (qK β n) r.2.2)) (w + nwN (qK β n) r.2.2) (t + ntN (qK β n) r.2.2) (sc.1.length - 1) := fun e1 e2 => by
      obtain ⟨p1, p2, p3, p4⟩ := rm_gt (β := β) (n := n) (k := r.1) (by omega)
      have p5 : rem β n (r.1 + 2) + 1 ≤ rm β n (r.1 + 1) := rm_nl (β := β) (n := n) (j := r.1 + 1) e2
      exact ⟨by omega, by omega, by omega, by omega, h12, h13⟩
    obtain ⟨S7, v7, hA7, hO7⟩ := hB opn dp ind s (some (ca + 2, c + 2, tr')) tr' (ca + 4 + wC r.2.2 + 2) sc at' (upL (X 2 + 1) X) af (c + (6 + wR (qK β n) r.2.2)) _ _ b r.1 S6 (e + 9) hI6 t1 (t2.trans hI) (by omega) hz13 (by omega)
    have eC : c + (6 + wR (qK β n) r.2.2) = c + 4 + wR (qK β n) r.2.2 + 2 := by omega
    rw [eC] at hO7
    have hM1 : c + wR (qK β n) ([(4, [], 4, 3), (2, [qL β n k], 0, 0)] ++ r.2.2) + 1 < 2 ^ 20 := by rw [eW4]; omega
    rcases hO7 with ⟨l, hb, hv, hzB⟩ | ⟨x, hx, hv, x13, x2', xI, xlt, hG⟩
    · rw [hv] at hA7
      refine ⟨S7, nI 0, ml (zWh_2 (d := e + 1) (by omega) (by omega) h2 (by omega) (show c + 0 + 1 < 2 ^ 20 by omega) hA1 m1 m3 m2 hm4 (by omega) hA2 hA3 hA4 hM1 hA5 hA6 hA7), Or.inl ⟨l, ?_, rfl, hzB⟩⟩
      show zBd β n opn (dp + 1) (sb (ps (qK β n) (qL β n) (qI β n) E F 2 (dp + 1) ind s (some (ca + 2, c + 2, tr')) tr' (ca + 4 + wC r.2.2 + 2) (c + 4 + wR (qK β n) r.2.2 + 2) sc at' r.1) _) l
      rcases hb with ⟨q, hq, hl⟩ | ⟨x, hx, e1, e3, hl⟩
      · rw [show bmZ 0 = 2 from rfl] at hq
        rw [hq]
        exact Or.inl ⟨q, rfl, hl⟩
      · rw [show bmZ 0 = 2 from rfl] at hx
        rw [hx]
        exact Or.inr ⟨_, rfl, e1, e3, hl⟩
    · rw [hv] at hA7
      rw [show bmZ 0 = 2 from rfl] at hx
      obtain ⟨g1, g2, g3, -, g5, g6, g7, g8, g9, g10, g11, g12, g13, g14, g15, g16⟩ := hG
      have hlen : sc.1.length ≤ x.2.2.1.1.length := by
        obtain ⟨⟨l0, hl0⟩, _⟩ := g16
        rw [hl0, List.length_append]
        omega
      have z6 := zO_ext z5 (S2 := S6) (by rw [eW5, eN5, eT5, zbk_n _ _ _ n5]; exact hI6.1) (i6 _ (by decide)) (i6 _ (by decide)) (kw6 _ _ _ _ _) ka6
      have hc6 : c + wR (qK β n) (([(4, [], 4, 3), (2, [qL β n k], 0, 0)] ++ r.2.2) ++ [(5, [], 0, 0)]) = c + 4 + wR (qK β n) r.2.2 + 2 := by rw [eW5]; omega
      have z7 := zO_app (Y := upL (X 2 + 1) X) z6 (by rw [hc6, eN5, eT5, zbk_n _ _ _ n5]; exact g1) (fun i => by
        show X i ≤ if i = 2 then X 2 + 1 else X i
        split
        · rename_i e1
          rw [e1]
          omega
        · exact Nat.le_refl _) (agT_L g16)
      have eW7 : wR (qK β n) ((([(4, [], 4, 3), (2, [qL β n k], 0, 0)] ++ r.2.2) ++ [(5, [], 0, 0)]) ++ x.2.1) = 6 + wR (qK β n) r.2.2 + wR (qK β n) x.2.1 := by rw [wR_app, eW5]
      obtain ⟨p1, p2, p3, p4⟩ := rm_gt (β := β) (n := n) (k := r.1) (by omega)
      have p5 : rem β n (r.1 + 2) + 1 ≤ rm β n (r.1 + 1) := rm_nl (β := β) (n := n) (j := r.1 + 1) x2'
      obtain ⟨S8, hA8, z8, hi8, kx8⟩ := zO_jump (d := e) (z := c + 2) hX z7 (by rw [eW7]; omega) h12 (by omega) (((ca + 2 : Nat) : Int) - (ca + 4 + wC r.2.2 + 2 + wC x.2.1 : Nat))
      have el : ((([(4, [], 4, 3), (2, [qL β n k], 0, 0)] ++ r.2.2) ++ [(5, [], 0, 0)]) ++ x.2.1) ++ [(4, [], ((ca + 2 : Nat) : Int) - (ca + 4 + wC r.2.2 + 2 + wC x.2.1 : Nat), ((c + 2 : Nat) : Int) - (c + wR (qK β n) ((([(4, [], 4, 3), (2, [qL β n k], 0, 0)] ++ r.2.2) ++ [(5, [], 0, 0)]) ++ x.2.1) + 1 : Nat))] = ([(4, [], 4, 3), (2, [qL β n k], 0, 0)] ++ r.2.2) ++ (5, [], 0, 0) :: (x.2.1 ++ [(4, [], ((ca + 2 : Nat) : Int) - (ca + 4 + wC r.2.2 + 2 + wC x.2.1 : Nat), ((c + 2 : Nat) : Int) - ((c + 4 + wR (qK β n) r.2.2 + 2 + wR (qK β n) x.2.1 : Nat) + 1))]) := by
        rw [eW7, show ((c + (6 + wR (qK β n) r.2.2 + wR (qK β n) x.2.1) + 1 : Nat) : Int) = ((c + 4 + wR (qK β n) r.2.2 + 2 + wR (qK β n) x.2.1 : Nat) : Int) + 1 by omega]
        simp only [List.append_assoc, List.cons_append, List.nil_append]
      rw [el] at z8
      obtain ⟨S9, hA9, z9, kx9, hi9⟩ := zO_fill (d := e + 8) (x := ((4 + wC x.2.1 : Nat) : Int)) hX z8 h12 (by show (5 : Nat) ∈ _; decide)
      have eWj : wR (qK β n) (x.2.1 ++ [(4, [], ((ca + 2 : Nat) : Int) - (ca + 4 + wC r.2.2 + 2 + wC x.2.1 : Nat), ((c + 2 : Nat) : Int) - ((c + 4 + wR (qK β n) r.2.2 + 2 + wR (qK β n) x.2.1 : Nat) + 1))]) = wR (qK β n) x.2.1 + 2 := by rw [wR_app]; rfl
      have v9 : ((1 + wR (qK β n) (x.2.1 ++ [(4, [], ((ca + 2 : Nat) : Int) - (ca + 4 + wC r.2.2 + 2 + wC x.2.1 : Nat), ((c + 2 : Nat) : Int) - ((c + 4 + wR (qK β n) r.2.2 + 2 + wR (qK β n) x.2.1 : Nat) + 1))]) : Nat) : Int) = ((3 + wR (qK β n) x.2.1 : Nat) : Int) := by rw [eWj]; omega
      rw [v9] at z9
      obtain ⟨J, hJ⟩ : ∃ J : Op, J = (4, [], ((ca + 2 : Nat) : Int) - (ca + 4 + wC r.2.2 + 2 + wC x.2.1 : Nat), ((c + 2 : Nat) : Int) - ((c + 4 + wR (qK β n) r.2.2 + 2 + wR (qK β n) x.2.1 : Nat) + 1)) := ⟨_, rfl⟩
      have hJ4 : J.1 = 4 := by rw [hJ]
      rw [← hJ] at z9 eWj
      obtain ⟨U, hU⟩ : ∃ U : Op, U = (5, [], ((4 + wC x.2.1 : Nat) : Int), ((3 + wR (qK β n) x.2.1 : Nat) : Int)) := ⟨_, rfl⟩
      have hU5 : U.1 = 5 := by rw [hU]
      have z9' : zO β n V (zPT (qK β n) (qI β n) V T) (agT T x.2.2.1.1) own0 m u S0 H B0 X (X 2) (wI 6115 (nI (k + 1)) S) c w t (sc.1.length - 1) b x.1 (([(4, [], 4, 3), (2, [qL β n k], 0, 0)] ++ r.2.2) ++ U :: (x.2.1 ++ [J])) (x.2.2.1.1.length - 1) S9 := by rw [hU]; exact z9
      have eLL : ([(4, [], 4, 3), (2, [qL β n k], 0, 0)] ++ r.2.2) ++ U :: (x.2.1 ++ [J]) = (([(4, [], 4, 3), (2, [qL β n k], 0, 0)] ++ r.2.2) ++ [U]) ++ (x.2.1 ++ [J]) := by simp only [List.append_assoc, List.cons_append, List.nil_append]
      have n9 : n60 (([(4, [], 4, 3), (2, [qL β n k], 0, 0)] ++ r.2.2) ++ [U]) := n60_app.mpr ⟨(n60_app.mp n5).1, n60_1 (by rw [hU5]; decide)⟩
      have nJ : n60 [J] := n60_1 (by rw [hJ4]; decide)
      have eWU : wR (qK β n) (([(4, [], 4, 3), (2, [qL β n k], 0, 0)] ++ r.2.2) ++ [U]) = 6 + wR (qK β n) r.2.2 := by
        rw [wR_app, eW4, hU]
        show 4 + wR (qK β n) r.2.2 + 2 = _
        omega
      have eCU : wC (([(4, [], 4, 3), (2, [qL β n k], 0, 0)] ++ r.2.2) ++ [U]) = 6 + wC r.2.2 := by
        rw [wC_app, wC_app, hU]
        show 4 + wC r.2.2 + 2 = _
        omega
      have eZ : (zbk (qK β n) c (([(4, [], 4, 3), (2, [qL β n k], 0, 0)] ++ r.2.2) ++ U :: (x.2.1 ++ [J]))).length = (zbk (qK β n) (c + 4 + wR (qK β n) r.2.2 + 2) x.2.1).length := by
        rw [eLL, zbk_app, zbk_n _ _ _ n9, zbk_app, zbk_n _ [J] _ nJ, eWU, show c + (6 + wR (qK β n) r.2.2) = c + 4 + wR (qK β n) r.2.2 + 2 by omega]
        simp only [List.nil_append, List.append_nil]
      have eWt : wR (qK β n) (([(4, [], 4, 3), (2, [qL β n k], 0, 0)] ++ r.2.2) ++ U :: (x.2.1 ++ [J])) = 8 + wR (qK β n) r.2.2 + wR (qK β n) x.2.1 := by
        rw [eLL, wR_app, eWU, eWj]
        omega
      have hq1 := qP_le (β := β) (n := n) (show k + 1 ≤ r.1 + 2 by omega)
      have hq2 := qP_le (β := β) (n := n) (show k ≤ x.1 by omega)
      have hqx := (q_lt β n x.1).1
      have hqk : qP β n k + 1 ≤ qP β n (k + 1) := by
        have a1 := (q_lt β n k).1
        have a2 := (q_lt β n (k + 1)).1
        unfold rm at q1
        omega
      have l9 : sI S9 6126 = nI (X 2 + 1) := (hi9 _).trans ((hi8 _ (by omega)).trans ((g2 6126 (by decide)).trans l6))
      obtain ⟨S10, hA10, z10, l10, i10, d10, a10⟩ := zO_end (d := e) (ce := ca + 4 + wC r.2.2 + 2 + wC x.2.1 + 2) (cc := ca) (l2 := X 2 - 1) hX z9' h12 (by omega) (by rw [eZ]; omega) l9 c81
      have eF : rsv (qK β n) (ca + 4 + wC r.2.2 + 2 + wC x.2.1 + 2) (c + wR (qK β n) (([(4, [], 4, 3), (2, [qL β n k], 0, 0)] ++ r.2.2) ++ U :: (x.2.1 ++ [J]))) ca c (([(4, [], 4, 3), (2, [qL β n k], 0, 0)] ++ r.2.2) ++ U :: (x.2.1 ++ [J])) = (4, [], 4, 3) :: (2, [qL β n k], 0, 0) :: (r.2.2 ++ U :: (rsv (qK β n) (ca + 4 + wC r.2.2 + 2 + wC x.2.1 + 2) (c + 4 + wR (qK β n) r.2.2 + 2 + wR (qK β n) x.2.1 + 2) (ca + 4 + wC r.2.2 + 2) (c + 4 + wR (qK β n) r.2.2 + 2) x.2.1 ++ [J])) := by
        rw [eWt, eLL, rsv_app, rsv_n _ _ _ _ _ _ n9, rsv_app, rsv_n _ _ _ [J] _ _ nJ, eWU, eCU, show c + (8 + wR (qK β n) r.2.2 + wR (qK β n) x.2.1) = c + 4 + wR (qK β n) r.2.2 + 2 + wR (qK β n) x.2.1 + 2 by omega, show ca + (6 + wC r.2.2) = ca + 4 + wC r.2.2 + 2 by omega, show c + (6 + wR (qK β n) r.2.2) = c + 4 + wR (qK β n) r.2.2 + 2 by omega]
        simp only [List.append_assoc, List.cons_append, List.nil_append]
      have eWf := (rsv_w (K := qK β n) (ce := ca + 4 + wC r.2.2 + 2 + wC x.2.1 + 2) (re := c + wR (qK β n) (([(4, [], 4, 3), (2, [qL β n k], 0, 0)] ++ r.2.2) ++ U :: (x.2.1 ++ [J]))) (([(4, [], 4, 3), (2, [qL β n k], 0, 0)] ++ r.2.2) ++ U :: (x.2.1 ++ [J])) ca c).2.1
      have n10 := rsv_60 (qK β n) (ca + 4 + wC r.2.2 + 2 + wC x.2.1 + 2) (c + wR (qK β n) (([(4, [], 4, 3), (2, [qL β n k], 0, 0)] ++ r.2.2) ++ U :: (x.2.1 ++ [J]))) (([(4, [], 4, 3), (2, [qL β n k], 0, 0)] ++ r.2.2) ++ U :: (x.2.1 ++ [J])) ca c
      obtain ⟨nw10, nt10⟩ := rsv_nt (qK β n) (ca + 4 + wC r.2.2 + 2 + wC x.2.1 + 2) (c + wR (qK β n) (([(4, [], 4, 3), (2, [qL β n k], 0, 0)] ++ r.2.2) ++ U :: (x.2.1 ++ [J]))) (([(4, [], 4, 3), (2, [qL β n k], 0, 0)] ++ r.2.2) ++ U :: (x.2.1 ++ [J])) ca c
      have nwt : nwN (qK β n) (([(4, [], 4, 3), (2, [qL β n k], 0, 0)] ++ r.2.2) ++ U :: (x.2.1 ++ [J])) = nwN (qK β n) r.2.2 + nwN (qK β n) x.2.1 := by
        rw [eLL, nwN_app, nwN_app, nwN_app, nwN_app, hU, hJ]
        show 0 + nwN (qK β n) r.2.2 + 0 + (nwN (qK β n) x.2.1 + 0) = _
        omega
      have ntt : ntN (qK β n) (([(4, [], 4, 3), (2, [qL β n k], 0, 0)] ++ r.2.2) ++ U :: (x.2.1 ++ [J])) = ntN (qK β n) r.2.2 + ntN (qK β n) x.2.1 := by
        rw [eLL, ntN_app, ntN_app, ntN_app, ntN_app, hU, hJ]
        show 0 + ntN (qK β n) r.2.2 + 0 + (ntN (qK β n) x.2.1 + 0) = _
        omega
      rw [nwt] at nw10
      rw [ntt] at nt10
      rw [eF] at z10 eWf n10 nw10 nt10
      rw [eWt] at eWf
      have hE9 := zE_g z9.1
      have zS : zO β n V (zPT (qK β n) (qI β n) V T) (agT T x.2.2.1.1) own0 m u S0 H B0 X (X 2 - 1) S c w t (sc.1.length - 1) b x.1 _ (x.2.2.1.1.length - 1) S10 := zO_pre z10 (kW_wI (i := 6115) (x := nI (k + 1)) c w t (sc.1.length - 1) b) kA_wI
      have i107 : ∀ i, i ≠ 6126 → i ≠ 6130 → i < 10800 → sI S10 i = sI S7 i := fun i e1 e2 e3 => (i10 i e1 e2 e3).trans ((hi9 i).trans (hi8 i (by omega)))
      have i17 : ∀ i, i ≠ 6115 → i ≠ 6116 → i ≠ 6131 → i ≠ 6132 → i ≠ 6126 → i < 10800 → sI S6 i = sI S i := fun i e1 e2 e3 e4 e5 e6 => (i6 i e5).trans (kx05.1 i e6 e1 e2 e3 e4)
      refine ⟨S10, nI 1, ml (zWh_1 (d := e + 1) (by omega) (by omega) h2 (by omega) (show c + 0 + 1 < 2 ^ 20 by omega) hA1 m1 m3 m2 hm4 (by omega) hA2 hA3 hA4 hM1 hA5 hA6 hA7 hA8 hA9 hA10), Or.inr ⟨(x.1, _, x.2.2.1, at'), ?_, rfl, ⟨zS, fun i hi => ?_, fun _ => ?_, (fun hz => by cases hz), fun i q hq => ?_, fun _ => n10, ?_, ?_, ?_, ?_, ?_, fun j j1 j2 => ?_, g13, fun _ => g14 (by omega), by show k ≤ x.1; omega, g16⟩, ?_⟩⟩
      · show sb (ps (qK β n) (qL β n) (qI β n) E F 2 (dp + 1) ind s (some (ca + 2, c + 2, tr')) tr' (ca + 4 + wC r.2.2 + 2) (c + 4 + wR (qK β n) r.2.2 + 2) sc at' r.1) _ = _
        rw [hx, sb_r, hU, hJ]
      · by_cases e1 : i = 6126
        · rw [e1, l10, c21]
        · have e2 : i < 10800 ∧ i ≠ 6130 ∧ i ≠ 6115 ∧ i ≠ 6116 ∧ i ≠ 6131 ∧ i ≠ 6132 := by
            simp only [List.mem_cons, List.not_mem_nil, or_false] at hi
            omega
          exact (i107 i e1 e2.2.1 e2.1).trans ((g2 i hi).trans (i17 i e2.2.2.1 e2.2.2.2.1 e2.2.2.2.2.1 e2.2.2.2.2.2 e1 e2.1))
      · exact (i107 6139 (by decide) (by decide) (by decide)).trans ((g3 rfl).trans (i17 6139 (by decide) (by decide) (by decide) (by decide) (by decide) (by decide)))
      · have hi2 := (List.getElem?_eq_some_iff.mp hq).1
        have hi3 : i < x.2.2.1.1.length - 1 := by
          have : i + 1 < x.2.2.1.1.length := hi2
          omega
        obtain ⟨a1, a2, a3, a4⟩ := g5 i q hq
        obtain ⟨b1, b2, b3, b4⟩ := d10 i hi3
        exact ⟨(b1.trans ((congrFun kx9.2.2.1 i).trans (congrFun kx8.2.2.1 i))).trans a1, (b2.trans ((congrFun kx9.2.2.2.1 i).trans (congrFun kx8.2.2.2.1 i))).trans a2, (b3.trans ((congrFun kx9.2.2.2.2.1 i).trans (congrFun kx8.2.2.2.2.1 i))).trans a3, (b4.trans ((congrFun kx9.2.2.2.2.2.1 i).trans (congrFun kx8.2.2.2.2.2.1 i))).trans a4⟩
      · show wR (qK β n) _ + 13 * rem β n x.1 ≤ _
        rw [eWf]
        omega
      · show nwN (qK β n) _ + rem β n x.1 ≤ _
        rw [nw10]
        omega
      · show ntN (qK β n) _ + rem β n x.1 ≤ _
        rw [nt10]
        omega
      · show x.2.2.1.1.length + rem β n x.1 ≤ _
        omega
      · show (zbk (qK β n) c _).length + qP β n k ≤ qP β n x.1
        rw [zbk_n _ _ _ n10]
        exact Nat.le_trans (Nat.le_of_eq (Nat.zero_add _)) hq2
      · rcases Nat.lt_or_ge r.1 j with e1 | e1
        · rcases Nat.lt_or_ge j (r.1 + 2) with e2 | e2
          · obtain rfl : j = r.1 + 1 := by omega
            exact ⟨by omega, by omega⟩
          · obtain ⟨a1, a2⟩ := g12 j e2 j2
            exact ⟨by omega, a2⟩
        · obtain ⟨a1, a2, _⟩ := hlt j j1 e1
          exact ⟨by omega, a1⟩
      · show wR (qK β n) _ + 2 + 13 * rem β n x.1 ≤ _
        rw [eWf]
        omega
end
