/-! STATEMENTS OF THE REFERENCE: class, whole (346) -/
theorem dc_187_9 : decode (sm_cc 187) 9 = .ok (.iload_n 1, 1) := by decide +kernel
theorem min_b {d : Nat} {S : cS} {a : Nat} {b : Nat} (h : b < a) (hb : a < 2 ^ 31) : Ans (d + 1) 187 [.int (nI a), .int (nI b)] S (some (.int (nI b))) (S) := by
  refine Ans.of (by rw [ml_187]; exact Nat.le_of_ble_eq_true rfl) ?_
  refine Bod.go dc_187_0 rfl ?_
  refine Bod.go dc_187_1 rfl ?_
  refine Bod.icT dc_187_2 rfl (k2_gt_T a b rfl rfl (by omega) (by omega)) ?_
  refine Bod.go dc_187_9 rfl ?_
  exact Bod.retI dc_187_10 rt_187
theorem min_ab {d : Nat} {S : cS} {b : Nat} (hb : b < 2 ^ 30) : Ans (d + 1) 187 [.int (nI 40), .int (nI b)] S (some (.int (nI (min b 40)))) (S) := by
  rcases Nat.lt_or_ge b 40 with h | h
  · rw [Nat.min_eq_left (by omega)]
    exact min_b h (by omega)
  · rw [Nat.min_eq_right h]
    exact min_a h (by omega)
section
variable {β : Nat → Nat} {n : Nat} {E : Nat → Nat → Bool} {V : Nat → Int32} {T : Nat → Nat × Nat} {P : Nat → Int32 → Int32 × Int32} {A : Prop} {own0 : Nat → Nat × Nat} {m u k1 : Nat} {S0 S S1 S2 : cS} {H B0 W d c w t f b f1 j l s : Nat} {X : Nat → Nat} {o1 os2 : List Op}
/-- the context of a class's block -/
theorem zI0_cl {dp ind tr af k q : Nat} {opn : Nat → Nat} {lp : LpT} {sc : SCs} {at' : List Nat} {Sq : cS} (hX : zX β n V own0 m k1 S0) (h0 : zI0 β n E V T own0 m u k1 S0 H B0 W 0 opn dp ind s lp tr sc at' X af c w t b k S) (hI : qI β n k = ind) (hK : qK β n k = 47) (hkq : k ≤ q) (htk : ∀ j, k ≤ j → j < q → 3 ≤ qK β n j) (hSq : Sq = wI 6140 (nI (X 6)) (wI 6115 (nI q) S)) : zI0 β n E V T own0 m u k1 S0 H B0 W 1 opn dp ind s none 0 sc [] X (X 6) c w t b q Sq := by
  obtain ⟨h1, h2, h3, h4, h5, h6, h7, h8, h9, h10, h11, h12, h13⟩ := h0
  obtain ⟨c0, c1, ⟨c21, c22, c23⟩, ⟨tr', c31, c32, c33⟩, c4, c5, ⟨c61, c62⟩, ⟨c71, c72, c73, c74⟩, ⟨c81, c82⟩, c9, c10⟩ := h4
  have hqk := qP_le (β := β) (n := n) hkq
  have hqk1 := r_k1 hX h7 htk
  have eI : ∀ i, i ≠ 6115 → i ≠ 6140 → sI Sq i = sI S i := fun i i1 i2 => by rw [hSq, rIn _ _ i2, rIn _ _ i1]
  have eA : ∀ a, sA Sq a = sA S a := fun a => by rw [hSq]; rfl
  have eQ : sI Sq 6115 = nI q := by rw [hSq, rIn _ _ (by decide)]; exact rIe _ _ _
  have kq : kF S Sq := by rw [hSq]; exact kF_trans kF_wI kF_wI
  obtain ⟨k1', k2, k3, k4⟩ := kF_all h1 kq
  refine ⟨by rw [hSq]; exact zE_wI (zE_wI h1 (by decide)) (by decide), eQ, (eI _ (by decide) (by decide)).trans h3, ⟨⟨c0.1, (eI _ (by decide) (by decide)).trans c0.2.1, c0.2.2.1, c0.2.2.2.1, fun i hi => by rw [eA]; exact c0.2.2.2.2 i hi⟩, ⟨(eI _ (by decide) (by decide)).trans c1.1, c1.2⟩, ⟨(eI _ (by decide) (by decide)).trans c21, c22, (fun q => by cases q)⟩, ⟨tr', (eI _ (by decide) (by decide)).trans c31, c32, (fun q => by cases q)⟩, (eI _ (by decide) (by decide)).trans c4, (eI _ (by decide) (by decide)).trans c5, ⟨(eI _ (by decide) (by decide)).trans c61, by omega⟩, ⟨(eI _ (by decide) (by decide)).trans c71, by omega, by rw [hSq]; exact rIe _ _ _, Nat.le_refl _⟩, ⟨fun i hi => by rw [k3, k4]; exact c81 i hi, by omega⟩, ?_, c10⟩, zDf_E h5 k2, h6, hqk1, fun _ => ⟨rfl, rfl, (eI _ (by decide) (by decide)).trans c71, fun i k hk => by cases hk⟩, h9, h10, h11, h12, h13⟩
  refine zSc_go (k2 := q) (ind' := ind) c9 id (scL_refl E sc) (fun i _ => by rw [eA]) (fun i _ => by rw [eA]) (fun i _ => by rw [eA, eA, eA]; exact ⟨rfl, rfl, rfl⟩) (fun own st hr a1 a2 => ?_)
  have hr0 := rgn_S (hr (by omega) (by omega)) (Or.inl (by omega))
  have hown := (hr0.2 k hr0.1 (Nat.le_refl _)).1
  refine rgn_go hr0 hkq (fun j j1 j2 => ?_)
  rcases Nat.lt_or_ge j q with z | z
  · obtain ⟨y1, y2, y3, y4⟩ := rm_run (β := β) (n := n) (k := k) (k1 := j) j1 (fun i i1 i2 => htk i i1 (by omega))
    have := htk j j1 z
    exact ⟨by omega, by omega⟩
  · obtain rfl : j = q := by omega
    obtain ⟨y1, y2, y3, y4⟩ := rm_run (β := β) (n := n) (k := k) (k1 := j) j1 htk
    exact ⟨by omega, a1⟩
set_option maxHeartbeats 4000000 in
/-- from place 136 on: the head ends at q -/
theorem cl_136 {dp ind tr af k q F r bb : Nat} {opn : Nat → Nat} {lp : LpT} {sc : SCs} {at' : List Nat} {Sq : cS} {ca : Nat} (hX : zX β n V own0 m k1 S0) (hB : ZB β n E V T own0 m u k1 S0 H B0 W F 1) (h : zIs β n E V T own0 m u k1 S0 H B0 W 0 opn dp ind s lp tr sc at' X af c w t b k S) (hK : qK β n k = 47) (hF : 4 * rem β n k ≤ F + 4) (hD : lvZ dp ≤ d + 14) (h3 : qK β n (k + 1) = 3) (hV : V (k + 1) = nI r) (hr : r < 90000) (hkq : k + 2 ≤ q) (htk : ∀ j, k ≤ j → j < q → 3 ≤ qK β n j) (hSq : Sq = wI 6115 (nI q) S) (hbb : bb = 0 ∨ (bb = 1 ∧ k + 5 ≤ q ∧ qK β n (k + 3) = 3)) : ∃ S1 v, (∀ lv : sm_L, sm_get lv 0 = some (.ref 61) → sm_get lv 1 = some (.int (nI ind)) → sm_get lv 2 = some (.int (nI (qL β n k))) → sm_get lv 3 = some (.int (nI r)) → sm_get lv 4 = some (.int (if bb = 1 then V (k + 3) else Int32.ofInt (-1))) → sm_get lv 5 = some (.int (nI af)) → Bod (d + 12) 346 136 lv [] Sq (some (.int v)) S1) ∧ zOs β n E V T own0 m u k1 S0 H B0 W 0 opn (dp + 1) ind lp sc at' X af S c w t b k (sb (ps (qK β n) (qL β n) (qI β n) E F 6 (dp + 1) ind s none 0 ca c sc [] q) fun x => .inr (x.1, x.2.1 ++ clO (qL β n) s k bb x.2.2.2, scB E s (k + 1) x.2.2.1, at')) v S1 := by
  obtain ⟨h0, ⟨r1, r2, r3, r4⟩, hls, hK1, hI, hx1, hx2, hx3⟩ := h
  have hlv : lvZ dp = 260 + 4 * (12 - dp) := rfl
  obtain ⟨h1, h2, h3', h4, h5, h6, h7, h8, h9, h10, h11, h12, h13⟩ := id h0
  obtain ⟨⟨c01, c02, c03, c04, c05⟩, ⟨c11, c12⟩, ⟨c21, c22, c23⟩, ⟨tr', c31, c32, c33⟩, c4, c5, ⟨c61, c62⟩, ⟨c71, c72, c73, c74⟩, ⟨c81, c82⟩, c9, c10⟩ := id h4
  have hm1 := hX.2.2.2.2.1
  have hk1 := hX.2.1
  have hn3 := hX.1
  have hqn := (q_lt β n k).1
  have hLk := (q_lt β n k).2.2.1
  have hiM := k_i (k := k) hX
  obtain ⟨q5, q6⟩ := rem_ge hK1
  have hqk1 := r_k1 hX h7 htk
  obtain ⟨y1, y2, y3, y4⟩ := rm_run (β := β) (n := n) (k := k) (k1 := q) (by omega) htk
  have hKq : qK β n q ≠ 1 := by
    rcases Nat.eq_zero_or_pos q with z | z
    · omega
    · have := (q_in (β := β) (n := n) (k := q - 1) (by have := htk (q - 1) (by omega) (by omega); omega) (by have := htk (q - 1) (by omega) (by omega); omega)).1
      rwa [show q - 1 + 1 = q by omega] at this
  obtain ⟨Sb, hSb⟩ : ∃ Sb, Sb = wI 6140 (nI (X 6)) Sq := ⟨_, rfl⟩
  have hZ := zI0_cl (q := q) hX h0 hI hK (by omega) htk (hSb.trans (by rw [hSq]))
  have hfr : r < 2 ^ 20 := by omega
  have h34 : bb = 1 → ∃ rb, rb < 90000 ∧ V (k + 3) = nI rb := fun e => zX_V hX (hbb.resolve_left (fun z => by omega)).2.2
  obtain ⟨S1, v, hA, hO⟩ := hB opn dp ind s none 0 ca sc [] X (X 6) c w t b q Sb (d + 12) hZ hKq (by omega) (by omega) (fun e1 e2 => by
    obtain ⟨p1, p2, p3, p4⟩ := rm_gt (β := β) (n := n) (k := q) (by omega)
    have p5 : rem β n (q + 2) + 1 ≤ rm β n (q + 1) := rm_nl (β := β) (n := n) (j := q + 1) e2
    exact ⟨by omega, by omega, by omega, by omega, h12, h13⟩) (by omega)
  have hSqI : ∀ i, i ≠ 6115 → sI Sq i = sI S i := fun i hi => by rw [hSq]; exact rIn _ _ hi
  have hna0 : sI Sq 6139 = nI (X 6) := (hSqI _ (by decide)).trans c71
  rw [hSb] at hA
  have hfun : ∀ x : PT, ∃ y : PT, (fun x : PT => (.inr (x.1, x.2.1 ++ clO (qL β n) s k bb x.2.2.2, scB E s (k + 1) x.2.2.1, at') : PSr)) x = .inr y ∧ y.1 = x.1 := fun x => ⟨_, rfl, rfl⟩
  rcases hO with ⟨l0, o1, o2, o3⟩ | ⟨x, o1, o2, o3, o4, o5, o6, o7⟩
  · rw [o2] at hA
    refine ⟨S1, nI 0, fun lv a0 a1 a2 a3 a4 a5 => ?_, Or.inl ⟨l0, zBd_sb hfun o1, rfl, o3⟩⟩
    rcases hbb with e | ⟨e, e2⟩
    · rw [if_neg (by omega)] at a4
      exact zCn_2 (d := d + 4) a0 a1 a2 a3 a4 a5 (by omega) (by omega) hfr (by omega) hna0 (by omega) hA
    · obtain ⟨rb, hrb, hVb⟩ := h34 e
      rw [if_pos e, hVb] at a4
      exact zCb_2 (d := d + 4) a0 a1 a2 a3 a4 a5 (by omega) (by omega) hfr (by omega) (by omega) hna0 (by omega) hA
  rw [o2] at hA
  obtain ⟨x1, xo, xs, xa⟩ := x
  obtain ⟨gz, gI, -, g4, gdf, g6, gw, gnw, gnt, gl, gzb, gtk, gk1, gnl, gle, gsL⟩ := id o7
  obtain ⟨gAt, gA1, gA2⟩ := g4 rfl
  have n6 : n60 xo := g6 rfl
  obtain ⟨p1, p2, p3, p4⟩ := rm_gt (β := β) (n := n) (k := q) (by omega)
  have p5 : rem β n (q + 2) + 1 ≤ rm β n (q + 1) := rm_nl (β := β) (n := n) (j := q + 1) o4
  have gw' : wR (qK β n) xo + 13 * rem β n x1 ≤ 13 * rem β n (q + 2) := gw
  have gA1' : xa.length + qP β n (q + 2) ≤ 0 + qP β n x1 := gA1
  have hx1n := (q_lt β n x1).1
  have hq2p := qP_le (β := β) (n := n) (show k ≤ q + 2 by omega)
  have hM : X 6 + xa.length < 6000 := by omega
  -- the steps so far, from the statement's state on
  have kSb : kF S Sb := by rw [hSb, hSq]; exact kF_trans kF_wI kF_wI
  have aSb : ∀ a, sA Sb a = sA S a := fun a => by rw [hSb, hSq]; rfl
  have zA : zO β n V (zPT (qK β n) (qI β n) V T) (agT T xs.1) own0 m u S0 H B0 X (X 2 - 1) S c w t (sc.1.length - 1) b x1 xo (xs.1.length - 1) S1 := zO_pre gz (kF_kW h1 kSb) (kA_eq (fun a _ => aSb a))
  have n6w : c + wR (qK β n) xo + 60 ≤ H := by
    obtain ⟨t1, t2, t3, t4⟩ := rm_gt (β := β) (n := n) (k := k) (by omega)
    have t5 := rm_w2 (β := β) (n := n) (k := k) (by omega)
    have t6 := (rm_run (β := β) (n := n) (k := k + 1) (k1 := q) (by omega) (fun j j1 j2 => htk j (by omega) j2)).1
    omega
  obtain ⟨S2, hA2, z2, kx2⟩ := zO_2 (d := d + 8) (o := (3, [qL β n k], 0, 0)) (x := nI 42) (y := nI (qL β n k)) hX zA (by omega) h12 rfl (by show (3 : Nat) ≠ 16; decide) (by show (3 : Nat) ≠ 60; decide) (by show (3 : Nat) ≠ 23; decide) rfl
  have w2 : wR (qK β n) (xo ++ [(3, [qL β n k], 0, 0)]) = wR (qK β n) xo + 2 := by rw [wR_app]; rfl
  have hsx : s < xs.1.length := by
    obtain ⟨⟨lx, hlx⟩, -, -⟩ := gsL
    have hlx' : xs.1 = sc.1 ++ lx := hlx
    rw [hlx', List.length_append]
    omega
  have kA1 : kA X S S1 := zA.2.2.2.2.2.2.1
  have i1 : ∀ i, i ∈ [6117, 6122, 6123, 6126, 6127, 6134, 6137] → sI S1 i = sI S i := fun i hi => by
    simp only [List.mem_cons, List.not_mem_nil, or_false] at hi
    rw [gI i (by
      simp only [List.mem_cons, List.not_mem_nil, or_false]
      omega), hSb, rIn _ _ (by omega)]
    exact hSqI i (by omega)
  have hNof : ∀ Sx : cS, kX m S1 Sx → zN (zPT (qK β n) (qI β n) V T) (agT T xs.1) s Sx := fun Sx kx => by
    have kAx : kA X S Sx := kA_trans kA1 (kX_kA kx)
    obtain ⟨k74, k82, k75⟩ := kA_74 kAx
    exact zSc_N (zSc_go (A' := agT T xs.1) (ind' := ind) (k2 := k) c9 (agT_L gsL) gsL k74 k82 k75 (fun _ _ q a b => q a b)) ((kX_nx kx (by decide)).trans ((i1 _ (by decide)).trans c11)) (by omega) ((kX_nx kx (by decide)).trans ((i1 _ (by decide)).trans c4)) ((kX_nx kx (by decide)).trans ((i1 _ (by decide)).trans c5))
  have hna1 : sI S1 6139 = nI (X 6 + xa.length) := gAt.1
  have haf1 : sI S1 6140 = nI (X 6) := by rw [gI _ (by decide), hSb]; exact rIe _ _ _
  -- a base's name
  obtain ⟨ob, S3, ⟨hob, hS32⟩, hA3, z3, kx3, wob, nob, tob, n60b⟩ : ∃ (ob : List Op) (S3 : cS), (ob = (if bb = 1 then [(18, [k + 3, s], 0, 0)] else []) ∧ (bb ≠ 1 → S3 = S2)) ∧ (bb = 1 → ∀ rb, V (k + 3) = nI rb → Ans (d + 12) 317 [.ref 61, .int (nI 4), .int (nI rb)] S2 none S3) ∧ zO β n V (zPT (qK β n) (qI β n) V T) (agT T xs.1) own0 m u S0 H B0 X (X 2 - 1) S c w t (sc.1.length - 1) b x1 ((xo ++ [(3, [qL β n k], 0, 0)]) ++ ob) (xs.1.length - 1) S3 ∧ kX m S2 S3 ∧ wR (qK β n) ob ≤ 4 ∧ nwN (qK β n) ob = 0 ∧ ntN (qK β n) ob = 0 ∧ n60 ob := by
    by_cases e : bb = 1
    · obtain ⟨rb, hrb, hVb⟩ := h34 e
      obtain ⟨S3, hA3, z3, kx3⟩ := zO_nm (d := d + 7) (o := (18, [k + 3, s], 0, 0)) (x := nI 4) (r := rb) hX z2 (hNof S2 kx2) (by rw [w2]; omega) h12 (by omega) rfl (by show (18 : Nat) ≠ 16; decide) (by show (18 : Nat) ≠ 60; decide) (by show (18 : Nat) ≠ 23; decide) (by
        have ew : wdS V (zPT (qK β n) (qI β n) V T) (18, [k + 3, s], 0, 0) = [nI 4, V (k + 3), (zPT (qK β n) (qI β n) V T s (V (k + 3))).1, (zPT (qK β n) (qI β n) V T s (V (k + 3))).2] := rfl
        rw [ew, hVb])
      refine ⟨[(18, [k + 3, s], 0, 0)], S3, ⟨(if_pos e).symm, fun q => absurd e q⟩, fun _ rb' hb' => ?_, z3, kx3, Nat.le_refl _, rfl, rfl, n60_1 (by show (18 : Nat) ≠ 60; decide)⟩
      have : nI rb' = nI rb := hb'.symm.trans hVb
      rw [this]
      exact hA3
    · refine ⟨[], S2, ⟨(if_neg e).symm, fun _ => rfl⟩, fun q => absurd q e, by rw [List.append_nil]; exact z2, kX_refl m S2, Nat.zero_le _, rfl, rfl, fun o ho => by cases ho⟩
  have kx13 := kX_trans kx2 kx3
  have w3 : wR (qK β n) ((xo ++ [(3, [qL β n k], 0, 0)]) ++ ob) ≤ wR (qK β n) xo + 6 := by rw [wR_app, w2]; omega
  have hmn : min xa.length 40 ≤ 40 := Nat.min_le_right _ _
  have e84 : sA S3 84 = sA S1 84 := (kx13.2.1 84 (by decide) (by decide) (by decide) (by decide)).1
  obtain ⟨S4, S5, S6, S7, hA4, hA5, hA6, ⟨m1, m2, m3, m4⟩, ⟨f1', f2', f3', f4', f5'⟩, hL, z7, kx7⟩ := cl_put (d := d + 4) (kk := k + 1) (bb := bb) (as := xa) (af := X 6) (na := X 6 + xa.length) (ly := af) hX z3 ((kx13.1 _ (by decide) (by decide) (by decide) (by decide) (by decide)).trans hna1) ((kx13.1 _ (by decide) (by decide) (by decide) (by decide) (by decide)).trans haf1) (fun i k hi => by rw [e84]; exact gAt.2 i k hi) hV hr hM (by omega) (by omega) h12
  have kx17 := kX_trans kx13 kx7
  have w7 : wR (qK β n) (((xo ++ [(3, [qL β n k], 0, 0)]) ++ ob) ++ [(23, (k + 1) :: bb :: xa.take 40, 0, 0)]) ≤ wR (qK β n) xo + 50 := by
    rw [wR_app]
    have : wR (qK β n) [(23, (k + 1) :: bb :: xa.take 40, 0, 0)] = 4 + min xa.length 40 := by
      show 2 + ((k + 1) :: bb :: xa.take 40).length + 0 = _
      rw [List.length_cons, List.length_cons, List.length_take, Nat.min_comm]
      omega
    omega
  obtain ⟨Sr, hSr⟩ : ∃ Sr, Sr = wI 6140 (nI af) (wI 6139 (nI (X 6)) S7) := ⟨_, rfl⟩
  have z7r : zO β n V (zPT (qK β n) (qI β n) V T) (agT T xs.1) own0 m u S0 H B0 X (X 2 - 1) S c w t (sc.1.length - 1) b x1 (((xo ++ [(3, [qL β n k], 0, 0)]) ++ ob) ++ [(23, (k + 1) :: bb :: xa.take 40, 0, 0)]) (xs.1.length - 1) Sr := by rw [hSr]; exact zO_wI (zO_wI z7 (by decide)) (by decide)
  have iR : ∀ i, i ≠ 6139 → i ≠ 6140 → sI Sr i = sI S7 i := fun i j1 j2 => by rw [hSr, rIn _ _ j2, rIn _ _ j1]
  have hNr : zN (zPT (qK β n) (qI β n) V T) (agT T xs.1) s Sr := by
    have kAx : kA X S Sr := kA_trans (kA_trans kA1 (kX_kA kx17)) (kA_eq (fun a _ => by rw [hSr]; rfl))
    obtain ⟨k74, k82, k75⟩ := kA_74 kAx
    have e : ∀ i, i ∈ [6122, 6123, 6137] → sI Sr i = sI S i := fun i hi => by
      simp only [List.mem_cons, List.not_mem_nil, or_false] at hi
      rw [iR i (by omega) (by omega), kX_nx kx17 (by
        simp only [List.mem_cons, List.not_mem_nil, or_false]
        omega), i1 i (by
        simp only [List.mem_cons, List.not_mem_nil, or_false]
        omega)]
    exact zSc_N (zSc_go (A' := agT T xs.1) (ind' := ind) (k2 := k) c9 (agT_L gsL) gsL k74 k82 k75 (fun _ _ q a b => q a b)) ((e _ (by decide)).trans c11) (by omega) ((e _ (by decide)).trans c4) ((e _ (by decide)).trans c5)
  obtain ⟨S8, hA8, z8, kx8⟩ := zO_nm (d := d + 7) (o := (19, [k + 1, s], 0, 0)) (x := nI 6) (r := r) hX z7r hNr (by omega) h12 (by omega) rfl (by show (19 : Nat) ≠ 16; decide) (by show (19 : Nat) ≠ 60; decide) (by show (19 : Nat) ≠ 23; decide) (by rw [wdS_19, hV])
  have eO : (((xo ++ [(3, [qL β n k], 0, 0)]) ++ ob) ++ [(23, (k + 1) :: bb :: xa.take 40, 0, 0)]) ++ [(19, [k + 1, s], 0, 0)] = xo ++ clO (qL β n) s k bb xa := by
    unfold clO
    rw [← hob]
    simp only [List.append_assoc, List.cons_append, List.nil_append]
  rw [eO] at z8
  have hP : sb (ps (qK β n) (qL β n) (qI β n) E F 6 (dp + 1) ind s none 0 ca c sc [] q) (fun x => .inr (x.1, x.2.1 ++ clO (qL β n) s k bb x.2.2.2, scB E s (k + 1) x.2.2.1, at')) = .inr (x1, xo ++ clO (qL β n) s k bb xa, scB E s (k + 1) xs, at') := by
    show sb (ps (qK β n) (qL β n) (qI β n) E F (bmZ 1) (dp + 1) ind s none 0 ca c sc [] q) _ = _
    rw [o1]
    rfl
  have nC : n60 (clO (qL β n) s k bb xa) := by
    unfold clO
    rw [← hob]
    intro o ho
    rcases List.mem_cons.mp ho with e | e
    · rw [e]; show (3 : Nat) ≠ 60; decide
    · rcases List.mem_append.mp e with e | e
      · exact n60b o e
      · simp only [List.mem_cons, List.not_mem_nil, or_false] at e
        rcases e with rfl | rfl
        · show (23 : Nat) ≠ 60; decide
        · show (19 : Nat) ≠ 60; decide
  have wC : wR (qK β n) (xo ++ clO (qL β n) s k bb xa) ≤ wR (qK β n) xo + 54 ∧ nwN (qK β n) (xo ++ clO (qL β n) s k bb xa) = nwN (qK β n) xo ∧ ntN (qK β n) (xo ++ clO (qL β n) s k bb xa) = ntN (qK β n) xo := by
    rw [← eO]
    refine ⟨?_, ?_, ?_⟩
    · rw [wR_app]
      have : wR (qK β n) [((19, [k + 1, s], 0, 0) : Op)] = 4 := rfl
      omega
    · rw [nwN_app, nwN_app, nwN_app, nwN_app, nob]; rfl
    · rw [ntN_app, ntN_app, ntN_app, ntN_app, tob]; rfl
  have iS8 : ∀ i, i ∈ [6117, 6122, 6123, 6126, 6127, 6134, 6137, 6140] → sI S8 i = sI S i := fun i hi => by
    rw [kX_nx kx8 (by
      simp only [List.mem_cons, List.not_mem_nil, or_false] at hi ⊢
      omega)]
    simp only [List.mem_cons, List.not_mem_nil, or_false] at hi
    by_cases e : i = 6140
    · rw [e, hSr, rIe]
      exact c73.symm
    · rw [iR i (by omega) e, kX_nx kx17 (by
        simp only [List.mem_cons, List.not_mem_nil, or_false]
        omega), i1 i (by
        simp only [List.mem_cons, List.not_mem_nil, or_false]
        omega)]
  have hdf8 : zDf (qK β n) (qI β n) V m xs.1 S8 := zDf_X (zDf_E (zDf_X gdf kx17) (by rw [hSr]; exact ⟨rfl, rfl, rfl, rfl⟩)) kx8
  have hrem : rem β n (q + 2) + 5 ≤ rem β n k := by
    have t5 := rm_w2 (β := β) (n := n) (k := k) (by omega)
    have t6 := (rm_run (β := β) (n := n) (k := k + 1) (k1 := q) (by omega) (fun j j1 j2 => htk j (by omega) j2)).1
    omega
  have hqp := qP_le (β := β) (n := n) (show k ≤ x1 by omega)
  have gnw' : nwN (qK β n) xo + rem β n x1 ≤ rem β n (q + 2) := gnw
  have gnt' : ntN (qK β n) xo + rem β n x1 ≤ rem β n (q + 2) := gnt
  have gl' : xs.1.length + rem β n x1 ≤ sc.1.length + rem β n (q + 2) := gl
  have hG : zG β n E V T own0 m u k1 S0 H B0 0 ind lp sc at' X af S c w t b k (x1, xo ++ clO (qL β n) s k bb xa, scB E s (k + 1) xs, at') S8 := by
    refine ⟨?_, iS8, fun _ => ?_, (fun q => by cases q), ?_, fun _ => n60_app.mpr ⟨n6, nC⟩, ?_, ?_, ?_, ?_, ?_, fun j j1 j2 => ?_, gk1, fun _ => gnl o6, by show k ≤ x1; omega, scL_trans gsL (scL_B E s (k + 1) xs hsx)⟩
    · show zO β n V (zPT (qK β n) (qI β n) V T) (agT T (scB E s (k + 1) xs).1) own0 m u S0 H B0 X (X 2 - 1) S c w t (sc.1.length - 1) b x1 (xo ++ clO (qL β n) s k bb xa) ((scB E s (k + 1) xs).1.length - 1) S8
      rw [(scB_l E s (k + 1) xs).1]
      exact z8
    · rw [kX_nx kx8 (by decide), hSr, rIn _ _ (by decide), rIe]
      exact c71.symm
    · show zDf (qK β n) (qI β n) V m (scB E s (k + 1) xs).1 S8
      rw [(scB_l E s (k + 1) xs).1]
      exact hdf8
    · show wR (qK β n) (xo ++ clO (qL β n) s k bb xa) + 13 * rem β n x1 ≤ 13 * rem β n k
      omega
    · show nwN (qK β n) (xo ++ clO (qL β n) s k bb xa) + rem β n x1 ≤ rem β n k
      omega
    · show ntN (qK β n) (xo ++ clO (qL β n) s k bb xa) + rem β n x1 ≤ rem β n k
      omega
    · show (scB E s (k + 1) xs).1.length + rem β n x1 ≤ sc.1.length + rem β n k
      rw [(scB_l E s (k + 1) xs).1]
      omega
    · show (zbk (qK β n) c (xo ++ clO (qL β n) s k bb xa)).length + qP β n k ≤ qP β n x1
      rw [zbk_n _ _ _ (n60_app.mpr ⟨n6, nC⟩)]
      show 0 + _ ≤ _
      omega
    · have j2' : j < x1 := j2
      rcases Nat.lt_or_ge j (q + 2) with z | z
      · rcases Nat.lt_or_ge j q with z2 | z2
        · obtain ⟨t1, t2, t3, t4⟩ := rm_run (β := β) (n := n) (k := k) (k1 := j) j1 (fun i i1 i2 => htk i i1 (by omega))
          have := htk j j1 z2
          exact ⟨by omega, by omega⟩
        · rcases (show j = q ∨ j = q + 1 by omega) with rfl | rfl
          · exact ⟨by omega, by omega⟩
          · exact ⟨by omega, by omega⟩
      · obtain ⟨t1, t2⟩ := gtk j z j2'
        exact ⟨by omega, t2⟩
  have hend : ∀ lv1 : sm_L, sm_get lv1 0 = some (.ref 61) → sm_get lv1 3 = some (.int (nI r)) → sm_get lv1 5 = some (.int (nI af)) → sm_get lv1 6 = some (.int (nI (X 6 + min xa.length 40))) → Bod (d + 12) 346 225 lv1 [] S7 (some (.int 1)) S8 := fun lv1 a0 a3 a5 a6 => by
    rw [hSr] at hA8
    rcases Nat.lt_or_ge 40 xa.length with z | z
    · rw [Nat.min_eq_right (by omega)] at a6
      exact zCL_2 (d := d + 4) a0 a3 a5 a6 hfr (by omega) (by omega) f4' hM (by omega) f5' (by omega) (by omega) hA8
    · rw [Nat.min_eq_left z] at a6
      exact zCL_1 (d := d + 4) a0 a3 a5 a6 hfr (by omega) (by omega) f4' hM (by omega) f5' (by omega) hA8
  refine ⟨S8, nI 1, fun lv a0 a1 a2 a3 a4 a5 => ?_, Or.inr ⟨_, hP, rfl, hG, by show wR (qK β n) (xo ++ clO (qL β n) s k bb xa) + 2 + 13 * rem β n x1 ≤ 13 * rem β n k; omega⟩⟩
  have hmin : Ans (d + 12) 187 [.int (nI 40), .int (nI (X 6 + xa.length - X 6))] S5 (some (.int (nI (min xa.length 40)))) S5 := by
    rw [show X 6 + xa.length - X 6 = xa.length by omega]
    exact min_ab (d := d + 11) (by omega)
  rcases hbb with e | ⟨e, e2⟩
  · rw [if_neg (by omega)] at a4
    rw [e] at hA5
    rw [hS32 (by omega)] at hA4
    exact zCn_1 (d := d + 4) a0 a1 a2 a3 a4 a5 (by omega) (by omega) hfr (by omega) hna0 (by omega) hA hA2 hA4 hm1 m1 hA5 m2 m3 f1' hM f2' (by omega) (by omega) (by omega) hmin hA6 m4 f3' (by omega) (fun lv1 b0 b3 b5 b6 => hL lv1 _ _ b0 b3 b5 b6 hend)
  · obtain ⟨rb, hrb, hVb⟩ := h34 e
    rw [if_pos e, hVb] at a4
    rw [e] at hA5
    exact zCb_1 (d := d + 4) a0 a1 a2 a3 a4 a5 (by omega) (by omega) hfr (by omega) (by omega) hna0 (by omega) hA hA2 (hA3 e rb hVb) hA4 hm1 m1 hA5 m2 m3 f1' hM f2' (by omega) (by omega) (by omega) hmin hA6 m4 f3' (by omega) (fun lv1 b0 b3 b5 b6 => hL lv1 _ _ b0 b3 b5 b6 hend)
end
