/-! STATEMENTS OF THE REFERENCE: += and its like -/
section
variable {β : Nat → Nat} {n : Nat} {E : Nat → Nat → Bool} {V : Nat → Int32} {T : Nat → Nat × Nat} {P : Nat → Int32 → Int32 × Int32} {own0 : Nat → Nat × Nat} {m u k1 : Nat} {S0 S S1 S2 : cS} {H B0 W d l c w t f f1 b j s : Nat} {X Y : Nat → Nat} {o1 o2 : List Op} {A A1 : Prop}
/-- what is read of a target that stays -/
theorem z_read {g tk e : Nat} {lnm : Int32} (hX : zX β n V own0 m k1 S0) (z : zO β n V P A own0 m u S0 H B0 X l S c w t f b j o1 f1 S1) (hN : zN P A s S1) (hg : g = 1 ∨ g = 2 ∨ g = 3) (hV : g ≠ 2 → qK β n tk = 3) (htk : tk ≤ k1) (hc : c + wR (qK β n) o1 + 4 ≤ H) (hH : H ≤ 40000) (hnm : lnm = V tk) : ∃ S2, (g = 1 → Ans (e + 9) 317 [.ref 61, .int (nI 4), .int lnm] S1 none S2) ∧ (g = 2 → ∃ S3, Ans (e + 9) 322 [.ref 61, .int (nI 28)] S1 none S3 ∧ Ans (e + 9) 322 [.ref 61, .int (nI 15)] S3 none S2) ∧ (g = 3 → ∃ S3, Ans (e + 9) 322 [.ref 61, .int (nI 27)] S1 none S3 ∧ Ans (e + 9) 302 [.ref 61, .int (nI 16), .int lnm] S3 none S2) ∧ zO β n V P A own0 m u S0 H B0 X l S c w t f b j (o1 ++ [tgE 18 40 45 g tk s]) f1 S2 ∧ kX m S1 S2 ∧ (tgE 18 40 45 g tk s).1 ≠ 60 ∧ (tgE 18 40 45 g tk s).1 ≠ 16 ∧ lR (qK β n) (tgE 18 40 45 g tk s) ≤ trl g + 1 := by
  subst hnm
  rcases hg with rfl | rfl | rfl
  · obtain ⟨nr, n1, n2, n3, n4⟩ := z_nm hX z.1 htk (hV (by decide))
    obtain ⟨S2, hA, z2, kx⟩ := zO_nm (d := e + 4) (o := (18, [tk, s], 0, 0)) (x := nI 4) (r := nr) hX z hN (by omega) hH n1 rfl (by show (18 : Nat) ≠ 16; decide) (by show (18 : Nat) ≠ 60; decide) (by show (18 : Nat) ≠ 23; decide) (by rw [← n2]; rfl)
    exact ⟨S2, fun _ => by rw [n2]; exact hA, (fun e => by cases e), (fun e => by cases e), z2, kx, by show (18 : Nat) ≠ 60; decide, by show (18 : Nat) ≠ 16; decide, by show (4 : Nat) ≤ 5; decide⟩
  · obtain ⟨S2, S3, hA, hA3, z2, kx⟩ := zO_11 (d := e + 5) (o := (40, [], 0, 0)) (x := nI 28) (y := nI 15) hX z (by omega) hH rfl (by show (40 : Nat) ≠ 16; decide) (by show (40 : Nat) ≠ 60; decide) (by show (40 : Nat) ≠ 23; decide) rfl
    exact ⟨S3, (fun e => by cases e), fun _ => ⟨S2, hA, hA3⟩, (fun e => by cases e), z2, kx, by show (40 : Nat) ≠ 60; decide, by show (40 : Nat) ≠ 16; decide, by show (2 : Nat) ≤ 2; decide⟩
  · obtain ⟨S2, S3, hA, hA3, z2, kx⟩ := zO_12 (d := e + 5) (o := (45, [tk], 0, 0)) (x := nI 27) (y := nI 16) (z := V tk) hX z (by omega) hH rfl (by show (45 : Nat) ≠ 16; decide) (by show (45 : Nat) ≠ 60; decide) (by show (45 : Nat) ≠ 23; decide) rfl
    exact ⟨S3, (fun e => by cases e), (fun e => by cases e), fun _ => ⟨S2, hA, hA3⟩, z2, kx, by show (45 : Nat) ≠ 60; decide, by show (45 : Nat) ≠ 16; decide, by show (3 : Nat) ≤ 3; decide⟩
theorem aug_a {k q0 q1 a b t : Nat} (h1 : a ≤ 8 * (q0 - k) + 1) (h2 : b ≤ 8 * (q1 - (q0 + 1))) (h3 : t ≤ 4) (h4 : k + 1 ≤ q0) (h5 : q0 + 2 ≤ q1) : a + b + 2 + t + 2 ≤ 13 * (q1 - k + 1) := by omega
theorem aug_n {k q0 q1 a b : Nat} (h1 : a ≤ q0 - k) (h2 : b ≤ q1 - (q0 + 1)) (h4 : k + 1 ≤ q0) (h5 : q0 + 2 ≤ q1) : a + b ≤ q1 - k := by omega
theorem aug_c {k q0 q1 a b c R H r x : Nat} (h : c + 13 * R ≤ H + 2) (hR : R = r + x) (hq : ∃ y, y + (q1 - k) ≤ r) (h1 : a ≤ 8 * (q0 - k) + 1) (h2 : b ≤ 8 * (q1 - (q0 + 1))) (h4 : k + 1 ≤ q0) (h5 : q0 + 2 ≤ q1) : c + (a + b) + 2 ≤ H ∧ c + (a + b + 2) + 4 ≤ H := by
  obtain ⟨y, hy⟩ := hq
  omega
theorem z_augq {dp ind tr af k e sg g q0' : Nat} {opn : Nat → Nat} {lp : LpT} {sc : SCs} {at' : List Nat} {L1 : List Op} {S4 : cS} {lnm : Int32} (hX : zX β n V own0 m k1 S0) (h : zIs β n E V T own0 m u k1 S0 H B0 W 0 opn dp ind s lp tr sc at' X af c w t b k S) (hD : 238 ≤ e + 9) (z4 : zO β n V (zPT (qK β n) (qI β n) V T) (agT T sc.1) own0 m u S0 H B0 X (X 2 - 1) S c w t (sc.1.length - 1) b (q0' + 1) L1 (sc.1.length - 1) S4) (kx14 : kX m S S4) (hn60 : n60 L1) (hg3 : g = 1 ∨ g = 2 ∨ g = 3) (hK3 : g ≠ 2 → qK β n (q0' - 1) = 3) (hw4 : wR (qK β n) L1 ≤ 8 * (q0' - k) + 1) (hn4 : nwN (qK β n) L1 ≤ q0' - k) (ht4' : ntN (qK β n) L1 ≤ q0' - k) (hsg1 : sg < 2 ^ 20) (hsg2 : sg / 256 = bsg (qK β n q0')) (hs : qK β n q0' = 23 ∨ qK β n q0' = 24 ∨ qK β n q0' = 25) (htk : ∀ j, k ≤ j → j < q0' → 3 ≤ qK β n j) (y2 : k + 1 ≤ q0') (hnm : lnm = V (q0' - 1)) : ∃ S7 v, (∀ lv1 : sm_L, sm_get lv1 0 = some (.ref 61) → sm_get lv1 2 = some (.int (nI g)) → sm_get lv1 3 = some (.int lnm) → sm_get lv1 4 = some (.int (nI sg)) → Bod (e + 9) 305 327 lv1 [] S4 (some (.int v)) S7) ∧ zLn β n E V T own0 m u S0 H B0 W lp sc at' X S c w t b k (pb (qL β n k) (exs (qK β n) s (q0' + 1)) fun q => ln (qK β n) (qL β n k) q.1 (L1 ++ (q.2.2 ++ [(chO (qK β n q0'), [qK β n q0'], 0, 0), (if g = 1 then (19, [q0' - 1, s], 0, 0) else if g = 2 then (42, [], 0, 0) else (47, [q0' - 1], 0, 0))])) (scT E s g (q0' - 1) sc) at') v S7 := by
  obtain ⟨h0, ⟨r1, r2, r3, r4⟩, hls, hK1, hI, hx1, hx2, hx3⟩ := id h
  obtain ⟨h1, h2, h3, h4, h5, h6, h7, h8, h9, h10, h11, h12, h13⟩ := id h0
  obtain ⟨⟨c01, c02, c03, c04, c05⟩, ⟨c11, c12⟩, -, -, c4, c5, -, -, -, c9, c10⟩ := id h4
  have hk1 := hX.2.1
  have hrk := r_k1 hX h7 htk
  obtain ⟨q5, q6⟩ := rem_ge hK1
  obtain ⟨y6, y7, y8, y9⟩ := rm_run (β := β) (n := n) (k := k) (k1 := q0') (by omega) htk
  have hK3' : 3 ≤ qK β n q0' := by omega
  obtain ⟨u1, u2, u3, u4⟩ := rm_gt (β := β) (n := n) (k := q0') hK3'
  obtain ⟨u5, u6⟩ := rem_ge u4
  have hrk2 := q_end hX hrk (by omega)
  have hch : 27 ≤ chO (qK β n q0') ∧ chO (qK β n q0') ≤ 29 := by
    rcases hs with e | e | e <;> (rw [e]; decide)
  have hgM : g < 2 ^ 20 := by
    rcases hg3 with e | e | e <;> (rw [e]; decide)
  have hcn : chO (qK β n q0') ≠ 16 ∧ chO (qK β n q0') ≠ 60 ∧ chO (qK β n q0') ≠ 23 := by
    rcases hs with e | e | e <;> (rw [e]; decide)
  have ht4 : trl g ≤ 4 := by
    unfold trl
    repeat' split
    all_goals omega
  have hsN := zSc_N c9 c11 (by omega) c4 c5
  have hE4 := z4.1
  rw [zbk_n _ _ _ hn60] at hE4
  obtain ⟨S5, v5, hA5, x1, x2⟩ := zIs_x (q := q0' + 1) (D := e + 9) hX h0 kx14 hE4 z4.2.1 z4.2.2.1 hrk2 (by omega) (by omega) (by omega) (by omega)
  cases hex2 : exs (qK β n) s (q0' + 1) with
  | none =>
    obtain ⟨a1, a2⟩ := x1 hex2
    rw [a1] at hA5
    have ef : fl β n (q0' + 1) = flq (qL β n k) := by
      rw [← y7, ← u3]
      rfl
    rw [ef] at a2
    exact ⟨S5, nI 0, fun lv1 a0 a2 a3 a4 => zAq_2 (d := e + 1) a0 a2 a3 a4 hgM hsg1 hA5, Or.inl ⟨rfl, rfl, a2⟩⟩
  | some q =>
    obtain ⟨a1, g4, kx5, n5, -, -⟩ := x2 q hex2
    rw [a1] at hA5
    obtain ⟨v1, v2, v3, v4, v5'⟩ := exs_3 hex2
    have htk2 : ∀ j, k ≤ j → j < q.1 → 3 ≤ qK β n j := fun j j1 j2 => by
      rcases Nat.lt_or_ge j q0' with e1 | e1
      · exact htk j j1 e1
      · rcases Nat.lt_or_ge q0' j with e2 | e2
        · exact v1 j e2 j2
        · have ej : j = q0' := Nat.le_antisymm e2 e1
          rw [ej]
          exact hK3'
    have hkq : k < q.1 := Nat.lt_of_lt_of_le y2 (Nat.le_trans (Nat.le_add_right _ 2) v2)
    obtain ⟨y10, -⟩ := rm_run (β := β) (n := n) (k := k) (k1 := q.1) (Nat.le_of_lt hkq) htk2
    obtain ⟨cp1, cp2⟩ := aug_c r1 q5 ⟨_, y10⟩ hw4 v3 y2 v2
    have z5 := zO_app (Y := X) z4 (by rw [zbk_n _ _ _ hn60]; exact g4 X (X 2 - 1)) (fun _ => Nat.le_refl _) id
    have w5 : wR (qK β n) (L1 ++ q.2.2) = wR (qK β n) L1 + wR (qK β n) q.2.2 := wR_app _ _ _
    obtain ⟨S6, hA6, z6, kx6⟩ := zO_2 (d := e + 5) (o := (chO (qK β n q0'), [qK β n q0'], 0, 0)) (x := nI 8) (y := nI (sg / 256)) hX z5 (by rw [w5]; exact cp1) h12 (by
      rcases hs with e | e | e <;> (rw [e]; rfl)) hcn.1 hcn.2.1 hcn.2.2 (by
      rw [hsg2]
      rcases hs with e | e | e <;> (rw [e]; rfl))
    have kx16 := kX_trans kx14 (kX_trans kx5 kx6)
    have l2 : lR (qK β n) (chO (qK β n q0'), [qK β n q0'], 0, 0) = 2 := by rcases hs with e | e | e <;> (rw [e]; rfl)
    have w6 : wR (qK β n) ((L1 ++ q.2.2) ++ [(chO (qK β n q0'), [qK β n q0'], 0, 0)]) = wR (qK β n) L1 + wR (qK β n) q.2.2 + 2 := by
      rw [wR_app, w5, wR1, l2]
    obtain ⟨S7, p1', p2', p3', z7, kx7, o60', o16', lo'⟩ := z_tgt (d := e + 4) (s := s) (g := g) (tk := q0' - 1) tg_put hX z6 (zN_X hsN kx16) hg3 hK3 (Nat.le_trans (Nat.sub_le _ _) hrk) (by rw [w6]; exact cp2) h12
    have kx := kX_trans kx16 kx7
    have hfin : ((L1 ++ q.2.2) ++ [(chO (qK β n q0'), [qK β n q0'], 0, 0)]) ++ [tgE 19 42 47 g (q0' - 1) s] = L1 ++ (q.2.2 ++ [(chO (qK β n q0'), [qK β n q0'], 0, 0), (if g = 1 then (19, [q0' - 1, s], 0, 0) else if g = 2 then (42, [], 0, 0) else (47, [q0' - 1], 0, 0))]) := by
      simp only [List.append_assoc, List.cons_append, List.nil_append]
      rfl
    have o16c : ((chO (qK β n q0'), [qK β n q0'], 0, 0) : Op).1 ≠ 16 := hcn.1
    have wF : wR (qK β n) (((L1 ++ q.2.2) ++ [(chO (qK β n q0'), [qK β n q0'], 0, 0)]) ++ [tgE 19 42 47 g (q0' - 1) s]) = wR (qK β n) L1 + wR (qK β n) q.2.2 + 2 + trl g := by rw [wR_app, w6, wR1, lo']
    have nF : nwN (qK β n) (((L1 ++ q.2.2) ++ [(chO (qK β n q0'), [qK β n q0'], 0, 0)]) ++ [tgE 19 42 47 g (q0' - 1) s]) = nwN (qK β n) L1 + nwN (qK β n) q.2.2 := by rw [nwN_app, (nt0 o16').1, nwN_app, (nt0 o16c).1, nwN_app]; rfl
    have tF : ntN (qK β n) (((L1 ++ q.2.2) ++ [(chO (qK β n q0'), [qK β n q0'], 0, 0)]) ++ [tgE 19 42 47 g (q0' - 1) s]) = ntN (qK β n) L1 + ntN (qK β n) q.2.2 := by rw [ntN_app, (nt0 o16').2, ntN_app, (nt0 o16c).2, ntN_app]; rfl
    have hn7 : n60 (((L1 ++ q.2.2) ++ [(chO (qK β n q0'), [qK β n q0'], 0, 0)]) ++ [tgE 19 42 47 g (q0' - 1) s]) := n60_app.mpr ⟨n60_app.mpr ⟨n60_app.mpr ⟨hn60, n5⟩, n60_1 hcn.2.1⟩, n60_1 o60'⟩
    obtain ⟨sT1, sT2⟩ := scT_1 E s g (q0' - 1) sc h6
    have hH7 := zH_X (sc2 := scT E s g (q0' - 1) sc) h0 kx ⟨kX_refl m S, fun _ _ _ _ _ => kW_refl _ _ _ _ _ _ _⟩ z7 hn7 (by rw [wF]; exact aug_a hw4 v3 ht4 y2 v2) (by rw [nF]; exact aug_n hn4 v4 y2 v2) (by rw [tF]; exact aug_n ht4' v5' y2 v2) htk2 (Nat.lt_of_lt_of_le y2 (Nat.le_trans (Nat.le_add_right _ 2) v2)) sT1 sT2
    rw [hfin] at hH7
    refine ⟨S7, nI 1, fun lv1 a0 a2 a3 a4 => zAq_1 (d := e + 1) a0 a2 a3 a4 hgM hsg1 hA5 hA6 (fun lv2 b0 b2 b3 => ?_), Or.inr ⟨q.1, _, _, rfl, rfl, hH7⟩⟩
    rcases hg3 with g1 | g1 | g1
    · exact zAf_3 (d := e + 1) b0 b2 b3 hgM g1 (by rw [hnm]; exact p1' g1)
    · exact zAf_2 (d := e + 1) b0 b2 b3 hgM (by rw [g1]; decide) g1 (p2' g1)
    · exact zAf_1 (d := e + 1) b0 b2 b3 hgM (by rw [g1]; decide) (by rw [g1]; decide) (by rw [hnm]; exact p3' g1)
theorem z_aug {dp ind tr af k e : Nat} {opn : Nat → Nat} {lp : LpT} {sc : SCs} {at' : List Nat} {r : Nat × Nat × List Op} (hX : zX β n V own0 m k1 S0) (h : zIs β n E V T own0 m u k1 S0 H B0 W 0 opn dp ind s lp tr sc at' X af c w t b k S) (hD : 238 ≤ e + 9) (hex : exs (qK β n) s k = some r) (z1 : zO β n V (zPT (qK β n) (qI β n) V T) (agT T sc.1) own0 m u S0 H B0 X (X 2 - 1) S c w t (sc.1.length - 1) b r.1 r.2.2 (sc.1.length - 1) S1) (kx1 : kX m S S1) (n1 : n60 r.2.2) (htg : sI S1 6131 = nI r.2.1) (hta : r.2.1 ≠ 0 → sI S1 6132 = nI (c + wR (qK β n) r.2.2 - trl r.2.1)) (htk : ∀ j, k ≤ j → j < r.1 → 3 ≤ qK β n j) (y2 : k + 1 ≤ r.1) (y3 : wR (qK β n) r.2.2 ≤ 8 * (r.1 - k)) (y4 : nwN (qK β n) r.2.2 ≤ r.1 - k) (y5 : ntN (qK β n) r.2.2 ≤ r.1 - k) (hlg : r.2.1 < 5) (hs : qK β n r.1 = 23 ∨ qK β n r.1 = 24 ∨ qK β n r.1 = 25) : ∃ S2 v, (∀ lv : sm_L, sm_get lv 0 = some (.ref 61) → sm_get lv 1 = some (.int (nI c)) → sm_get lv 2 = some (.int (nI r.2.1)) → sm_get lv 3 = some (.int (sA S1 68 (r.1 - 1))) → Bod (e + 9) 305 35 lv [] S1 (some (.int v)) S2) ∧ zLn β n E V T own0 m u S0 H B0 W lp sc at' X S c w t b k (if r.2.1 = 0 then .inl (qL β n k) else pb (qL β n k) (exs (qK β n) s (r.1 + 1)) fun q => ln (qK β n) (qL β n k) q.1 (rtl 18 40 45 r.2.2 ++ (q.2.2 ++ [(chO (qK β n r.1), [qK β n r.1], 0, 0), (if r.2.1 = 1 then (19, [r.1 - 1, s], 0, 0) else if r.2.1 = 2 then (42, [], 0, 0) else (47, [r.1 - 1], 0, 0))])) (scT E s r.2.1 (r.1 - 1) sc) at') v S2 := by
  obtain ⟨h0, ⟨r1, r2, r3, r4⟩, hls, hK1, hI, hx1, hx2, hx3⟩ := id h
  obtain ⟨h1, h2, h3, h4, h5, h6, h7, h8, h9, h10, h11, h12, h13⟩ := id h0
  obtain ⟨⟨c01, c02, c03, c04, c05⟩, ⟨c11, c12⟩, -, -, c4, c5, -, -, -, c9, c10⟩ := id h4
  have hk1 := hX.2.1
  have hrk := r_k1 hX h7 htk
  obtain ⟨q5, q6⟩ := rem_ge hK1
  obtain ⟨y6, y7, y8, y9⟩ := rm_run (β := β) (n := n) (k := k) (k1 := r.1) (by omega) htk
  obtain ⟨u1, u2, u3, u4⟩ := rm_gt (β := β) (n := n) (k := r.1) (by omega)
  obtain ⟨u5, u6⟩ := rem_ge u4
  have hrk2 := q_end hX hrk (by omega)
  obtain ⟨t1, -, -, -, t5, -, -, t8⟩ := z_tok hX z1.1 hrk
  have e5 : rkd (qK β n r.1) = 5 := rkd_5.mpr (by omega)
  have t68 := t5.trans (t8 (by omega) (by omega))
  obtain ⟨sg, hsg⟩ : ∃ sg, sg = rsg (qK β n r.1) := ⟨_, rfl⟩
  have hsg2 : sg < 2 ^ 20 ∧ sg / 256 = bsg (qK β n r.1) ∧ 27 ≤ chO (qK β n r.1) ∧ chO (qK β n r.1) ≤ 29 := by
    rw [hsg]
    rcases hs with e | e | e <;> (rw [e]; decide)
  have hin : ∀ {v : Option Value} {Sf : cS} {lnm : Int32}, (∀ lv1 : sm_L, sm_get lv1 0 = some (.ref 61) → sm_get lv1 2 = some (.int (nI r.2.1)) → sm_get lv1 3 = some (.int lnm) → sm_get lv1 4 = some (.int (nI sg)) → Bod (e + 9) 305 257 lv1 [] S1 v Sf) → ∀ lv : sm_L, sm_get lv 0 = some (.ref 61) → sm_get lv 1 = some (.int (nI c)) → sm_get lv 2 = some (.int (nI r.2.1)) → sm_get lv 3 = some (.int lnm) → Bod (e + 9) 305 35 lv [] S1 v Sf := fun {v Sf lnm} hB lv q0 q1 q2 q3 => by
    rw [hsg] at hB
    rcases hs with e' | e' | e'
    · rw [e'] at t68 hB
      exact zAt_4 (d := e + 1) q0 q1 q2 q3 (by omega) (by omega) z1.2.1 (by omega) t1 (by omega) e5 t68 (by decide) (by decide) (by decide) (by decide) (by decide) hB
    · rw [e'] at t68 hB
      exact zAt_5 (d := e + 1) q0 q1 q2 q3 (by omega) (by omega) z1.2.1 (by omega) t1 (by omega) e5 t68 (by decide) (by decide) (by decide) (by decide) (by decide) (by decide) hB
    · rw [e'] at t68 hB
      exact zAt_7 (d := e + 1) q0 q1 q2 q3 (by omega) (by omega) z1.2.1 (by omega) t1 (by omega) e5 t68 (by decide) (by decide) (by decide) (by decide) (by decide) (by decide) (by decide) hB
  by_cases hg : r.2.1 = 0
  · obtain ⟨b1, b2⟩ := z_bad (d := e + 7) (j := r.1) hX z1.1 z1.2.1 z1.2.2.1 hrk (W := W) (by omega) (by omega) h11
    have ef : fl β n r.1 = flq (qL β n k) := by
      rw [← y7]
      rfl
    rw [ef] at b1 b2
    exact ⟨_, nI 0, hin (fun lv1 a0 a2 a3 a4 => zAo_4 (d := e + 1) a0 a2 a3 a4 (by omega) hsg2.1 hg b1), Or.inl ⟨if_pos hg, rfl, b2⟩⟩
  obtain ⟨os', S2, hrt, hg3, hK3, hr1, hA2, z2, kx2, eW, eN, eT, -, o, ho⟩ := z_cutT (d := e + 8) hX hex hg z1 (hta hg) (by omega)
  have z2a := zO_at z2 (r.1 + 1)
  have kx12 : kX m S (wI 6115 (nI (r.1 + 1)) S2) := kX_trans (kX_trans kx1 kx2) (kX_wI (Or.inl rfl))
  have hsN := zSc_N c9 c11 (by omega) c4 c5
  have ht4 : trl r.2.1 ≤ 4 := by
    unfold trl
    repeat' split
    all_goals omega
  obtain ⟨-, -, -, -, t5', -⟩ := z_tok hX z1.1 (j := r.1 - 1) (by omega)
  obtain ⟨S4, p1, p2, p3, z4, kx4, o60, o16, lo⟩ := z_read (e := e) (s := s) (g := r.2.1) (tk := r.1 - 1) (lnm := sA S1 68 (r.1 - 1)) hX z2a (zN_X hsN kx12) hg3 hK3 (by omega) (by omega) h12 t5'
  have kx14 := kX_trans kx12 kx4
  rw [← hrt] at z4
  obtain ⟨L1, hL1⟩ : ∃ L1, L1 = rtl 18 40 45 r.2.2 := ⟨_, rfl⟩
  have hw4 : wR (qK β n) L1 ≤ wR (qK β n) r.2.2 + 1 := by rw [hL1, hrt, wR_app, wR1, eW]; omega
  have hn4 : nwN (qK β n) L1 = nwN (qK β n) r.2.2 := by
    rw [hL1, hrt, nwN_app, (nt0 o16).1, eN]
    rfl
  have ht4' : ntN (qK β n) L1 = ntN (qK β n) r.2.2 := by
    rw [hL1, hrt, ntN_app, (nt0 o16).2, eT]
    rfl
  have hn60 : n60 L1 := by
    rw [hL1, hrt]
    rw [ho] at n1
    exact n60_app.mpr ⟨(n60_app.mp n1).1, n60_1 o60⟩
  rw [← hL1] at z4 ⊢
  rw [if_neg hg]
  have hgo : ∀ {v : Option Value} {Sf : cS}, (∀ lv1 : sm_L, sm_get lv1 0 = some (.ref 61) → sm_get lv1 2 = some (.int (nI r.2.1)) → sm_get lv1 3 = some (.int (sA S1 68 (r.1 - 1))) → sm_get lv1 4 = some (.int (nI sg)) → Bod (e + 9) 305 327 lv1 [] S4 v Sf) → ∀ lv : sm_L, sm_get lv 0 = some (.ref 61) → sm_get lv 1 = some (.int (nI c)) → sm_get lv 2 = some (.int (nI r.2.1)) → sm_get lv 3 = some (.int (sA S1 68 (r.1 - 1))) → Bod (e + 9) 305 35 lv [] S1 v Sf := fun {v Sf} hB => hin (fun lv1 a0 a2 a3 a4 => by
    rcases hg3 with g1 | g1 | g1
    · exact zAo_3 (d := e + 1) a0 a2 a3 a4 (by omega) hsg2.1 hg hA2 z2.2.1 (by omega) g1 (p1 g1) hB
    · obtain ⟨Sx, x1, x2⟩ := p2 g1
      exact zAo_2 (d := e + 1) a0 a2 a3 a4 (by omega) hsg2.1 hg hA2 z2.2.1 (by omega) (by omega) g1 x1 x2 hB
    · obtain ⟨Sx, x1, x2⟩ := p3 g1
      exact zAo_1 (d := e + 1) a0 a2 a3 a4 (by omega) hsg2.1 hg hA2 z2.2.1 (by omega) (by omega) (by omega) x1 x2 hB)
  obtain ⟨S7, v, hB, hO⟩ := z_augq (e := e) (sg := sg) (g := r.2.1) (q0' := r.1) hX h hD z4 kx14 hn60 hg3 hK3 (by omega) (by omega) (by omega) hsg2.1 hsg2.2.1 hs htk y2 t5'
  exact ⟨S7, v, hgo (fun lv1 a0 a2 a3 a4 => hB lv1 a0 a2 a3 a4), hO⟩
end
