/-! STATEMENTS OF THE REFERENCE: break, continue -/
section
variable {β : Nat → Nat} {n : Nat} {E : Nat → Nat → Bool} {V : Nat → Int32} {T : Nat → Nat × Nat} {P : Nat → Int32 → Int32 × Int32} {own0 : Nat → Nat × Nat} {m u k1 : Nat} {S0 S S1 S2 : cS} {H B0 W d l c w t f f1 b j s : Nat} {X Y : Nat → Nat} {o1 o2 : List Op} {A A1 : Prop}
theorem zDf_E {K I : Nat → Nat} {sc1 : List (Nat × Nat × Nat × Nat)} (h : zDf K I V m sc1 S) (e : dNm S1 m = dNm S m ∧ dAt S1 m = dAt S m ∧ dPa S1 m = dPa S m ∧ dLo S1 m = dLo S m) : zDf K I V m sc1 S1 := fun i q hq => by
  rw [e.1, e.2.1, e.2.2.1, e.2.2.2]
  exact h i q hq
theorem zuW (K : Nat → Nat) {tr tl : Nat} (h : tl ≤ tr) : wR K (untr tr tl) = tr - tl := by
  unfold untr
  by_cases e : tl < tr
  · rw [if_pos e]; rfl
  · rw [if_neg e]
    show 0 = _
    omega
theorem zuN {tr tl : Nat} : ∀ o, o ∈ untr tr tl → o.1 = 13 := fun o ho => by
  unfold untr at ho
  by_cases e : tl < tr
  · rw [if_pos e] at ho
    rw [List.mem_singleton.mp ho]
  · rw [if_neg e] at ho
    cases ho
theorem zuT (K : Nat → Nat) {tr tl : Nat} : nwN K (untr tr tl) = 0 ∧ ntN K (untr tr tl) = 0 := by
  unfold untr
  by_cases e : tl < tr
  · rw [if_pos e]
    exact nt0 (show (13 : Nat) ≠ 16 by decide)
  · rw [if_neg e]
    exact ⟨rfl, rfl⟩
theorem z_lvw {dp ind tr af k e ca : Nat} {brk : Bool} {opn : Nat → Nat} {lp : LpT} {sc : SCs} {at' : List Nat} (hX : zX β n V own0 m k1 S0) (h : zIs β n E V T own0 m u k1 S0 H B0 W 0 opn dp ind s lp tr sc at' X af c w t b k S) (hK : qK β n k = if brk = true then 49 else 50) : ∃ S1 v, Ans (e + 10) 304 [.ref 61] S (some (.int v)) S1 ∧ zLn β n E V T own0 m u S0 H B0 W lp sc at' X S c w t b k (psLv (qK β n) (qL β n) lp tr ca c brk sc at' k) v S1 := by
  obtain ⟨h0, ⟨r1, r2, r3, r4⟩, hls, hK1, hI, hx1, hx2, hx3⟩ := id h
  obtain ⟨h1, h2, h3, h4, h5, h6, h7, h8, h9, h10, h11, h12, h13⟩ := id h0
  obtain ⟨⟨c01, c02, c03, c04, c05⟩, -, ⟨c21, c22, c23⟩, ⟨tr', c31, c32, c33⟩, -, -, -, -, ⟨-, c8⟩, -⟩ := id h4
  have hk1 := hX.2.1
  have htr := c33 rfl
  subst htr
  have hlp := c23 rfl
  have hKb : 49 ≤ qK β n k ∧ qK β n k ≤ 50 := by rw [hK]; cases brk <;> decide
  have hm1 := hX.2.2.2.2.1
  obtain ⟨lw, elw, hw1, hw2⟩ : ∃ lw, lw = (if brk = true then 9 else 10) ∧ sA S 67 k = nI 2 ∧ sA S 68 k = nI lw := by
    obtain ⟨w1, w2⟩ := z_word (K := if brk = true then 9 else 10) hX h1 h7 (by rw [hK]; cases brk <;> rfl) (by cases brk <;> decide)
    exact ⟨_, rfl, w1, w2⟩
  have ml : ∀ {v' : Int32} {Sf : cS}, Bod (e + 9) 304 0 [(0, .ref 61)] [] S (some (.int v')) Sf → Ans (e + 10) 304 [.ref 61] S (some (.int v')) Sf := fun p => Ans.of (by rw [ml_304]; exact Nat.le_of_ble_eq_true rfl) p
  obtain ⟨b1, b2⟩ := z_bad (d := e + 7) (j := k) hX h1 h2 h3 h7 h9 h10 h11
  cases lp with
  | none =>
    refine ⟨_, nI 0, ml ?_, Or.inl ⟨rfl, rfl, b2⟩⟩
    rcases hlp with q | ⟨q1, q2⟩
    · cases brk with
      | true => exact zSi_5 (d := e + 1) h2 (by omega) hw1 (by decide) rfl hw2 (by rw [elw]; decide) elw c21 (by omega) q b1
      | false => exact zSi_8 (d := e + 1) h2 (by omega) hw1 (by decide) rfl hw2 (by rw [elw]; decide) elw c21 (by omega) q b1
    · cases brk with
      | true => exact zSi_7 (d := e + 1) h2 (by omega) hw1 (by decide) rfl hw2 (by rw [elw]; decide) elw c21 (by omega) (by omega) q1 q2 b1
      | false => exact zSi_10 (d := e + 1) h2 (by omega) hw1 (by decide) rfl hw2 (by rw [elw]; decide) elw c21 (by omega) (by omega) q1 q2 b1
  | some x =>
    obtain ⟨p1, p2, p3, p4, p5⟩ : 1 ≤ X 2 ∧ x.2.1 ≤ c ∧ sA S 77 (X 2 - 1) = nI x.2.1 ∧ sA S 78 (X 2 - 1) = nI x.2.2 ∧ x.2.2 ≤ tr' := hlp
    obtain ⟨q5, q6⟩ := rem_ge hK1
    have hn := hX.1
    obtain ⟨qa1, qa2, qa3, qa4⟩ := rm_gt (β := β) (n := n) (k := k) (by omega)
    obtain ⟨qa5, qa6⟩ := rem_ge qa4
    have qa7 := rm_w2 (β := β) (n := n) (k := k) (by omega)
    have hqk : qP β n k + 1 ≤ n := by
      have := (q_lt β n (k + 1)).1
      unfold rm at qa1
      omega
    have htq : tr' - x.2.2 ≤ 11 := by omega
    have hb3 : b < 3000 := by omega
    have hcH : c + (tr' - x.2.2) + 4 ≤ H := by omega
    have kxa : kX m S (wI 6115 (nI (k + 1)) S) := kX_wI (Or.inl rfl)
    have hEa : zE own0 m u S0 H B0 c w t (sc.1.length - 1) b (wI 6115 (nI (k + 1)) S) := zE_wI h1 (by decide)
    have z0 : zO β n V (zPT (qK β n) (qI β n) V T) (agT T sc.1) own0 m u S0 H B0 X (X 2 - 1) (wI 6115 (nI (k + 1)) S) c w t (sc.1.length - 1) b (k + 1) [] (sc.1.length - 1) (wI 6115 (nI (k + 1)) S) := zO_nil hEa (rIe _ _ _) ((rIn _ _ (by decide)).trans h3)
    have hlw : lw < 2 ^ 20 := by rw [elw]; cases brk <;> decide
    obtain ⟨S2, hU, u1, u2, u3, u4, u5, u6⟩ := untr_L (d := e + 1) hX h12 hlw (tr' - x.2.2) x.2.2 c _ hEa (by rw [rIn _ _ (by decide), c31]; exact congrArg nI (by omega)) (by omega) (by omega)
    have wU := zuW (qK β n) p5
    obtain ⟨U, hUe⟩ : ∃ U, U = untr tr' x.2.2 := ⟨_, rfl⟩
    have nU := zuT (qK β n) (tr := tr') (tl := x.2.2)
    have n13 : ∀ o, o ∈ U → o.1 = 13 := by rw [hUe]; exact zuN
    have n60U : n60 U := fun o ho => by rw [n13 o ho]; decide
    have bU : zbk (qK β n) c U = [] := zbk_n _ _ _ n60U
    have z1 : zO β n V (zPT (qK β n) (qI β n) V T) (agT T sc.1) own0 m u S0 H B0 X (X 2 - 1) (wI 6115 (nI (k + 1)) S) c w t (sc.1.length - 1) b (k + 1) U (sc.1.length - 1) S2 := by
      rw [hUe]
      refine ⟨?_, u5.trans (rIe _ _ _), u6.trans ((rIn _ _ (by decide)).trans h3), fun _ => ?_, fun o ho q => ?_, kX_kW u4 u3, kX_kA u4, Nat.le_refl _, fun i p hp => ?_⟩
      · rw [wU, nU.1, nU.2, ← hUe, bU]
        exact u1
      · unfold untr
        by_cases eq : x.2.2 < tr'
        · rw [if_pos eq]
          refine ⟨⟨fun i y hy => ?_, fun q => absurd q (by show (13 : Nat) ≠ 16; decide), fun q => absurd q (by show (13 : Nat) ≠ 16; decide), fun q => absurd q (by show (13 : Nat) ≠ 16; decide)⟩, trivial⟩
          have hy' : (List.replicate (tr' - x.2.2) (nI 35))[i]? = some y := hy
          rw [List.getElem?_replicate] at hy'
          by_cases ei : i < tr' - x.2.2
          · rw [if_pos ei] at hy'
            injection hy' with hy'
            rw [← hy']
            exact u2 i ei
          · rw [if_neg ei] at hy'
            cases hy'
        · rw [if_neg eq]
          trivial
      · rw [zuN o ho] at q
        cases q
      · rw [← hUe, bU] at hp
        cases hp
    rw [← hUe] at wU nU
    have hL2 : sI S2 6126 = nI (X 2) := (u4.1 _ (by decide) (by decide) (by decide) (by decide) (by decide)).trans ((rIn _ _ (by decide)).trans c21)
    have htr2 : sI S2 6127 = nI tr' := (u4.1 _ (by decide) (by decide) (by decide) (by decide) (by decide)).trans ((rIn _ _ (by decide)).trans c31)
    have h77 : sA S2 77 (X 2 - 1) = nI x.2.1 := by rw [(u4.2.1 77 (by decide) (by decide) (by decide) (by decide)).1]; exact p3
    have kx2 := kX_trans kxa u4
    have htk : ∀ j, k ≤ j → j < k + 1 → 3 ≤ qK β n j := fun j j1 j2 => by
      obtain rfl : j = k := by omega
      omega
    cases brk with
    | false =>
      obtain ⟨S3, hJ, z3, -, kx3⟩ := zO_jump (d := e) (z := x.2.1) hX z1 (by rw [wU]; omega) h12 (by omega) ((x.1 : Int) - (ca + wC U : Nat))
      have hP : psLv (qK β n) (qL β n) (some x) tr' ca c false sc at' k = ln (qK β n) (qL β n k) (k + 1) (U ++ [(4, [], (x.1 : Int) - (ca + wC U : Nat), (x.2.1 : Int) - (c + wR (qK β n) U + 1 : Nat))]) sc at' := by rw [hUe]; rfl
      have wF : wR (qK β n) (U ++ [(4, [], (x.1 : Int) - (ca + wC U : Nat), (x.2.1 : Int) - (c + wR (qK β n) U + 1 : Nat))]) = wR (qK β n) U + 2 := by rw [wR_app]; rfl
      have nF : nwN (qK β n) (U ++ [(4, [], (x.1 : Int) - (ca + wC U : Nat), (x.2.1 : Int) - (c + wR (qK β n) U + 1 : Nat))]) = 0 := by rw [nwN_app, nU.1]; rfl
      have tF : ntN (qK β n) (U ++ [(4, [], (x.1 : Int) - (ca + wC U : Nat), (x.2.1 : Int) - (c + wR (qK β n) U + 1 : Nat))]) = 0 := by rw [ntN_app, nU.2]; rfl
      refine ⟨S3, nI 1, ml (zSi_9 (d := e + 1) h2 (by omega) hw1 (by decide) rfl hw2 hlw elw c21 (by omega) (by omega) p1 p3 (by omega) p4 (by omega) (fun lv q0 q1 q2 => hU lv _ _ q0 q1 q2 (fun lv1 s0 s1 s2 => zLv_2 (d := e + 1) s0 s1 s2 hlw (by omega) htr2 (by omega) (by omega) elw hL2 (by omega) p1 h77 (by omega) hJ))), Or.inr ⟨k + 1, _, sc, hP, rfl, zH_X h0 (kX_trans kx2 kx3) ⟨kxa, fun _ _ _ _ _ => kW_wI _ _ _ _ _⟩ z3 (n60_app.mpr ⟨n60U, n60_1 (by show (4 : Nat) ≠ 60; decide)⟩) (by rw [wF]; omega) (by rw [nF]; omega) (by rw [tF]; omega) htk (by omega) rfl (scL_refl E sc)⟩⟩
    | true =>
      obtain ⟨L, hLe⟩ : ∃ L, X 2 = L + 1 := ⟨X 2 - 1, by omega⟩
      have bU0 : b + (zbk (qK β n) c U).length = b := by rw [bU]; rfl
      have z1e := z1.1
      rw [bU0] at z1e
      obtain ⟨S3, hB3, g1, g2, g3, g4, g5, g6, g7, g8⟩ := zE_brk (d := e + 1) (L := L) hX z1e hb3 (by rw [wU]; omega) h12 (by rw [hL2, hLe]) (by omega)
      have z2 : zO β n V (zPT (qK β n) (qI β n) V T) (agT T sc.1) own0 m u S0 H B0 X (X 2 - 1) S2 (c + wR (qK β n) U) (w + nwN (qK β n) U) (t + ntN (qK β n) U) (sc.1.length - 1) (b + (zbk (qK β n) c U).length) (k + 1) [(60, [], 0, 0)] (sc.1.length - 1) S3 := by
        rw [bU0]
        refine ⟨g1, (g6 _ (by omega) (by decide)).trans z1.2.1, (g6 _ (by omega) (by decide)).trans z1.2.2.1, fun _ => ⟨⟨one_w g3, fun q => absurd q (by show (60 : Nat) ≠ 16; decide), fun q => absurd q (by show (60 : Nat) ≠ 16; decide), fun q => absurd q (by show (60 : Nat) ≠ 16; decide)⟩, trivial⟩, w23_1 (by show (60 : Nat) ≠ 23; decide), g2, kA_eq (fun a ha => ?_), Nat.le_refl _, fun i p hp => ?_⟩
        · simp only [List.mem_cons, List.not_mem_nil, or_false] at ha
          exact g7 a (by omega) (by omega) (by omega) (by omega)
        · have hp' : [c + wR (qK β n) U + 1][i]? = some p := hp
          cases i with
          | zero =>
            injection hp' with hp'
            rw [← hp']
            exact ⟨g4, by rw [hLe]; exact g5⟩
          | succ i => cases hp'
      have z3 := zO_app (Y := X) z1 z2 (fun _ => Nat.le_refl _) id
      have hP : psLv (qK β n) (qL β n) (some x) tr' ca c true sc at' k = ln (qK β n) (qL β n k) (k + 1) (U ++ [(60, [], 0, 0)]) sc at' := by rw [hUe]; rfl
      have wF : wR (qK β n) (U ++ [(60, [], 0, 0)]) = wR (qK β n) U + 2 := by rw [wR_app]; rfl
      have nF : nwN (qK β n) (U ++ [(60, [], 0, 0)]) = 0 := by rw [nwN_app, nU.1]; rfl
      have tF : ntN (qK β n) (U ++ [(60, [], 0, 0)]) = 0 := by rw [ntN_app, nU.2]; rfl
      have bF : (zbk (qK β n) c (U ++ [(60, [], 0, 0)])).length = 1 := by rw [zbk_app, bU]; rfl
      refine ⟨S3, nI 1, ml (zSi_6 (d := e + 1) h2 (by omega) hw1 (by decide) rfl hw2 hlw elw c21 (by omega) (by omega) p1 p3 (by omega) p4 (by omega) (fun lv q0 q1 q2 => hU lv _ _ q0 q1 q2 (fun lv1 s0 s1 s2 => zLv_1 (d := e + 1) s0 s1 s2 hlw (by omega) htr2 (by omega) (by omega) (by rw [elw]; decide) (fun lv2 y0 => hB3 lv2 y0)))), Or.inr ⟨k + 1, _, sc, hP, rfl, zO_pre z3 (kW_wI _ _ _ _ _) kA_wI, fun i hi => ?_, zDf_E (zDf_X h5 kx2) g8, (fun q => by cases q), by rw [wF]; omega, by rw [nF]; omega, by rw [tF]; omega, by rw [bF]; exact Nat.le_refl _, htk, by omega, rfl, scL_refl E sc⟩⟩
      have e1 := kX_nx kx2 hi
      simp only [List.mem_cons, List.not_mem_nil, or_false] at hi
      exact (g6 i (by omega) (by omega)).trans e1
end
