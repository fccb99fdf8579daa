/-! STATEMENTS OF THE REFERENCE: pass, return, raise, del -/
section
variable {β : Nat → Nat} {n : Nat} {E : Nat → Nat → Bool} {V : Nat → Int32} {T : Nat → Nat × Nat} {P : Nat → Int32 → Int32 × Int32} {own0 : Nat → Nat × Nat} {m u k1 : Nat} {S0 S S1 S2 : cS} {H B0 W d l c w t f f1 b j s : Nat} {X Y : Nat → Nat} {o1 o2 : List Op} {A A1 : Prop}
/-- a word's token -/
theorem z_word {k K : Nat} (hX : zX β n V own0 m k1 S0) (h : zE own0 m u S0 H B0 c w t f b S) (hk : k ≤ k1) (hK : qK β n k = 40 + K) (hK2 : K < 24) : sA S 67 k = nI 2 ∧ sA S 68 k = nI K := by
  obtain ⟨t1, -, -, -, t5, -, t7, -⟩ := z_tok hX h hk
  constructor
  · rw [t1, hK]
    unfold rkd
    rw [if_neg (by omega), if_neg (by omega)]
    repeat' split
    all_goals first | rfl | omega
  · rw [t5, t7 (by omega), hK]
    exact congrArg nI (by omega)
theorem z_pass {dp ind tr af k e : Nat} {opn : Nat → Nat} {lp : LpT} {sc : SCs} {at' : List Nat} (hX : zX β n V own0 m k1 S0) (h : zIs β n E V T own0 m u k1 S0 H B0 W 0 opn dp ind s lp tr sc at' X af c w t b k S) (hK : qK β n k = 51) : ∃ S1 v, Ans (e + 10) 304 [.ref 61] S (some (.int v)) S1 ∧ zLn β n E V T own0 m u S0 H B0 W lp sc at' X S c w t b k (ln (qK β n) (qL β n k) (k + 1) [] sc at') v S1 := by
  obtain ⟨h0, ⟨r1, r2, r3, r4⟩, hls, hK1, hI, hx1, hx2, hx3⟩ := h
  obtain ⟨h1, h2, h3, h4, h5, h6, h7, h8, h9, h10, h11, h12, h13⟩ := id h0
  have hk1 := hX.2.1
  obtain ⟨w1, w2⟩ := z_word (K := 11) hX h1 h7 hK (by decide)
  have kxa : kX m S (wI 6115 (nI (k + 1)) S) := kX_wI (Or.inl rfl)
  have z0 : zO β n V (zPT (qK β n) (qI β n) V T) (agT T sc.1) own0 m u S0 H B0 X (X 2 - 1) (wI 6115 (nI (k + 1)) S) c w t (sc.1.length - 1) b (k + 1) [] (sc.1.length - 1) (wI 6115 (nI (k + 1)) S) := zO_nil (zE_wI h1 (by decide)) (rIe _ _ _) ((rIn _ _ (by decide)).trans h3)
  exact ⟨_, nI 1, Ans.of (by rw [ml_304]; exact Nat.le_of_ble_eq_true rfl) (zSi_11 (d := e + 1) h2 (by omega) w1 (by decide) rfl w2 (by decide) rfl), Or.inr ⟨k + 1, [], sc, rfl, rfl, zH_X h0 kxa ⟨kxa, fun _ _ _ _ _ => kW_wI _ _ _ _ _⟩ z0 (fun o ho => by cases ho) (by show 0 + 2 ≤ _; omega) (Nat.zero_le _) (Nat.zero_le _) (fun j j1 j2 => by
    obtain rfl : j = k := by omega
    omega) (by omega) rfl (scL_refl E sc)⟩⟩
/-- an expression behind a word -/
theorem z_exl {dp ind tr af k e : Nat} {opn : Nat → Nat} {lp : LpT} {sc : SCs} {at' : List Nat} (hX : zX β n V own0 m k1 S0) (h : zIs β n E V T own0 m u k1 S0 H B0 W 0 opn dp ind s lp tr sc at' X af c w t b k S) (hK : 3 ≤ qK β n k) (hD : 238 ≤ e + 9) : ∃ S1 v, Ans (e + 9) 306 [.ref 61, .int (nI 0)] (wI 6115 (nI (k + 1)) S) (some (.int v)) S1 ∧ (exs (qK β n) s (k + 1) = none → v = nI 0 ∧ zB own0 m u S0 H B0 W (flq (qL β n k)) S1) ∧ ∀ r, exs (qK β n) s (k + 1) = some r → v = nI 1 ∧ zO β n V (zPT (qK β n) (qI β n) V T) (agT T sc.1) own0 m u S0 H B0 X (X 2 - 1) (wI 6115 (nI (k + 1)) S) c w t (sc.1.length - 1) b r.1 r.2.2 (sc.1.length - 1) S1 ∧ kX m S S1 ∧ n60 r.2.2 ∧ sI S1 6131 = nI r.2.1 ∧ (r.2.1 ≠ 0 → sI S1 6132 = nI (c + wR (qK β n) r.2.2 - trl r.2.1)) ∧ (∀ j, k ≤ j → j < r.1 → 3 ≤ qK β n j) ∧ k + 2 ≤ r.1 ∧ r.1 ≤ k1 ∧ wR (qK β n) r.2.2 ≤ 8 * (r.1 - (k + 1)) ∧ nwN (qK β n) r.2.2 ≤ r.1 - (k + 1) ∧ ntN (qK β n) r.2.2 ≤ r.1 - (k + 1) ∧ rm β n r.1 + (r.1 - k) ≤ rm β n k := by
  obtain ⟨h0, ⟨r1, r2, r3, r4⟩, hls, hK1, hI, hx1, hx2, hx3⟩ := h
  obtain ⟨h1, h2, h3, h4, h5, h6, h7, h8, h9, h10, h11, h12, h13⟩ := id h0
  have hk2 := q_end hX h7 hK1
  obtain ⟨q1, q2, q3, q4⟩ := rm_gt (β := β) (n := n) (k := k) hK
  obtain ⟨q5, q6⟩ := rem_ge hK1
  obtain ⟨q7, q8⟩ := rem_ge q4
  have kxa : kX m S (wI 6115 (nI (k + 1)) S) := kX_wI (Or.inl rfl)
  obtain ⟨S1, v, hA, x1, x2⟩ := zIs_x (q := k + 1) (D := e + 9) hX h0 kxa (zE_wI h1 (by decide)) (rIe _ _ _) ((rIn _ _ (by decide)).trans h3) hk2 (by omega) (by omega) (by omega) (by omega)
  refine ⟨S1, v, hA, fun hx => ?_, fun r hr => ?_⟩
  · obtain ⟨a1, a2⟩ := x1 hx
    have ef : fl β n (k + 1) = flq (qL β n k) := by rw [← q3]; rfl
    rw [ef] at a2
    exact ⟨a1, a2⟩
  · obtain ⟨a1, a2, a3, a4, a5, a6⟩ := x2 r hr
    obtain ⟨y1, y2, y3, y4, y5⟩ := exs_3 hr
    have htk : ∀ j, k ≤ j → j < r.1 → 3 ≤ qK β n j := fun j j1 j2 => by
      rcases Nat.lt_or_ge k j with e1 | e1
      · exact y1 j e1 j2
      · obtain rfl : j = k := by omega
        exact hK
    obtain ⟨y6, -⟩ := rm_run (β := β) (n := n) (k := k) (k1 := r.1) (by omega) htk
    exact ⟨a1, a2 X (X 2 - 1), kX_trans kxa a3, a4, a5, a6, htk, y2, r_k1 hX h7 htk, y3, y4, y5, y6⟩
theorem z_ret {dp ind tr af k e : Nat} {opn : Nat → Nat} {lp : LpT} {sc : SCs} {at' : List Nat} (hX : zX β n V own0 m k1 S0) (h : zIs β n E V T own0 m u k1 S0 H B0 W 0 opn dp ind s lp tr sc at' X af c w t b k S) (hK : qK β n k = 48) (hD : 238 ≤ e + 9) : ∃ S1 v, Ans (e + 10) 304 [.ref 61] S (some (.int v)) S1 ∧ zLn β n E V T own0 m u S0 H B0 W lp sc at' X S c w t b k (psRet (qK β n) (qL β n) s sc at' k) v S1 := by
  obtain ⟨h0, ⟨r1, r2, r3, r4⟩, hls, hK1, hI, hx1, hx2, hx3⟩ := id h
  obtain ⟨h1, h2, h3, h4, h5, h6, h7, h8, h9, h10, h11, h12, h13⟩ := id h0
  obtain ⟨⟨c01, c02, c03, c04, c05⟩, ⟨c11, c12⟩, -, -, -, -, -, -, -, c9, c10⟩ := id h4
  have hk1 := hX.2.1
  obtain ⟨w1, w2⟩ := z_word (K := 8) hX h1 h7 hK (by decide)
  have ml : ∀ {v' : Int32} {Sf : cS}, Bod (e + 9) 304 0 [(0, .ref 61)] [] S (some (.int v')) Sf → Ans (e + 10) 304 [.ref 61] S (some (.int v')) Sf := fun p => Ans.of (by rw [ml_304]; exact Nat.le_of_ble_eq_true rfl) p
  have hk2 := q_end hX h7 hK1
  obtain ⟨q1, q2, q3, q4⟩ := rm_gt (β := β) (n := n) (k := k) (by omega)
  obtain ⟨q5, q6⟩ := rem_ge hK1
  have kxa : kX m S (wI 6115 (nI (k + 1)) S) := kX_wI (Or.inl rfl)
  by_cases hs : s = 0
  · obtain ⟨b1, b2⟩ := z_bad (d := e + 7) (j := k) hX h1 h2 h3 h7 h9 h10 h11
    refine ⟨_, nI 0, ml (zSi_4 (d := e + 1) h2 (by omega) w1 (by decide) rfl w2 (by decide) rfl c11 (by omega) (c10.mp hs) b1), Or.inl ⟨if_pos hs, rfl, b2⟩⟩
  have hx0 : X 1 ≠ 0 := fun q => hs (c10.mpr q)
  have hEa := zE_wI (i := 6115) (x := nI (k + 1)) h1 (by decide)
  obtain ⟨t1, -⟩ := z_tok hX hEa hk2
  have hlt := rkd_lt (qK β n (k + 1))
  by_cases hn2 : qK β n (k + 1) = 2
  · have z0 : zO β n V (zPT (qK β n) (qI β n) V T) (agT T sc.1) own0 m u S0 H B0 X (X 2 - 1) (wI 6115 (nI (k + 1)) S) c w t (sc.1.length - 1) b (k + 1) [] (sc.1.length - 1) (wI 6115 (nI (k + 1)) S) := zO_nil hEa (rIe _ _ _) ((rIn _ _ (by decide)).trans h3)
    obtain ⟨S1, hA1, z1, kx1⟩ := zO_1 (d := e + 5) (o := (63, [], 0, 0)) (x := nI 1) hX z0 (by show c + 0 + 1 ≤ H; omega) h12 rfl (by decide) (by decide) (by decide) rfl
    obtain ⟨S2, hA2, z2, kx2⟩ := zO_1 (d := e + 5) (o := (8, [], 0, 0)) (x := nI 29) hX z1 (by show c + 1 + 1 ≤ H; omega) h12 rfl (by decide) (by decide) (by decide) rfl
    have kx := kX_trans kxa (kX_trans kx1 kx2)
    have hP : psRet (qK β n) (qL β n) s sc at' k = ln (qK β n) (qL β n k) (k + 1) [(63, [], 0, 0), (8, [], 0, 0)] sc at' := by
      unfold psRet ln
      rw [if_neg hs, if_pos hn2, if_pos hn2]
    exact ⟨_, nI 1, ml (zSi_3 (d := e + 1) h2 (by omega) w1 (by decide) rfl w2 (by decide) rfl c11 (by omega) hx0 t1 (by omega) (rkd_6.mpr hn2) hA1 hA2), Or.inr ⟨k + 1, _, sc, hP, rfl, zH_X h0 kx ⟨kxa, fun _ _ _ _ _ => kW_wI _ _ _ _ _⟩ z2 (fun o ho => by
      rcases List.mem_cons.mp ho with e1 | e1
      · rw [e1]; show (63 : Nat) ≠ 60; decide
      · rw [List.mem_singleton.mp e1]; show (8 : Nat) ≠ 60; decide) (by show 2 + 2 ≤ _; omega) (Nat.zero_le _) (Nat.zero_le _) (fun j j1 j2 => by
      obtain rfl : j = k := by omega
      omega) (by omega) rfl (scL_refl E sc)⟩⟩
  obtain ⟨S1, v, hA1, x1, x2⟩ := z_exl (e := e) hX h (by omega) hD
  have e6 : rkd (qK β n (k + 1)) ≠ 6 := fun q => hn2 (rkd_6.mp q)
  have hP : psRet (qK β n) (qL β n) s sc at' k = pb (qL β n k) (exs (qK β n) s (k + 1)) fun r => ln (qK β n) (qL β n k) r.1 (r.2.2 ++ [(8, [], 0, 0)]) sc at' := by
    unfold psRet
    rw [if_neg hs, if_neg hn2]
  rw [hP]
  cases hex : exs (qK β n) s (k + 1) with
  | none =>
    obtain ⟨a1, a2⟩ := x1 hex
    rw [a1] at hA1
    exact ⟨S1, nI 0, ml (zSi_2 (d := e + 1) h2 (by omega) w1 (by decide) rfl w2 (by decide) rfl c11 (by omega) hx0 t1 (by omega) e6 hA1), Or.inl ⟨rfl, rfl, a2⟩⟩
  | some r =>
    obtain ⟨a1, z1, kx1, n1, -, -, htk, y2, hrk, y3, y4, y5, y6⟩ := x2 r hex
    rw [a1] at hA1
    obtain ⟨S2, hA2, z2, kx2⟩ := zO_1 (d := e + 5) (o := (8, [], 0, 0)) (x := nI 29) hX z1 (by omega) h12 rfl (by decide) (by decide) (by decide) rfl
    have kx := kX_trans kx1 kx2
    have wF : wR (qK β n) (r.2.2 ++ [(8, [], 0, 0)]) = wR (qK β n) r.2.2 + 1 := by rw [wR_app]; rfl
    have nF : nwN (qK β n) (r.2.2 ++ [(8, [], 0, 0)]) = nwN (qK β n) r.2.2 := by rw [nwN_app]; rfl
    have tF : ntN (qK β n) (r.2.2 ++ [(8, [], 0, 0)]) = ntN (qK β n) r.2.2 := by rw [ntN_app]; rfl
    exact ⟨_, nI 1, ml (zSi_1 (d := e + 1) h2 (by omega) w1 (by decide) rfl w2 (by decide) rfl c11 (by omega) hx0 t1 (by omega) e6 hA1 hA2), Or.inr ⟨r.1, _, sc, rfl, rfl, zH_X h0 kx ⟨kxa, fun _ _ _ _ _ => kW_wI _ _ _ _ _⟩ z2 (n60_app.mpr ⟨n1, n60_1 (by show (8 : Nat) ≠ 60; decide)⟩) (by rw [wF]; omega) (by rw [nF]; omega) (by rw [tF]; omega) htk (by omega) rfl (scL_refl E sc)⟩⟩
theorem z_rse {dp ind tr af k e : Nat} {opn : Nat → Nat} {lp : LpT} {sc : SCs} {at' : List Nat} (hX : zX β n V own0 m k1 S0) (h : zIs β n E V T own0 m u k1 S0 H B0 W 0 opn dp ind s lp tr sc at' X af c w t b k S) (hK : qK β n k = 56) (hD : 238 ≤ e + 9) : ∃ S1 v, Ans (e + 10) 304 [.ref 61] S (some (.int v)) S1 ∧ zLn β n E V T own0 m u S0 H B0 W lp sc at' X S c w t b k (psRse (qK β n) (qL β n) s sc at' k) v S1 := by
  obtain ⟨h0, ⟨r1, r2, r3, r4⟩, hls, hK1, hI, hx1, hx2, hx3⟩ := id h
  obtain ⟨h1, h2, h3, h4, h5, h6, h7, h8, h9, h10, h11, h12, h13⟩ := id h0
  have hk1 := hX.2.1
  obtain ⟨w1, w2⟩ := z_word (K := 16) hX h1 h7 hK (by decide)
  have ml : ∀ {v' : Int32} {Sf : cS}, Bod (e + 9) 304 0 [(0, .ref 61)] [] S (some (.int v')) Sf → Ans (e + 10) 304 [.ref 61] S (some (.int v')) Sf := fun p => Ans.of (by rw [ml_304]; exact Nat.le_of_ble_eq_true rfl) p
  obtain ⟨q5, q6⟩ := rem_ge hK1
  have kxa : kX m S (wI 6115 (nI (k + 1)) S) := kX_wI (Or.inl rfl)
  obtain ⟨S1, v, hA1, x1, x2⟩ := z_exl (e := e) hX h (by omega) hD
  unfold psRse
  cases hex : exs (qK β n) s (k + 1) with
  | none =>
    obtain ⟨a1, a2⟩ := x1 hex
    rw [a1] at hA1
    exact ⟨S1, nI 0, ml (zSi_17 (d := e + 1) h2 (by omega) w1 (by decide) rfl w2 (by decide) rfl hA1), Or.inl ⟨rfl, rfl, a2⟩⟩
  | some r =>
    obtain ⟨a1, z1, kx1, n1, -, -, htk, y2, hrk, y3, y4, y5, y6⟩ := x2 r hex
    rw [a1] at hA1
    obtain ⟨S2, hA2, z2, kx2⟩ := zO_1 (d := e + 5) (o := (14, [], 0, 0)) (x := nI 30) hX z1 (by omega) h12 rfl (by decide) (by decide) (by decide) rfl
    have kx := kX_trans kx1 kx2
    have wF : wR (qK β n) (r.2.2 ++ [(14, [], 0, 0)]) = wR (qK β n) r.2.2 + 1 := by rw [wR_app]; rfl
    have nF : nwN (qK β n) (r.2.2 ++ [(14, [], 0, 0)]) = nwN (qK β n) r.2.2 := by rw [nwN_app]; rfl
    have tF : ntN (qK β n) (r.2.2 ++ [(14, [], 0, 0)]) = ntN (qK β n) r.2.2 := by rw [ntN_app]; rfl
    exact ⟨_, nI 1, ml (zSi_16 (d := e + 1) h2 (by omega) w1 (by decide) rfl w2 (by decide) rfl hA1 hA2), Or.inr ⟨r.1, _, sc, rfl, rfl, zH_X h0 kx ⟨kxa, fun _ _ _ _ _ => kW_wI _ _ _ _ _⟩ z2 (n60_app.mpr ⟨n1, n60_1 (by show (14 : Nat) ≠ 60; decide)⟩) (by rw [wF]; omega) (by rw [nF]; omega) (by rw [tF]; omega) htk (by omega) rfl (scL_refl E sc)⟩⟩
end
