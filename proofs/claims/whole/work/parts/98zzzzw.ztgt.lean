/-! STATEMENTS OF THE REFERENCE: targets, del -/
section
variable {β : Nat → Nat} {n : Nat} {E : Nat → Nat → Bool} {V : Nat → Int32} {T : Nat → Nat × Nat} {P : Nat → Int32 → Int32 × Int32} {own0 : Nat → Nat × Nat} {m u k1 : Nat} {S0 S S1 S2 : cS} {H B0 W d l c w t f f1 b j s : Nat} {X Y : Nat → Nat} {o1 o2 : List Op} {A A1 : Prop}
/-- the step that a target becomes -/
def tgE (a b cc g tk s : Nat) : Op := if g = 1 then (a, [tk, s], 0, 0) else if g = 2 then (b, [], 0, 0) else (cc, [tk], 0, 0)
def tgO (β : Nat → Nat) (n : Nat) (V : Nat → Int32) (P : Nat → Int32 → Int32 × Int32) (a b cc : Nat) (xa xb xc : Int32) : Prop := (∀ tk s, wdS V P (a, [tk, s], 0, 0) = [xa, V tk, (P s (V tk)).1, (P s (V tk)).2] ∧ lR (qK β n) (a, [tk, s], 0, 0) = 4 ∧ wdS V P (cc, [tk], 0, 0) = [xc, V tk] ∧ lR (qK β n) (cc, [tk], 0, 0) = 2) ∧ wdS V P (b, [], 0, 0) = [xb] ∧ lR (qK β n) (b, [], 0, 0) = 1 ∧ (a ≠ 16 ∧ a ≠ 60 ∧ a ≠ 23) ∧ (b ≠ 16 ∧ b ≠ 60 ∧ b ≠ 23) ∧ cc ≠ 16 ∧ cc ≠ 60 ∧ cc ≠ 23
theorem tg_del : tgO β n V P 20 43 48 (nI 7) (nI 25) (nI 26) := ⟨fun _ _ => ⟨rfl, rfl, rfl, rfl⟩, rfl, rfl, by decide, by decide, by decide⟩
theorem tg_set : tgO β n V P 19 41 46 (nI 6) (nI 21) (nI 22) := ⟨fun _ _ => ⟨rfl, rfl, rfl, rfl⟩, rfl, rfl, by decide, by decide, by decide⟩
theorem tg_put : tgO β n V P 19 42 47 (nI 6) (nI 23) (nI 24) := ⟨fun _ _ => ⟨rfl, rfl, rfl, rfl⟩, rfl, rfl, by decide, by decide, by decide⟩
/-- an expression's target is cut off -/
theorem z_cutT {q : Nat} {r : Nat × Nat × List Op} (hX : zX β n V own0 m k1 S0) (hex : exs (qK β n) s q = some r) (hg : r.2.1 ≠ 0) (z : zO β n V P A own0 m u S0 H B0 X l S c w t f b r.1 r.2.2 f1 S1) (ht : sI S1 6132 = nI (c + wR (qK β n) r.2.2 - trl r.2.1)) (hc : c + wR (qK β n) r.2.2 < 2 ^ 20) : ∃ os' S2, (∀ a bb cc, rtl a bb cc r.2.2 = os' ++ [tgE a bb cc r.2.1 (r.1 - 1) s]) ∧ (r.2.1 = 1 ∨ r.2.1 = 2 ∨ r.2.1 = 3) ∧ (r.2.1 ≠ 2 → qK β n (r.1 - 1) = 3) ∧ (r.2.1 = 1 → r.1 = q + 1) ∧ Ans (d + 1) 327 [.ref 61] S1 none S2 ∧ zO β n V P A own0 m u S0 H B0 X l S c w t f b r.1 os' f1 S2 ∧ kX m S1 S2 ∧ wR (qK β n) r.2.2 = wR (qK β n) os' + trl r.2.1 ∧ nwN (qK β n) r.2.2 = nwN (qK β n) os' ∧ ntN (qK β n) r.2.2 = ntN (qK β n) os' ∧ S2 = wI (100 * m + 1) (nI (c + wR (qK β n) os')) S1 ∧ ∃ o : Op, r.2.2 = os' ++ [o] := by
  obtain ⟨os', o, h1, h2⟩ := ex_tg hex hg
  obtain ⟨m1, m2, m3, m4, -⟩ := zE_m z.1
  have ho : wR (qK β n) [o] = trl r.2.1 ∧ o.1 ≠ 16 ∧ o.1 ≠ 60 := by
    rcases h2 with ⟨e1, _, e2, _⟩ | ⟨e1, e2⟩ | ⟨e1, e2, _⟩
    · rw [e1, e2]; exact ⟨rfl, by show (18 : Nat) ≠ 16; decide, by show (18 : Nat) ≠ 60; decide⟩
    · rw [e1, e2]; exact ⟨rfl, by show (39 : Nat) ≠ 16; decide, by show (39 : Nat) ≠ 60; decide⟩
    · rw [e1, e2]; exact ⟨rfl, by show (44 : Nat) ≠ 16; decide, by show (44 : Nat) ≠ 60; decide⟩
  have eW : wR (qK β n) r.2.2 = wR (qK β n) os' + trl r.2.1 := by rw [h1, wR_app, ho.1]
  have eN : nwN (qK β n) r.2.2 = nwN (qK β n) os' := by rw [h1, nwN_app, (nt0 ho.2.1).1]; rfl
  have eT : ntN (qK β n) r.2.2 = ntN (qK β n) os' := by rw [h1, ntN_app, (nt0 ho.2.1).2]; rfl
  have ht' : sI S1 6132 = nI (c + wR (qK β n) os') := ht.trans (congrArg nI (by omega))
  rw [h1] at z
  refine ⟨os', _, fun a bb cc => ?_, ?_, fun hn => ?_, fun hn => ?_, rcut m1 m2 m3 ht' (by omega), zO_cut hX z ho.2.1 ho.2.2 rfl, kX_cut m1, eW, eN, eT, rfl, o, h1⟩
  · rw [h1, rtl_app]
    unfold tgE
    rcases h2 with ⟨e1, _, e2, e3, _⟩ | ⟨e1, e2⟩ | ⟨e1, e2, _⟩
    · rw [e1, e2, if_pos rfl, e3]
      rfl
    · rw [e1, e2]
      rfl
    · rw [e1, e2]
      rfl
  · rcases h2 with ⟨e1, _⟩ | ⟨e1, _⟩ | ⟨e1, _⟩
    · exact Or.inl e1
    · exact Or.inr (Or.inl e1)
    · exact Or.inr (Or.inr e1)
  · rcases h2 with ⟨e1, _, _, e3, e4⟩ | ⟨e1, _⟩ | ⟨e1, _, e4⟩
    · rw [e3]; exact e4
    · exact absurd e1 hn
    · exact e4
  · rcases h2 with ⟨e1, _, _, e3, e4⟩ | ⟨e1, _⟩ | ⟨e1, _, e4⟩
    · exact e3
    · omega
    · omega
/-- what is put in its place -/
theorem z_tgt {a bb cc g tk : Nat} {xa xb xc : Int32} (hT : tgO β n V P a bb cc xa xb xc) (hX : zX β n V own0 m k1 S0) (z : zO β n V P A own0 m u S0 H B0 X l S c w t f b j o1 f1 S1) (hN : zN P A s S1) (hg : g = 1 ∨ g = 2 ∨ g = 3) (hV : g ≠ 2 → qK β n tk = 3) (htk : tk ≤ k1) (hc : c + wR (qK β n) o1 + 4 ≤ H) (hH : H ≤ 40000) : ∃ S2, (g = 1 → Ans (d + 5) 317 [.ref 61, .int xa, .int (V tk)] S1 none S2) ∧ (g = 2 → Ans (d + 5) 322 [.ref 61, .int xb] S1 none S2) ∧ (g = 3 → Ans (d + 5) 302 [.ref 61, .int xc, .int (V tk)] S1 none S2) ∧ zO β n V P A own0 m u S0 H B0 X l S c w t f b j (o1 ++ [tgE a bb cc g tk s]) f1 S2 ∧ kX m S1 S2 ∧ (tgE a bb cc g tk s).1 ≠ 60 ∧ (tgE a bb cc g tk s).1 ≠ 16 ∧ lR (qK β n) (tgE a bb cc g tk s) = trl g := by
  obtain ⟨t1, t2, t3, ⟨a1, a2, a3⟩, ⟨b1, b2, b3⟩, c1, c2, c3⟩ := hT
  obtain ⟨w1, w2, w3, w4⟩ := t1 tk s
  rcases hg with rfl | rfl | rfl
  · obtain ⟨nr, n1, n2, n3, n4⟩ := z_nm hX z.1 htk (hV (by decide))
    obtain ⟨S2, hA, z2, kx⟩ := zO_nm (d := d) (o := (a, [tk, s], 0, 0)) (x := xa) (r := nr) hX z hN (by omega) hH n1 w2 a1 a2 a3 (by rw [w1, n2])
    exact ⟨S2, fun _ => by rw [n2]; exact hA, (fun e => by cases e), (fun e => by cases e), z2, kx, a2, a1, w2⟩
  · obtain ⟨S2, hA, z2, kx⟩ := zO_1 (d := d + 1) (o := (bb, [], 0, 0)) (x := xb) hX z (by omega) hH t3 b1 b2 b3 t2
    exact ⟨S2, (fun e => by cases e), fun _ => hA, (fun e => by cases e), z2, kx, b2, b1, t3⟩
  · obtain ⟨S2, hA, z2, kx⟩ := zO_2 (d := d + 1) (o := (cc, [tk], 0, 0)) (x := xc) (y := V tk) hX z (by omega) hH w4 c1 c2 c3 w3
    exact ⟨S2, (fun e => by cases e), (fun e => by cases e), fun _ => hA, z2, kx, c2, c1, w4⟩
theorem scT_1 (E : Nat → Nat → Bool) (s g k : Nat) (sc : SCs) (hs : s < sc.1.length) : (scT E s g k sc).1 = sc.1 ∧ scL E sc (scT E s g k sc) := by
  unfold scT
  split
  · exact ⟨(scB_l E s k sc).1, scL_B E s k sc hs⟩
  · exact ⟨rfl, scL_refl E sc⟩
theorem z_del {dp ind tr af k e : Nat} {opn : Nat → Nat} {lp : LpT} {sc : SCs} {at' : List Nat} (hX : zX β n V own0 m k1 S0) (h : zIs β n E V T own0 m u k1 S0 H B0 W 0 opn dp ind s lp tr sc at' X af c w t b k S) (hK : qK β n k = 52) (hD : 238 ≤ e + 9) : ∃ S1 v, Ans (e + 11) 304 [.ref 61] S (some (.int v)) S1 ∧ zLn β n E V T own0 m u S0 H B0 W lp sc at' X S c w t b k (psDel (qK β n) (qL β n) E s sc at' k) v S1 := by
  obtain ⟨h0, ⟨r1, r2, r3, r4⟩, hls, hK1, hI, hx1, hx2, hx3⟩ := id h
  obtain ⟨h1, h2, h3, h4, h5, h6, h7, h8, h9, h10, h11, h12, h13⟩ := id h0
  obtain ⟨⟨c01, c02, c03, c04, c05⟩, ⟨c11, c12⟩, -, -, c4, c5, -, -, -, c9, c10⟩ := id h4
  have hk1 := hX.2.1
  obtain ⟨w1, w2⟩ := z_word (K := 12) hX h1 h7 hK (by decide)
  have ml : ∀ {v' : Int32} {Sf : cS}, Ans (e + 10) 328 [.ref 61] S (some (.int v')) Sf → (v' = nI 0 ∨ v' = nI 1) → Ans (e + 11) 304 [.ref 61] S (some (.int v')) Sf := fun p hv => Ans.of (by rw [ml_304]; exact Nat.le_of_ble_eq_true rfl) (by
    rcases hv with rfl | rfl
    · exact zSi_13 (d := e + 2) h2 (by omega) w1 (by decide) rfl w2 (by decide) rfl p
    · exact zSi_12 (d := e + 2) h2 (by omega) w1 (by decide) rfl w2 (by decide) rfl p)
  have ml2 : ∀ {v' : Int32} {Sf : cS}, Bod (e + 9) 328 0 [(0, .ref 61)] [] S (some (.int v')) Sf → Ans (e + 10) 328 [.ref 61] S (some (.int v')) Sf := fun p => Ans.of (by rw [ml_328]; exact Nat.le_of_ble_eq_true rfl) p
  obtain ⟨q5, q6⟩ := rem_ge hK1
  have kxa : kX m S (wI 6115 (nI (k + 1)) S) := kX_wI (Or.inl rfl)
  obtain ⟨S1, v, hA1, x1, x2⟩ := z_exl (e := e) hX h (by omega) hD
  unfold psDel
  cases hex : exs (qK β n) s (k + 1) with
  | none =>
    obtain ⟨a1, a2⟩ := x1 hex
    rw [a1] at hA1
    exact ⟨S1, nI 0, ml (ml2 (zDl_5 (d := e + 1) h2 (by omega) hA1)) (Or.inl rfl), Or.inl ⟨rfl, rfl, a2⟩⟩
  | some r =>
    obtain ⟨a1, z1, kx1, n1, htg, hta, htk, y2, hrk, y3, y4, y5, y6⟩ := x2 r hex
    rw [a1] at hA1
    by_cases hg : r.2.1 = 0
    · obtain ⟨b1, b2⟩ := z_bad (d := e + 7) (j := r.1) hX z1.1 z1.2.1 z1.2.2.1 hrk (W := W) (by omega) (by omega) h11
      have ef : fl β n r.1 = flq (qL β n k) := by
        obtain ⟨_, y7, _⟩ := rm_run (β := β) (n := n) (k := k) (k1 := r.1) (by omega) htk
        rw [← y7]
        rfl
      rw [ef] at b1 b2
      exact ⟨_, nI 0, ml (ml2 (zDl_4 (d := e + 1) h2 (by omega) hA1 z1.2.1 (by omega) (by omega) htg (by omega) hg b1)) (Or.inl rfl), Or.inl ⟨if_pos hg, rfl, b2⟩⟩
    obtain ⟨os', S2, hrt, hg3, hK3, hr1, hA2, z2, kx2, eW, eN, eT, -, o, ho⟩ := z_cutT (d := e + 8) hX hex hg z1 (hta hg) (by omega)
    have kx12 := kX_trans kx1 kx2
    have hN2 := zN_X (zSc_N c9 c11 (by omega) c4 c5) kx12
    have ht4 : trl r.2.1 ≤ 4 := by
      unfold trl
      repeat' split
      all_goals omega
    obtain ⟨t1, -, -, -, t5, -⟩ := z_tok hX z1.1 (j := r.1 - 1) (by omega)
    obtain ⟨S3, p1, p2, p3, z3, kx3, o60, o16, lo⟩ := z_tgt (d := e + 4) (s := s) (g := r.2.1) (tk := r.1 - 1) tg_del hX z2 hN2 hg3 hK3 (by omega) (by omega) h12
    have kx := kX_trans kx12 kx3
    rw [← hrt] at z3
    have hw3 : wR (qK β n) (rtl 20 43 48 r.2.2) = wR (qK β n) r.2.2 := by
      rw [hrt, wR_app, wR1, lo, eW]
    have hn3 : nwN (qK β n) (rtl 20 43 48 r.2.2) = nwN (qK β n) r.2.2 := by
      rw [hrt, nwN_app, (nt0 o16).1, eN]
      rfl
    have ht3 : ntN (qK β n) (rtl 20 43 48 r.2.2) = ntN (qK β n) r.2.2 := by
      rw [hrt, ntN_app, (nt0 o16).2, eT]
      rfl
    have hn60 : n60 (rtl 20 43 48 r.2.2) := by
      rw [hrt]
      rw [ho] at n1
      exact n60_app.mpr ⟨(n60_app.mp n1).1, n60_1 o60⟩
    obtain ⟨sT1, sT2⟩ := scT_1 E s r.2.1 (r.1 - 1) sc h6
    refine ⟨S3, nI 1, ml (ml2 ?_) (Or.inr rfl), Or.inr ⟨r.1, _, _, if_neg hg, rfl, zH_X h0 kx ⟨kxa, fun _ _ _ _ _ => kW_wI _ _ _ _ _⟩ z3 hn60 (by rw [hw3]; omega) (by rw [hn3]; omega) (by rw [ht3]; omega) htk (by omega) sT1 sT2⟩⟩
    rcases hg3 with g1 | g1 | g1
    · exact zDl_3 (d := e + 1) h2 (by omega) hA1 z1.2.1 (by omega) (by omega) htg (by omega) hg hA2 g1 (by rw [t5]; exact p1 g1)
    · exact zDl_2 (d := e + 1) h2 (by omega) hA1 z1.2.1 (by omega) (by omega) htg (by omega) hg hA2 (by omega) g1 (p2 g1)
    · exact zDl_1 (d := e + 1) h2 (by omega) hA1 z1.2.1 (by omega) (by omega) htg (by omega) hg hA2 (by omega) (by omega) (by rw [t5]; exact p3 g1)
end
