/-! STATEMENTS OF THE REFERENCE: =, as a statement -/
section
variable {β : Nat → Nat} {n : Nat} {E : Nat → Nat → Bool} {V : Nat → Int32} {T : Nat → Nat × Nat} {P : Nat → Int32 → Int32 × Int32} {own0 : Nat → Nat × Nat} {m u k1 : Nat} {S0 S S1 S2 : cS} {H B0 W d l c w t f f1 b j s : Nat} {X Y : Nat → Nat} {o1 o2 : List Op} {A A1 : Prop}
theorem eq_a {k q0 q1 a b t : Nat} (h1 : a + t ≤ 4 * (q0 - k)) (h2 : b ≤ 4 * (q1 - (q0 + 1))) (h4 : k + 1 ≤ q0) (h5 : q0 + 2 ≤ q1) : b + a + t + 2 ≤ 13 * (q1 - k + 1) := by omega
theorem eq_c {k q0 q1 a b c R H r x t : Nat} (h : c + 13 * R ≤ H + 2) (hR : R = r + x) (hq : ∃ y, y + (q1 - k) ≤ r) (h1 : a + t ≤ 4 * (q0 - k)) (h2 : b ≤ 4 * (q1 - (q0 + 1))) (h4 : k + 1 ≤ q0) (h5 : q0 + 2 ≤ q1) : c + b + a ≤ H ∧ c + (b + a) + 4 ≤ H := by
  obtain ⟨y, hy⟩ := hq
  omega
theorem z_eq {dp ind tr af k e : Nat} {opn : Nat → Nat} {lp : LpT} {sc : SCs} {at' : List Nat} {r : Nat × Nat × List Op} (hX : zX β n V own0 m k1 S0) (h : zIs β n E V T own0 m u k1 S0 H B0 W 0 opn dp ind s lp tr sc at' X af c w t b k S) (hD : 238 ≤ e + 9) (hex : exs (qK β n) s k = some r) (z1 : zO β n V (zPT (qK β n) (qI β n) V T) (agT T sc.1) own0 m u S0 H B0 X (X 2 - 1) S c w t (sc.1.length - 1) b r.1 r.2.2 (sc.1.length - 1) S1) (kx1 : kX m S S1) (n1 : n60 r.2.2) (hta : r.2.1 ≠ 0 → sI S1 6132 = nI (c + wR (qK β n) r.2.2 - trl r.2.1)) (htk : ∀ j, k ≤ j → j < r.1 → 3 ≤ qK β n j) (y2 : k + 1 ≤ r.1) (y4 : nwN (qK β n) r.2.2 ≤ r.1 - k) (y5 : ntN (qK β n) r.2.2 ≤ r.1 - k) (hlg : r.2.1 < 5) (hs : qK β n r.1 = 19) : ∃ S2 v, (∀ lv : sm_L, sm_get lv 0 = some (.ref 61) → sm_get lv 1 = some (.int (nI c)) → sm_get lv 2 = some (.int (nI r.2.1)) → sm_get lv 3 = some (.int (sA S1 68 (r.1 - 1))) → Bod (e + 9) 305 35 lv [] S1 (some (.int v)) S2) ∧ zLn β n E V T own0 m u S0 H B0 W lp sc at' X S c w t b k (if r.2.1 = 0 then .inl (qL β n k) else pb (qL β n k) (exs (qK β n) s (r.1 + 1)) fun q => ln (qK β n) (qL β n k) q.1 (q.2.2 ++ rtl 19 41 46 r.2.2) (scT E s r.2.1 (r.1 - 1) sc) at') v S2 := by
  obtain ⟨h0, ⟨r1, r2, r3, r4⟩, hls, hK1, hI, hx1, hx2, hx3⟩ := id h
  obtain ⟨h1, h2, h3, h4, h5, h6, h7, h8, h9, h10, h11, h12, h13⟩ := id h0
  obtain ⟨⟨c01, c02, c03, c04, c05⟩, ⟨c11, c12⟩, -, -, c4, c5, -, -, -, c9, c10⟩ := id h4
  have hk1 := hX.2.1
  have hn3 := hX.1
  have hm1 := hX.2.2.2.2.1
  have y3 := exs_4 hex
  have hrk := r_k1 hX h7 htk
  obtain ⟨q5, q6⟩ := rem_ge hK1
  obtain ⟨y6, y7, y8, y9⟩ := rm_run (β := β) (n := n) (k := k) (k1 := r.1) (by omega) htk
  obtain ⟨u1, u2, u3, u4⟩ := rm_gt (β := β) (n := n) (k := r.1) (by omega)
  obtain ⟨u5, u6⟩ := rem_ge u4
  have hrk2 := q_end hX hrk (by omega)
  have hrm : rm β n k ≤ 3001 := by
    unfold rm
    omega
  obtain ⟨t1, -, -, -, t5, -, -, t8⟩ := z_tok hX z1.1 hrk
  have e5 : rkd (qK β n r.1) = 5 := rkd_5.mpr (by omega)
  have t68 := t5.trans (t8 (by omega) (by omega))
  have ers : rsg (qK β n r.1) = 61 := by rw [hs]; rfl
  rw [ers] at t68
  have hcM : c < 2 ^ 20 := by omega
  by_cases hg : r.2.1 = 0
  · obtain ⟨b1, b2⟩ := z_bad (d := e + 7) (j := r.1) hX z1.1 z1.2.1 z1.2.2.1 hrk (W := W) (by omega) (by omega) h11
    have ef : fl β n r.1 = flq (qL β n k) := by
      rw [← y7]
      rfl
    rw [ef] at b1 b2
    exact ⟨_, nI 0, fun lv q0 q1 q2 q3 => zAt_10 (d := e + 1) q0 q1 q2 q3 hcM (by omega) z1.2.1 (by omega) t1 (by omega) e5 t68 (by decide) rfl hg b1, Or.inl ⟨if_pos hg, rfl, b2⟩⟩
  obtain ⟨os', S2, hrt, hg3, hK3, hr1, hA2, z2, kx2, eW, eN, eT, hS2, o, ho⟩ := z_cutT (d := e + 8) hX hex hg z1 (hta hg) (by omega)
  have kx12 := kX_trans kx1 kx2
  have n2 : n60 os' := by
    rw [ho] at n1
    exact (n60_app.mp n1).1
  have ht4 : 1 ≤ trl r.2.1 ∧ trl r.2.1 ≤ 4 := by
    unfold trl
    repeat' split
    all_goals omega
  rw [eW] at y3
  rw [if_neg hg]
  have hN2 := zN_X (zSc_N c9 c11 (show X 1 < 15 by omega) c4 c5) kx12
  obtain ⟨-, -, -, -, t5', -⟩ := z_tok hX z1.1 (j := r.1 - 1) (by omega)
  obtain ⟨own, N, Nw, Nt, Nd, Nb, ⟨m1, m2, s1, s2, s3, s4, g, s5, s6, s7⟩, -⟩ := id z2.1
  have hvc : sV S2 6114 = .ref m := (zE_m z2.1).2.2.1
  obtain ⟨lq, hlq⟩ : ∃ lq, lq = c + wR (qK β n) os' - c := ⟨_, rfl⟩
  have hlq2 : lq = wR (qK β n) os' := by omega
  have hlM : lq ≤ 15000 := by omega
  obtain ⟨S3, hS3⟩ : ∃ S3, S3 = wI 6115 (nI (r.1 + 1)) (wI (100 * m + 1) (nI c) (wF 85 (va_cpy (sA S2 g) (sA S2 85) c 0 lq) S2)) := ⟨_, rfl⟩
  have hE2 := z2.1
  rw [zbk_n _ _ _ n2] at hE2
  have hE3 : zE own0 m u S0 H B0 c (w + nwN (qK β n) os') (t + ntN (qK β n) os') (sc.1.length - 1) b S3 := by
    rw [hS3]
    exact zE_wI (zE_cut (zE_wF hE2 (by decide)) (Nat.le_add_right _ _)) (by decide)
  have i3 : ∀ i, i ≠ 6115 → i < 10800 → sI S3 i = sI S2 i := fun i e1 e2 => by
    rw [hS3]
    exact (rIn _ _ e1).trans (rIn _ _ (by omega))
  have a3 : ∀ a, a ≠ 85 → sA S3 a = sA S2 a := fun a ha => by
    rw [hS3]
    exact if_neg ha
  have a85 : ∀ i, i < lq → sA S3 85 i = cw S2 m (c + i) := fun i hi => by
    have e1 : sA S3 85 = va_cpy (sA S2 g) (sA S2 85) c 0 lq := by
      rw [hS3]
      show (if (85 : Nat) = 85 then va_cpy (sA S2 g) (sA S2 85) c 0 lq else sA S2 85) = _
      exact if_pos rfl
    rw [e1, cw_eq s5]
    unfold va_cpy
    rw [if_pos ⟨Nat.zero_le _, by omega⟩]
    exact congrArg _ (by omega)
  have hk23 : ∀ c' w' t' f' b', kW m c' w' t' f' b' S2 S3 := fun c' w' t' f' b' => by
    rw [hS3]
    exact kW_trans (kW_wF hE2 (by decide) c' w' t' f' b') (kW_trans (kW_wI c' w' t' f' b') (kW_wI c' w' t' f' b') (Nat.le_refl _) (Nat.le_refl _) (Nat.le_refl _) (Nat.le_refl _) (Nat.le_refl _)) (Nat.le_refl _) (Nat.le_refl _) (Nat.le_refl _) (Nat.le_refl _) (Nat.le_refl _)
  have hkA23 : kA X S2 S3 := kA_eq (fun a ha => a3 a (by
    simp only [List.mem_cons, List.not_mem_nil, or_false] at ha
    omega))
  have hN3 : zN (zPT (qK β n) (qI β n) V T) (agT T sc.1) s S3 := by
    obtain ⟨F, a, en, oa, o', ⟨v1, v2, v3, v4⟩, hP⟩ := hN2
    refine ⟨F, a, en, oa, o', ?_, fun hq x => ?_⟩
    · unfold scR
      rw [a3 75 (by decide), a3 83 (by decide), i3 6122 (by decide) (by decide), i3 6123 (by decide) (by decide), i3 6137 (by decide) (by decide)]
      exact ⟨v1, v2, v3, v4⟩
    · rw [hP hq]
      unfold nplc
      rw [a3 74 (by decide), a3 82 (by decide)]
  have h615 : sI S3 6115 = nI (r.1 + 1) := by rw [hS3]; exact rIe _ _ _
  have h616 : sI S3 6116 = nI 0 := (i3 _ (by decide) (by decide)).trans z2.2.2.1
  have hR : RQ β n (r.1 + 1) c (w + nwN (qK β n) os') (t + ntN (qK β n) os') H W := by
    unfold RQ
    unfold rm at u1 y6 u6
    have : rem β n k = n + 1 - qP β n k + qI β n k := q5
    rw [← eN, ← eT]
    refine ⟨by omega, by omega, by omega⟩
  obtain ⟨S4, v4, hA4, x1, x2⟩ := z_x (X := X) (l := X 2 - 1) (W := W) (D := e + 9) hX hE3 hN3 h615 h616 hrk2 hR h12 h13 h11 (by omega)
  have hz : (wI (100 * m + 1) (nI c) (wF 85 (va_cpy (sA S2 g) (sA S2 85) c 0 lq) S2)) = (wI (100 * m + 1) (nI c) (wF 85 (va_cpy (sA S2 g) (sA S2 85) c 0 lq) S2)) := rfl
  rw [hS3] at hA4
  have hk1' : sI (wI (100 * m + 1) (nI c) (wF 85 (va_cpy (sA S2 g) (sA S2 85) c 0 lq) S2)) 6115 = nI r.1 := (rIn _ _ (by omega)).trans z2.2.1
  cases hex2 : exs (qK β n) s (r.1 + 1) with
  | none =>
    obtain ⟨a1, a2⟩ := x1 hex2
    rw [a1] at hA4
    have ef : fl β n (r.1 + 1) = flq (qL β n k) := by
      rw [← y7, ← u3]
      rfl
    rw [ef] at a2
    exact ⟨S4, nI 0, fun lv q0 q1 q2 q3 => zAt_9 (d := e + 1) q0 q1 q2 q3 hcM (by omega) z1.2.1 (by omega) t1 (by omega) e5 t68 (by decide) rfl hg hA2 m1 hvc m2 s1 (by omega) (Nat.le_add_right _ _) s5 s6 (by omega) s2 (by rw [← hlq]; exact hlM) (by rw [← hlq]; exact hk1') (by omega) (by rw [← hlq]; exact hA4), Or.inl ⟨rfl, rfl, a2⟩⟩
  | some q =>
    obtain ⟨a1, z4, kx4, n4, -, -⟩ := x2 q hex2
    rw [a1] at hA4
    obtain ⟨v1, v2, -, v4, v5'⟩ := exs_3 hex2
    have v3 := exs_4 hex2
    have hkq : k < q.1 := Nat.lt_of_lt_of_le y2 (Nat.le_trans (Nat.le_add_right _ 2) v2)
    have htk2 : ∀ j, k ≤ j → j < q.1 → 3 ≤ qK β n j := fun j j1 j2 => by
      rcases Nat.lt_or_ge j r.1 with e1 | e1
      · exact htk j j1 e1
      · rcases Nat.lt_or_ge r.1 j with e2 | e2
        · exact v1 j e2 j2
        · rw [Nat.le_antisymm e2 e1, hs]
          decide
    obtain ⟨y10, -⟩ := rm_run (β := β) (n := n) (k := k) (k1 := q.1) (Nat.le_of_lt hkq) htk2
    obtain ⟨cp1, cp2⟩ := eq_c r1 q5 ⟨_, y10⟩ y3 v3 y2 v2
    obtain ⟨S5, hB5, z5, kx5⟩ := z_again (e := e) (lq := lq) (lg := r.2.1) (lnm := sA S1 68 (r.1 - 1)) hX z2 n2 hlq2 hlM (Nat.lt_trans hlg (by decide)) hk23 hkA23 a85 z4 n4 kx4 (by rw [hlq2]; exact cp1) h12
    have kx35 := kX_trans kx4 kx5
    obtain ⟨S6, p1, p2, p3, z6, kx6, o60, o16, lo⟩ := z_tgt (d := e + 4) (s := s) (g := r.2.1) (tk := r.1 - 1) tg_set hX z5 (zN_X hN3 kx35) hg3 hK3 (Nat.le_trans (Nat.sub_le _ _) hrk) (by rw [wR_app]; exact cp2) h12
    have kx36 := kX_trans kx35 kx6
    obtain ⟨sT1, sT2⟩ := scT_1 E s r.2.1 (r.1 - 1) sc h6
    have hfin : (q.2.2 ++ os') ++ [tgE 19 41 46 r.2.1 (r.1 - 1) s] = q.2.2 ++ rtl 19 41 46 r.2.2 := by rw [hrt, List.append_assoc]
    have n6 : n60 ((q.2.2 ++ os') ++ [tgE 19 41 46 r.2.1 (r.1 - 1) s]) := n60_app.mpr ⟨n60_app.mpr ⟨n4, n2⟩, n60_1 o60⟩
    have wF' : wR (qK β n) ((q.2.2 ++ os') ++ [tgE 19 41 46 r.2.1 (r.1 - 1) s]) = wR (qK β n) q.2.2 + wR (qK β n) os' + trl r.2.1 := by rw [wR_app, wR_app, wR1, lo]
    have nF : nwN (qK β n) ((q.2.2 ++ os') ++ [tgE 19 41 46 r.2.1 (r.1 - 1) s]) = nwN (qK β n) r.2.2 + nwN (qK β n) q.2.2 := by
      rw [nwN_app, (nt0 o16).1, nwN_app, eN, Nat.add_zero]
      exact Nat.add_comm _ _
    have tF : ntN (qK β n) ((q.2.2 ++ os') ++ [tgE 19 41 46 r.2.1 (r.1 - 1) s]) = ntN (qK β n) r.2.2 + ntN (qK β n) q.2.2 := by
      rw [ntN_app, (nt0 o16).2, ntN_app, eT, Nat.add_zero]
      exact Nat.add_comm _ _
    have hH6 : zH β n E V T own0 m u S0 H B0 lp sc X S c w t b k q.1 ((q.2.2 ++ os') ++ [tgE 19 41 46 r.2.1 (r.1 - 1) s]) (scT E s r.2.1 (r.1 - 1) sc) S6 := by
      refine ⟨z6, fun i hi => ?_, fun i e' he => ?_, fun _ => n6, by rw [wF']; exact eq_a y3 v3 y2 v2, by rw [nF]; exact aug_n y4 v4 y2 v2, by rw [tF]; exact aug_n y5 v5' y2 v2, by rw [zbk_n _ _ _ n6]; exact Nat.zero_le _, htk2, hkq, sT1, sT2⟩
      · have hi2 : i ≠ 6115 ∧ i < 10800 := by
          simp only [List.mem_cons, List.not_mem_nil, or_false] at hi
          clear hN2 hN3 htk htk2 v1 x1 x2 p1 p2 p3 hB5 hk23
          omega
        exact (kX_nx kx36 hi).trans ((i3 i hi2.1 hi2.2).trans (kX_nx kx12 hi))
      · have e1 := (hk23 0 0 0 (i + 1) 0).2.1 i (Nat.lt_succ_self i)
        obtain ⟨f1, f2, f3, f4⟩ := zDf_X h5 kx12 i e' he
        exact ⟨(congrFun kx36.2.2.1 i).trans (e1.1.trans f1), (congrFun kx36.2.2.2.1 i).trans (e1.2.1.trans f2), (congrFun kx36.2.2.2.2.1 i).trans (e1.2.2.1.trans f3), (congrFun kx36.2.2.2.2.2.1 i).trans (e1.2.2.2.trans f4)⟩
    rw [hfin] at hH6
    refine ⟨S6, nI 1, fun lv q0 q1 q2 q3 => zAt_8 (d := e + 1) q0 q1 q2 q3 hcM (Nat.lt_trans hlg (by decide)) z1.2.1 (Nat.lt_of_le_of_lt hrk hk1) t1 (by rw [e5]; decide) e5 t68 (by decide) rfl hg hA2 m1 hvc m2 s1 ?_ (Nat.le_add_right _ _) s5 s6 ?_ s2 (by rw [← hlq]; exact hlM) (by rw [← hlq]; exact hk1') (Nat.lt_of_le_of_lt hrk hk1) (by rw [← hlq]; exact hA4) (fun lv1 b0 b2 b3 b5 => hB5 (fun lv2 c0 c2 c3 => ?_) lv1 b0 b2 b3 (by rw [hlq]; exact b5)), Or.inr ⟨q.1, _, _, rfl, rfl, hH6⟩⟩
    · clear hN2 hN3 htk htk2 v1 x1 x2 p1 p2 p3 hB5 hk23 hg3 hK3
      omega
    · clear hN2 hN3 htk htk2 v1 x1 x2 p1 p2 p3 hB5 hk23 hg3 hK3
      omega
    · rcases hg3 with g1 | g1 | g1
      · exact zAe_3 (d := e + 1) c0 c2 c3 (Nat.lt_trans hlg (by decide)) g1 (by rw [t5']; exact p1 g1)
      · exact zAe_2 (d := e + 1) c0 c2 c3 (Nat.lt_trans hlg (by decide)) (by rw [g1]; decide) g1 (p2 g1)
      · exact zAe_1 (d := e + 1) c0 c2 c3 (Nat.lt_trans hlg (by decide)) (by rw [g1]; decide) (by rw [g1]; decide) (by rw [t5']; exact p3 g1)
end
