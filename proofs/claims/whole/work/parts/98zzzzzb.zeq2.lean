/-! STATEMENTS OF THE REFERENCE: =, whole -/
section
variable {β : Nat → Nat} {n : Nat} {E : Nat → Nat → Bool} {V : Nat → Int32} {T : Nat → Nat × Nat} {P : Nat → Int32 → Int32 × Int32} {own0 : Nat → Nat × Nat} {m u k1 : Nat} {S0 S S1 S2 : cS} {H B0 W d l c w t f f1 b j s : Nat} {X Y : Nat → Nat} {o1 o2 : List Op} {A A1 : Prop}
/-- behind the value: the target's words once more -/
theorem z_again {e q1 lq lg : Nat} {lnm : Int32} {os' os2 : List Op} {S3 S4 : cS} (hX : zX β n V own0 m k1 S0) (z2 : zO β n V P A own0 m u S0 H B0 X l S c w t f b j os' f S2) (n2 : n60 os') (hlq : lq = wR (qK β n) os') (hlM : lq ≤ 15000) (hlg : lg < 2 ^ 20) (hk23 : ∀ c' w' t' f' b', kW m c' w' t' f' b' S2 S3) (hkA23 : kA X S2 S3) (h85 : ∀ i, i < lq → sA S3 85 i = cw S2 m (c + i)) (z4 : zO β n V P A own0 m u S0 H B0 X l S3 c (w + nwN (qK β n) os') (t + ntN (qK β n) os') f b q1 os2 f S4) (n4 : n60 os2) (kx4 : kX m S3 S4) (hc : c + wR (qK β n) os2 + lq ≤ H) (hH : H ≤ 40000) : ∃ S5, (∀ {v : Option Value} {Sf : cS}, (∀ lv1 : sm_L, sm_get lv1 0 = some (.ref 61) → sm_get lv1 2 = some (.int (nI lg)) → sm_get lv1 3 = some (.int lnm) → Bod (e + 9) 305 167 lv1 [] S5 v Sf) → ∀ lv : sm_L, sm_get lv 0 = some (.ref 61) → sm_get lv 2 = some (.int (nI lg)) → sm_get lv 3 = some (.int lnm) → sm_get lv 5 = some (.int (nI lq)) → Bod (e + 9) 305 140 lv [] S4 v Sf) ∧ zO β n V P A own0 m u S0 H B0 X l S c w t f b q1 (os2 ++ os') f S5 ∧ kX m S4 S5 := by
  obtain ⟨a1, a2, a3, a4, a5, a6, a7, a8, a9⟩ := z2
  obtain ⟨e1, e2, e3, e4, e5, e6, e7, e8, e9⟩ := z4
  rw [zbk_n _ _ _ n4] at e1
  obtain ⟨S5, hB5, z5, kx5, kr5, cw5, i5, i6⟩ := z_words (e := e) (lq := lq) (lg := lg) (lnm := lnm) (c := c + wR (qK β n) os2) hX hc hH hlM hlg lq 0 S4 (Nat.zero_add _) e1
  have n24 : n60 (os2 ++ os') := n60_app.mpr ⟨n4, n2⟩
  have eW : c + wR (qK β n) (os2 ++ os') = c + wR (qK β n) os2 + lq := by rw [wR_app, hlq]; omega
  have eN : w + nwN (qK β n) (os2 ++ os') = w + nwN (qK β n) os' + nwN (qK β n) os2 := by rw [nwN_app]; omega
  have eT : t + ntN (qK β n) (os2 ++ os') = t + ntN (qK β n) os' + ntN (qK β n) os2 := by rw [ntN_app]; omega
  have eB : zbk (qK β n) c (os2 ++ os') = [] := zbk_n _ _ _ n24
  refine ⟨S5, fun {v Sf} hB lv q0 q2 q3 q5 => zAk0_1 (d := e + 1) q0 q2 q3 q5 hlg (by omega) (fun lv1 b0 b2 b3 b5 b6 => hB5 hB lv1 b0 b2 b3 b5 b6), ?_, kx5⟩
  unfold zO
  rw [eW, eN, eT, eB]
  refine ⟨z5, i5.trans e2, i6.trans e3, fun hq => (lsS_app os2 c).mpr ⟨?_, ?_⟩, w23_app.mpr ⟨e5, a5⟩, kW_trans a6 (kW_trans (hk23 c w t f b) (kW_trans e6 (kX_kW kx5 kr5 (f := f) (b := b)) (by omega) (by omega) (by omega) (Nat.le_refl _) (Nat.le_refl _)) (Nat.le_refl _) (Nat.le_add_right _ _) (Nat.le_add_right _ _) (Nat.le_refl _) (Nat.le_refl _)) (Nat.le_refl _) (Nat.le_refl _) (Nat.le_refl _) (Nat.le_refl _) (Nat.le_refl _), kA_trans a7 (kA_trans hkA23 (kA_trans e7 (kX_kA kx5))), Nat.le_refl _, fun i p hp => by cases hp⟩
  · exact lsS_mv (S := S4) (S1 := S5) (fun i hi => kr5.2.1 i hi) (fun i hi => kr5.2.2 i hi) (Nat.le_refl _) (Nat.le_refl _) os2 c c e5 (fun i hi => kr5.1 (c + i) (by omega)) (e4 hq)
  · refine lsS_mv (S := S2) (S1 := S5) (w := w + nwN (qK β n) os') (t := t + ntN (qK β n) os') (fun i hi => ?_) (fun i hi => ?_) (Nat.le_add_right _ _) (Nat.le_add_right _ _) os' c (c + wR (qK β n) os2) a5 (fun i hi => ?_) (a4 hq)
    · exact (kr5.2.1 i (by omega)).trans ((e6.1.2.1 i hi).trans ((hk23 0 (i + 1) 0 0 0).1.2.1 i (Nat.lt_succ_self i)))
    · obtain ⟨u1, u2⟩ := kr5.2.2 i (by omega)
      obtain ⟨v1, v2⟩ := e6.1.2.2 i hi
      obtain ⟨x1, x2⟩ := (hk23 0 0 (i + 1) 0 0).1.2.2 i (Nat.lt_succ_self i)
      exact ⟨u1.trans (v1.trans x1), u2.trans (v2.trans x2)⟩
    · have hi' : i < lq := by omega
      refine (cw5 i (Nat.zero_le _) hi').trans ?_
      rw [(kx4.2.1 85 (by omega) (by omega) (by omega) (by omega)).1]
      exact h85 i hi'
end
