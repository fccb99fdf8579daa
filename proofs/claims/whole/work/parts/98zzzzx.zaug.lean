/-! STATEMENTS OF THE REFERENCE: an expression alone, and what is added to a target -/
section
variable {β : Nat → Nat} {n : Nat} {E : Nat → Nat → Bool} {V : Nat → Int32} {T : Nat → Nat × Nat} {P : Nat → Int32 → Int32 × Int32} {own0 : Nat → Nat × Nat} {m u k1 : Nat} {S0 S S1 S2 : cS} {H B0 W d l c w t f f1 b j s : Nat} {X Y : Nat → Nat} {o1 o2 : List Op} {A A1 : Prop}
theorem zO_11 {o : Op} {x y : Int32} (hX : zX β n V own0 m k1 S0) (h : zO β n V P A own0 m u S0 H B0 X l S c w t f b j o1 f1 S1) (hc : c + wR (qK β n) o1 + 2 ≤ H) (hH : H ≤ 40000) (hl : lR (qK β n) o = 2) (hn : o.1 ≠ 16) (h60 : o.1 ≠ 60) (h23 : o.1 ≠ 23) (hw : wdS V P o = [x, y]) : ∃ S2 S3, Ans (d + 4) 322 [.ref 61, .int x] S1 none S2 ∧ Ans (d + 4) 322 [.ref 61, .int y] S2 none S3 ∧ zO β n V P A own0 m u S0 H B0 X l S c w t f b j (o1 ++ [o]) f1 S3 ∧ kX m S1 S3 := by
  obtain ⟨own, hE, hback⟩ := zE_rE h.1
  obtain ⟨S2, hA, r1, r2, r3, r4⟩ := rE_1 (d := d) hE (by omega) (zE_86 hX h.1) x
  obtain ⟨S3, hA3, t1, t2, t3, t4⟩ := rE_1 (d := d) r1 (by omega) (zE_86 hX h.1) y
  obtain ⟨z1, z2⟩ := hback S3 _ _ _ t1 hc
  have hm := hX.2.2.2.2.1
  exact ⟨S2, S3, hA, hA3, zO_put h (by rw [hl]; exact z1) z2 (kR_trans r2 t2 (Nat.le_add_right _ _) (Nat.le_refl _) (Nat.le_refl _)) ⟨(t4 _ (by omega)).trans (r4 _ (by omega)), (t4 _ (by omega)).trans (r4 _ (by omega))⟩ hn h60 (fun e => absurd e h23) (fun _ => by rw [hw]; exact two_w ((t2.1 _ (Nat.lt_succ_self _)).trans r3) t3), z2⟩
theorem zO_12 {o : Op} {x y z : Int32} (hX : zX β n V own0 m k1 S0) (h : zO β n V P A own0 m u S0 H B0 X l S c w t f b j o1 f1 S1) (hc : c + wR (qK β n) o1 + 3 ≤ H) (hH : H ≤ 40000) (hl : lR (qK β n) o = 3) (hn : o.1 ≠ 16) (h60 : o.1 ≠ 60) (h23 : o.1 ≠ 23) (hw : wdS V P o = [x, y, z]) : ∃ S2 S3, Ans (d + 4) 322 [.ref 61, .int x] S1 none S2 ∧ Ans (d + 4) 302 [.ref 61, .int y, .int z] S2 none S3 ∧ zO β n V P A own0 m u S0 H B0 X l S c w t f b j (o1 ++ [o]) f1 S3 ∧ kX m S1 S3 := by
  obtain ⟨own, hE, hback⟩ := zE_rE h.1
  obtain ⟨S2, hA, r1, r2, r3, r4⟩ := rE_1 (d := d) hE (by omega) (zE_86 hX h.1) x
  obtain ⟨S3, hA3, t1, t2, t3, t3', t4⟩ := rE_2 (d := d) r1 (by omega) (zE_86 hX h.1) y z
  obtain ⟨z1, z2⟩ := hback S3 _ _ _ t1 hc
  have hm := hX.2.2.2.2.1
  refine ⟨S2, S3, hA, hA3, zO_put h (by rw [hl]; exact z1) z2 (kR_trans r2 t2 (Nat.le_add_right _ _) (Nat.le_refl _) (Nat.le_refl _)) ⟨(t4 _ (by omega)).trans (r4 _ (by omega)), (t4 _ (by omega)).trans (r4 _ (by omega))⟩ hn h60 (fun e => absurd e h23) (fun _ => ?_), z2⟩
  rw [hw]
  intro i v hv
  match i, hv with
  | 0, hv => injection hv with hv; rw [← hv]; exact (t2.1 _ (Nat.lt_succ_self _)).trans r3
  | 1, hv => injection hv with hv; rw [← hv]; exact t3
  | 2, hv => injection hv with hv; rw [← hv]; exact t3'
  | i + 3, hv => cases hv
/-- what is behind an expression, when it isn't = -/
theorem z_pop {e lc : Nat} {lnm : Int32} {r : Nat × Nat × List Op} (hX : zX β n V own0 m k1 S0) (z : zO β n V P A own0 m u S0 H B0 X l S c w t f b r.1 r.2.2 f1 S1) (hc : c + wR (qK β n) r.2.2 + 1 ≤ H) (hH : H ≤ 40000) (hk : r.1 ≤ k1) (hlc : lc < 2 ^ 20) (hg : r.2.1 < 5) (hn : qK β n r.1 ≠ 19 ∧ qK β n r.1 ≠ 23 ∧ qK β n r.1 ≠ 24 ∧ qK β n r.1 ≠ 25) : ∃ S2, (∀ lv : sm_L, sm_get lv 0 = some (.ref 61) → sm_get lv 1 = some (.int (nI lc)) → sm_get lv 2 = some (.int (nI r.2.1)) → sm_get lv 3 = some (.int lnm) → Bod (e + 9) 305 35 lv [] S1 (some (.int 1)) S2) ∧ zO β n V P A own0 m u S0 H B0 X l S c w t f b r.1 (r.2.2 ++ [(17, [], 0, 0)]) f1 S2 ∧ kX m S1 S2 := by
  have hk1 := hX.2.1
  obtain ⟨S2, hA, z2, kx⟩ := zO_1 (d := e + 5) (o := (17, [], 0, 0)) (x := nI 20) hX z hc hH rfl (by decide) (by decide) (by decide) rfl
  obtain ⟨t1, -, -, -, t5, -, -, t8⟩ := z_tok hX z.1 hk
  have hlt := rkd_lt (qK β n r.1)
  refine ⟨S2, fun lv q0 q1 q2 q3 => ?_, z2, kx⟩
  by_cases h5 : rkd (qK β n r.1) = 5
  · obtain ⟨a1, a2⟩ := rkd_5.mp h5
    have t68 := t5.trans (t8 a1 a2)
    generalize hK : qK β n r.1 = K at *
    rcases (show K = 6 ∨ K = 7 ∨ K = 8 ∨ K = 9 ∨ K = 10 ∨ K = 11 ∨ K = 12 ∨ K = 13 ∨ K = 14 ∨ K = 15 ∨ K = 16 ∨ K = 17 ∨ K = 18 ∨ K = 20 ∨ K = 21 ∨ K = 22 ∨ K = 26 ∨ K = 27 ∨ K = 28 ∨ K = 29 ∨ 30 ≤ K by omega) with rfl | rfl | rfl | rfl | rfl | rfl | rfl | rfl | rfl | rfl | rfl | rfl | rfl | rfl | rfl | rfl | rfl | rfl | rfl | rfl | hK3
    case inr.inr.inr.inr.inr.inr.inr.inr.inr.inr.inr.inr.inr.inr.inr.inr.inr.inr.inr.inr =>
      have e0 : rsg K = 0 := by
        obtain ⟨q, hq⟩ : ∃ q, K - 6 = q + 24 := ⟨K - 30, by omega⟩
        unfold rsg
        rw [hq]
        rfl
      rw [e0] at t68
      exact zAt_2 (d := e + 1) q0 q1 q2 q3 hlc (by omega) z.2.1 (by omega) t1 (by omega) h5 t68 (by decide) (by decide) (by decide) hA
    case inr.inr.inr.inr.inr.inr.inr.inr.inr.inr.inr.inr.inr.inr.inr.inl => exact zAt_3 (d := e + 1) q0 q1 q2 q3 hlc (by omega) z.2.1 (by omega) t1 (by omega) h5 t68 (by decide) (by decide) (by decide) (by decide) hA
    case inr.inr.inr.inr.inr.inr.inr.inr.inr.inr.inr.inr.inr.inr.inr.inr.inl => exact zAt_6 (d := e + 1) q0 q1 q2 q3 hlc (by omega) z.2.1 (by omega) t1 (by omega) h5 t68 (by decide) (by decide) (by decide) (by decide) (by decide) (by decide) (by decide) hA
    case inr.inr.inr.inr.inr.inr.inr.inr.inr.inr.inr.inr.inr.inr.inr.inr.inr.inl => exact zAt_6 (d := e + 1) q0 q1 q2 q3 hlc (by omega) z.2.1 (by omega) t1 (by omega) h5 t68 (by decide) (by decide) (by decide) (by decide) (by decide) (by decide) (by decide) hA
    case inr.inr.inr.inr.inr.inr.inr.inr.inr.inr.inr.inr.inr.inr.inr.inr.inr.inr.inl => exact zAt_6 (d := e + 1) q0 q1 q2 q3 hlc (by omega) z.2.1 (by omega) t1 (by omega) h5 t68 (by decide) (by decide) (by decide) (by decide) (by decide) (by decide) (by decide) hA
    case inr.inr.inr.inr.inr.inr.inr.inr.inr.inr.inr.inr.inr.inr.inr.inr.inr.inr.inr.inl => exact zAt_6 (d := e + 1) q0 q1 q2 q3 hlc (by omega) z.2.1 (by omega) t1 (by omega) h5 t68 (by decide) (by decide) (by decide) (by decide) (by decide) (by decide) (by decide) hA
    all_goals exact zAt_2 (d := e + 1) q0 q1 q2 q3 hlc (by omega) z.2.1 (by omega) t1 (by omega) h5 t68 (by decide) (by decide) (by decide) hA
  · exact zAt_1 (d := e + 1) q0 q1 q2 q3 hlc (by omega) z.2.1 (by omega) t1 (by omega) h5 hA
end
