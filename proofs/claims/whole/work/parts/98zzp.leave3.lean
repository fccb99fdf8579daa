/-! LEAVING where no loop is: a fault of the class -/
section
variable {A : Nat → Int32} {n z0 fb l a c f ab lo : Nat} {S0 B : cS} {H : List Nat} {qa qc qf qe qs qn d : Nat}
theorem yB_lo {lo1 : Nat} {S : cS} (h : yB A n S0 z0 fb l a c f ab lo H qa qc qf qe qs qn B S) (h1 : a ≤ lo1) (h2 : lo1 ≤ lo) : yB A n S0 z0 fb l a c f ab lo1 H qa qc qf qe qs qn B S := by
  obtain ⟨g1, g2, g3, ⟨ps, t, k1, k2, k3, k4, k5⟩, g5, g6⟩ := h
  exact ⟨g1, g2, g3, ⟨ps, t, k1, k2, k3, chD_lo h2 _ _ k4, k5⟩, h1, g6⟩
theorem yB_4310 {S : cS} (h : yB A n S0 z0 fb l a c f ab lo H qa qc qf qe qs qn B S) (hlo : 40960 ≤ lo) : sI S 4310 = sI B 4310 := by
  obtain ⟨g1, g2, g3, ⟨ps, t, k1, k2, k3, k4, k5⟩, g5, g6⟩ := h
  cases ps with
  | nil => exact k3
  | cons p r =>
    exfalso
    have h1 := k4.1
    have h2 := k4.2.1
    omega
/-- a fault behind what is told or not, no jump out of the loop there -/
theorem yB_base0 {a2 c2 f2 : Nat} {S S2 S3 : cS} (hF : yF fb a c f ab S S2) (hq : sI S2 4310 = sI S 4310) (ha : a ≤ a2) (hc : c ≤ c2) (hf : f ≤ f2) (g : yB A n S0 z0 fb l a2 c2 f2 ab lo H qa qc qf qe qs qn S2 S3) : yB A n S0 z0 fb l a c f ab lo H qa qc qf qe qs qn S S3 := by
  obtain ⟨g1, ⟨a', c', f', s', e, sn, fn, av, tv, lv, l', b1, b2, b3, b4, b5, b6, b7, b8, b9, bfl, blo, bb⟩, g3, ⟨ps, t, k1', k2, k3, k4, k5⟩, g5, g6⟩ := g
  exact ⟨g1, ⟨a', c', f', s', e, sn, fn, av, tv, lv, l', b1, b2, b3, b4, b5, b6, b7, b8, b9, bfl, by omega, bb⟩, yF_trans hF g3 ha hc hf (Nat.le_refl _), ⟨ps, t, k1', k2, by rw [← hq]; exact k3, k4, k5⟩, by omega, g6⟩
theorem yB_brk {S : cS} (h : yB A n S0 z0 fb l a c f ab lo H qa qc qf qe qs qn B S) (hlo : 40960 ≤ lo) (ha2 : 2 ≤ a) (hq : qa + 2 ≤ 40960) : ∃ S1 t, Ans (d + 2) 54 [.ref 23, .int (nI 4), .int (sI S 4310)] S (some (.int (nI t))) S1 ∧ t < 2 ^ 20 ∧ yB A n S0 z0 fb l a c f ab a [] (qa + 2) qc qf qe qs qn B (wI 4310 (nI t) S1) := by
  obtain ⟨S1, t, p1, p2, p3, p4, p5⟩ := yB_put2 (d := d) (x0 := nI 4) (x1 := sI S 4310) h hq
  have e0 := yB_4310 h hlo
  obtain ⟨ps, t', k1, k2, k3, k4, k5⟩ := id p3.2.2.2.1
  have ht := k5 t List.mem_cons_self
  have hF : FrT [4310] [] [] [] S1 (wI 4310 (nI t) S1) := FrT_wI (by decide) (FrT.refl _ _ _ _ _)
  refine ⟨S1, t, p1, p2, yB_w (H1 := []) (yB_lo p3 (Nat.le_refl a) (by omega)) (hF.mono (by decide) (fun _ h => h) (fun _ h => by cases h) (fun _ h => by cases h)) (yC_S p3.2.1 (fun i hi => hF.1 i (by
    have : ∀ i, i ∈ [2307, 2308, 3214, 3211, 3213, 3212, 2309, 4305, 4308, 4311, 3106, 3108, 2310] → i ∉ [4310] := by decide
    exact this i hi))) (kQ_eq (fun _ _ => rfl) (fun _ _ => rfl)) ⟨[t], t', (hF.1 _ (by decide)).trans k1, k2, ⟨rIe _ _ _, ?_⟩, ⟨ht.1, p5, by omega, trivial⟩, fun x hx => by cases hx⟩ (yV_S p3.2.2.2.2.2 (fun i hi => hF.1 i (by
    have : ∀ i, i ∈ [3211, 3212, 3213] → i ∉ [4310] := by decide
    exact this i hi)) (fun _ _ => rfl))⟩
  show sA S1 24 (t + 1) = sI B 4310
  rw [p4, e0]
end
section
variable {A : Nat → Int32} {n z0 fb a0 s ab d : Nat} {S0 : cS}
theorem St_lv0 {a c f k dp tr ca ra : Nat} {lp : LpT} {brk : Bool} {sc : SCs} {at' : List Nat} {S : cS} (hX : yPre A n S0 z0) (h : yG A n S0 z0 fb a0 s ab k sc at' a c f S) (hz : yZ (rm (by1 A) n k) dp a c f sc.2.length sc.1.length (fb + sc.1.length - 1)) (hdp : dp ≤ 12) (hL : yLp a0 lp tr S) (hlp : lp = none) (hk : qK (by1 A) n k = if brk = true then 49 else 50) : ∃ S1, Ans (d + 14) 53 [.ref 43, .int (nI dp)] S none S1 ∧ yRes A n S0 z0 fb a0 s ab S a c f 39600 5152 1510 1510 (sbp [(1, [qL (by1 A) n k], 0, 0)] (psLv (qK (by1 A) n) (qL (by1 A) n) lp tr (ca + 2) (ra + 2) brk sc at' k)) S1 := by
  obtain ⟨c1, c2, c3, c4, c5, c6⟩ := yZ_c hz hdp
  obtain ⟨S1, p1, p2, p3, p4, p5, p6⟩ := St_1 (d := d + 5) hX.1.1 h c1
  have hG : yG A n S0 z0 fb a0 s ab k sc at' (a + 2) c f S1 := p2.1
  obtain ⟨S2, q1, q2, q3, q4⟩ := fail_T (d := d + 11) hX.1 hX.2 hG.1
  have b0 := yG_bad hX.1.1 hG q2 q3 q4 (lo := 40960) (by omega)
  have n1 := (yF_lp hL p2.2.2.2.1).2.2.1 hlp
  have hm9 : (4309 : Nat) ∉ yI := by decide
  have n2 : sI S2 4309 = Int32.ofInt (-1) := (b0.2.2.1.1.1 4309 hm9).trans n1
  have hr := yB_read (d := d + 11) b0
  obtain ⟨t, c', f', s', e, sn, fn, av, tv, lv, l', h1, h2, h3, h4, h5, h6, h7', h8, h9, hfl, hlo, g1, g2, g3, g4, g5, g6, g7, g8, g9, g10⟩ := yB_top b0
  have hst : ∀ S4 S5, Ans (d + 13) 114 [.ref 43, .int (nI (if brk = true then 1 else 0))] S1 none S4 → Ans (d + 13) 86 [.ref 31] S4 none S5 → Ans (d + 14) 53 [.ref 43, .int (nI dp)] S none S5 := fun S4 S5 u v => by
    cases brk with
    | true =>
      rw [show (if true = true then 49 else 50) = 49 from rfl] at hk
      rw [hk] at p5
      exact Ans.of (by rw [ml_53]; exact Nat.le_of_ble_eq_true rfl) (Bod.lv (by rfl) (cSt49_1 (d := d + 5) (by omega) p3 p4 (by omega) p1 p5 u v))
    | false =>
      rw [show (if false = true then 49 else 50) = 50 from rfl] at hk
      rw [hk] at p5
      exact Ans.of (by rw [ml_53]; exact Nat.le_of_ble_eq_true rfl) (Bod.lv (by rfl) (cSt50_1 (d := d + 5) (by omega) p3 p4 (by omega) p1 p5 u v))
  have hps : sbp [(1, [qL (by1 A) n k], 0, 0)] (psLv (qK (by1 A) n) (qL (by1 A) n) lp tr (ca + 2) (ra + 2) brk sc at' k) = .inl (qL (by1 A) n k) := by
    unfold psLv
    rw [hlp]
    rfl
  rw [hps]
  have hfin : ∀ S4, Ans (d + 13) 114 [.ref 43, .int (nI (if brk = true then 1 else 0))] S1 none S4 → yB A n S0 z0 fb (qL (by1 A) n k) (a + 2) c f ab (a + 2) [] (a + 6) c f sc.2.length sc.1.length (fb + sc.1.length - 1) S1 S4 → ∃ S5, Ans (d + 14) 53 [.ref 43, .int (nI dp)] S none S5 ∧ yRes A n S0 z0 fb a0 s ab S a c f 39600 5152 1510 1510 (.inl (qL (by1 A) n k)) S5 := fun S4 u v => by
    obtain ⟨S5, r1, r2⟩ := yB_nl (d := d + 11) v
    refine ⟨S5, hst S4 S5 u r1, (fun x hx => by cases hx), fun l hl => ?_⟩
    injection hl with hl
    subst hl
    exact yB_le (yB_base0 p2.2.2.2.1 p2.2.2.2.2.1 (by omega) (Nat.le_refl _) (Nat.le_refl _) r2) (by omega) (by omega) (by omega) (by omega) (by omega) (by omega)
  have hle : ∀ {q : Nat} {H : List Nat} {S4 : cS}, q ≤ a + 6 → yB A n S0 z0 fb (qL (by1 A) n k) (a + 2) c f ab 40960 H q c f sc.2.length sc.1.length (fb + sc.1.length - 1) S1 S4 → yB A n S0 z0 fb (qL (by1 A) n k) (a + 2) c f ab (a + 2) [] (a + 6) c f sc.2.length sc.1.length (fb + sc.1.length - 1) S1 S4 := fun {q H S4} hq h => yB_le (yB_H (yB_lo h (Nat.le_refl _) (by omega)) (fun x hx => by cases hx)) hq (Nat.le_refl _) (Nat.le_refl _) (Nat.le_refl _) (Nat.le_refl _) (Nat.le_refl _)
  have hle2 : ∀ {q : Nat} {S4 : cS}, q ≤ a + 6 → yB A n S0 z0 fb (qL (by1 A) n k) (a + 2) c f ab (a + 2) [] q c f sc.2.length sc.1.length (fb + sc.1.length - 1) S1 S4 → yB A n S0 z0 fb (qL (by1 A) n k) (a + 2) c f ab (a + 2) [] (a + 6) c f sc.2.length sc.1.length (fb + sc.1.length - 1) S1 S4 := fun {q S4} hq h => yB_le h hq (Nat.le_refl _) (Nat.le_refl _) (Nat.le_refl _) (Nat.le_refl _) (Nat.le_refl _)
  by_cases ht : lv < tv
  · obtain ⟨S3, t3, r1, r2, r3, r4, r5⟩ := yB_put2 (d := d + 10) (x0 := nI 13) (x1 := nI (tv - lv)) b0 (by omega)
    have n3 : sI S3 4309 = Int32.ofInt (-1) := (r3.2.2.1.1.1 4309 hm9).trans n1
    cases brk with
    | true =>
      obtain ⟨S4, t4, u1, u2, u3⟩ := yB_brk (d := d + 10) r3 (Nat.le_refl _) (by omega) (by omega)
      exact hfin _ (Ans.of (by rw [ml_114]; exact Nat.le_of_ble_eq_true rfl) (Bod.lv (by rfl) (cLxT_4 (d := d + 4) n1 q1 hr h6 (by omega) h7' (by omega) ht (by omega) r2 r1 u2 u1))) (hle2 (by omega) u3)
    | false =>
      obtain ⟨S4, t4, u1, u2, u3, u4, u5⟩ := yB_put2 (d := d + 10) (x0 := nI 4) (x1 := Int32.ofInt (-1)) r3 (by omega)
      exact hfin _ (Ans.of (by rw [ml_114]; exact Nat.le_of_ble_eq_true rfl) (Bod.lv (by rfl) (cLvC_8 (d := d + 4) n1 q1 hr h6 (by omega) h7' (by omega) ht (by omega) r2 r1 n3 u2 u1))) (hle (by omega) u3)
  · cases brk with
    | true =>
      obtain ⟨S4, t4, u1, u2, u3⟩ := yB_brk (d := d + 10) b0 (Nat.le_refl _) (by omega) (by omega)
      exact hfin _ (Ans.of (by rw [ml_114]; exact Nat.le_of_ble_eq_true rfl) (Bod.lv (by rfl) (cLxT_3 (d := d + 4) n1 q1 hr h6 (by omega) h7' (by omega) (by omega) u2 u1))) (hle2 (by omega) u3)
    | false =>
      obtain ⟨S4, t4, u1, u2, u3, u4, u5⟩ := yB_put2 (d := d + 10) (x0 := nI 4) (x1 := Int32.ofInt (-1)) b0 (by omega)
      exact hfin _ (Ans.of (by rw [ml_114]; exact Nat.le_of_ble_eq_true rfl) (Bod.lv (by rfl) (cLvC_6 (d := d + 4) n1 q1 hr h6 (by omega) h7' (by omega) (by omega) n2 u2 u1))) (hle (by omega) u3)
end
