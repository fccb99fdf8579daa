/-! LEAVING A LOOP in the class: the statements break and continue -/
def yLp (a0 : Nat) (lp : LpT) (tr : Nat) (S : cS) : Prop := sI S 4308 = nI tr ∧ tr ≤ 100 ∧ (lp = none → sI S 4309 = Int32.ofInt (-1)) ∧ ∀ x, lp = some x → sI S 4309 = nI (a0 + x.1) ∧ a0 + x.1 < 2 ^ 20 ∧ sI S 4311 = nI x.2.2 ∧ x.2.2 ≤ 100
theorem yLp_S {a0 tr : Nat} {lp : LpT} {S S1 : cS} (h : yLp a0 lp tr S) (hI : ∀ i, i ∈ [4308, 4309, 4311] → sI S1 i = sI S i) : yLp a0 lp tr S1 := by
  obtain ⟨h1, h2, h3, h4⟩ := h
  refine ⟨(hI _ (by decide)).trans h1, h2, fun e => (hI _ (by decide)).trans (h3 e), fun x hx => ?_⟩
  obtain ⟨g1, g2, g3, g4⟩ := h4 x hx
  exact ⟨(hI _ (by decide)).trans g1, g2, (hI _ (by decide)).trans g3, g4⟩
section
variable {A : Nat → Int32} {n z0 fb a0 s ab d : Nat} {S0 B : cS}
theorem yF_lp {a c f tr : Nat} {lp : LpT} {S S1 : cS} (h : yLp a0 lp tr S) (hF : yF fb a c f ab S S1) : yLp a0 lp tr S1 := yLp_S h (fun i hi => hF.1.1 i (by
  have : ∀ i, i ∈ [4308, 4309, 4311] → i ∉ yI := by decide
  exact this i hi))
/-- a jump whose place is known -/
theorem yE_K {a c f k t u v : Nat} {j r : Int} {sc : SCs} {at' : List Nat} {S : cS} (h : yG A n S0 z0 fb a0 s ab k sc at' a c f S) (ht : (4 ≤ t ∧ t ≤ 7) ∨ t = 10 ∨ t = 12 ∨ t = 62) (hu : u = tgC t) (ha : a + 2 ≤ 40960) (hv : (v : Int) = a + j) : ∃ S1, Ans (d + 2) 54 [.ref 23, .int (nI u), .int (nI v)] S (some (.int (nI a))) S1 ∧ yOK A n S0 z0 fb a0 s ab S a c f (k, [(t, [], j, r)], sc, at') S1 := by
  have hF : FrT [2307] [] [24] [] S (wI 2307 (nI (a + 2)) (wA 24 (a + 1) (nI v) (wA 24 a (nI u) S))) := FrT_wI (by decide) (FrT_wA (by decide) (FrT_wA (by decide) (FrT.refl _ _ _ _ _)))
  have e1 : lC (t, [], j, r) = 2 := lC_2 (by dsimp only; omega)
  have e2 : cnO (t, [], j, r) = 0 := by unfold cnO; exact if_neg (by dsimp only; omega)
  have e3 : fxO (t, [], j, r) = 0 := by unfold fxO; exact if_neg (by dsimp only; omega)
  have hc := h.2.2.2.2.2.2.2.2.2.2.2.2.2.1
  have hf := h.2.2.2.2.2.2.2.2.2.2.2.2.2.2.2.1
  refine ⟨_, put2_ev (d := d) h.2.1.1 ha, yOK_e h (by dsimp only; omega) (hF.1 _ (by decide)) (hF.mono (by decide) (fun _ h => h) (by decide) (fun _ h => by cases h)) ⟨fun i hi => ?_, fun _ _ => ⟨rfl, rfl⟩, fun _ _ => ⟨rfl, rfl⟩⟩ (by rw [e1]; exact rIe _ _ _) (by rw [e2]; exact (hF.1 _ (by decide)).trans h.2.1.2.1) (by rw [e3]; exact (hF.1 _ (by decide)).trans h.2.1.2.2.1) (by rw [e2]; omega) (by rw [e1]; omega) (by rw [e3]; omega) (fun h => by rw [e3] at h; cases h) (fun z _ _ => ⟨fun _ => ?_, fun h => ?_, fun h => ?_, fun _ => ⟨v, ?_, hv⟩, fun h => ?_, fun h => ?_, fun h => ?_, fun h => ?_⟩)⟩
  · show upd (upd (sA S 24) a (nI u)) (a + 1) (nI v) i = _
    rw [upd_at, upd_at, if_neg (by omega), if_neg (by omega)]
  · show upd (upd (sA S 24) a (nI u)) (a + 1) (nI v) a = nI (tgC t)
    rw [upd_at, upd_at, if_neg (by omega), if_pos rfl, hu]
  rotate_left 2
  · show upd (upd (sA S 24) a (nI u)) (a + 1) (nI v) (a + 1) = nI v
    rw [upd_at, if_pos rfl]
  all_goals (exfalso; dsimp only at h; omega)
/-- tries are left: one step or none -/
theorem untr_T {a c f k tr tl : Nat} {os : List Op} {sc : SCs} {at' : List Nat} {S : cS} (h : yOK A n S0 z0 fb a0 s ab B a c f (k, os, sc, at') S) (ha : a + wC os + 2 ≤ 40960) : (tl < tr ∧ ∃ S1, Ans (d + 8) 54 [.ref 23, .int (nI 13), .int (nI (tr - tl))] S (some (.int (nI (a + wC os)))) S1 ∧ yOK A n S0 z0 fb a0 s ab B a c f (k, os ++ untr tr tl, sc, at') S1 ∧ wC (untr tr tl) = 2) ∨ (tr ≤ tl ∧ untr tr tl = []) := by
  by_cases ht : tl < tr
  · obtain ⟨S1, p1, p2, p3⟩ := yE_2 (d := d + 6) (t := 13) (m := tr - tl) h.1 (by omega) ha
    have e : untr tr tl = [(13, [tr - tl], 0, 0)] := if_pos ht
    rw [e]
    exact Or.inl ⟨ht, S1, p1, yOK_app h p2, rfl⟩
  · exact Or.inr ⟨by omega, if_neg ht⟩
theorem untr_b {tr tl a : Nat} : bks a (untr tr tl) = [] ∧ cnN (untr tr tl) = 0 ∧ fxM (untr tr tl) = 0 ∧ wC (untr tr tl) ≤ 2 := by
  unfold untr
  split
  · exact ⟨rfl, rfl, rfl, Nat.le_refl _⟩
  · exact ⟨rfl, rfl, rfl, Nat.zero_le _⟩
/-- break, continue within a loop -/
theorem St_lv {a c f k dp tr ca ra : Nat} {lp : LpT} {x : Nat × Nat × Nat} {brk : Bool} {sc : SCs} {at' : List Nat} {S : cS} (hX : yPre A n S0 z0) (h : yG A n S0 z0 fb a0 s ab k sc at' a c f S) (hz : yZ (rm (by1 A) n k) dp a c f sc.2.length sc.1.length (fb + sc.1.length - 1)) (hdp : dp ≤ 12) (hL : yLp a0 lp tr S) (hlp : lp = some x) (hca : a = a0 + ca) (hk : qK (by1 A) n k = if brk = true then 49 else 50) : ∃ S1, Ans (d + 14) 53 [.ref 43, .int (nI dp)] S none S1 ∧ yRes A n S0 z0 fb a0 s ab S a c f 39600 5152 1510 1510 (sbp [(1, [qL (by1 A) n k], 0, 0)] (psLv (qK (by1 A) n) (qL (by1 A) n) lp tr (ca + 2) (ra + 2) brk sc at' k)) S1 := by
  obtain ⟨c1, c2, c3, c4, c5, c6⟩ := yZ_c hz hdp
  have hk3 : 3 ≤ qK (by1 A) n k := by rw [hk]; split <;> omega
  obtain ⟨S1, p1, p2, p3, p4, p5, p6⟩ := St_1 (d := d + 5) hX.1.1 h c1
  obtain ⟨S2, q1, q2, q3, q4⟩ := read_O (d := d + 4) hX.1 p2 hk3
  obtain ⟨g1, g2, g3, g4⟩ := rm_gt (β := by1 A) (n := n) (k := k) hk3
  have w1 : wC [(1, [qL (by1 A) n k], (0 : Int), (0 : Int))] = 2 := rfl
  obtain ⟨l1, l2, _, l4⟩ := yF_lp hL p2.2.2.2.1
  obtain ⟨m1, m2, _, m4⟩ := yF_lp hL q2.2.2.2.1
  obtain ⟨l5, l6, l7, l8⟩ := l4 x hlp
  obtain ⟨m5, m6, m7, m8⟩ := m4 x hlp
  have hst : ∀ S4 S5, Ans (d + 13) 114 [.ref 43, .int (nI (if brk = true then 1 else 0))] S1 none S4 → Ans (d + 13) 86 [.ref 31] S4 none S5 → Ans (d + 14) 53 [.ref 43, .int (nI dp)] S none S5 := fun S4 S5 u v => by
    cases brk with
    | true =>
      rw [show (if true = true then 49 else 50) = 49 from rfl] at hk
      rw [hk] at p5
      exact Ans.of (by rw [ml_53]; exact Nat.le_of_ble_eq_true rfl) (Bod.lv (by rfl) (cSt49_1 (d := d + 5) (by omega) p3 p4 (by omega) p1 p5 u v))
    | false =>
      rw [show (if false = true then 49 else 50) = 50 from rfl] at hk
      rw [hk] at p5
      exact Ans.of (by rw [ml_53]; exact Nat.le_of_ble_eq_true rfl) (Bod.lv (by rfl) (cSt50_1 (d := d + 5) (by omega) p3 p4 (by omega) p1 p5 u v))
  have hub := untr_b (tr := tr) (tl := x.2.2) (a := a + 2)
  have hps : sbp [(1, [qL (by1 A) n k], 0, 0)] (psLv (qK (by1 A) n) (qL (by1 A) n) lp tr (ca + 2) (ra + 2) brk sc at' k) = ln (qK (by1 A) n) (qL (by1 A) n k) (k + 1) ([(1, [qL (by1 A) n k], 0, 0)] ++ (untr tr x.2.2 ++ [if brk = true then (60, [], 0, 0) else (4, [], (x.1 : Int) - (ca + 2 + wC (untr tr x.2.2) : Nat), (x.2.1 : Int) - ((ra + 2 + wR (qK (by1 A) n) (untr tr x.2.2) : Nat) + 1))])) sc at' := by
    unfold psLv
    rw [hlp]
    exact sbp_ln _ _ _ _ _ _ _
  rw [hps]
  have hfin : ∀ (o : Op) (S4 : cS), lC o = 2 → cnO o = 0 → fxO o = 0 → Ans (d + 13) 114 [.ref 43, .int (nI (if brk = true then 1 else 0))] S1 none S4 → yOK A n S0 z0 fb a0 s ab S a c f (k + 1, ([(1, [qL (by1 A) n k], 0, 0)] ++ untr tr x.2.2) ++ [o], sc, at') S4 → ∃ S5, Ans (d + 14) 53 [.ref 43, .int (nI dp)] S none S5 ∧ yRes A n S0 z0 fb a0 s ab S a c f 39600 5152 1510 1510 (ln (qK (by1 A) n) (qL (by1 A) n k) (k + 1) ([(1, [qL (by1 A) n k], 0, 0)] ++ (untr tr x.2.2 ++ [o])) sc at') S5 := fun o S4 o1 o2 o3 u v => by
    obtain ⟨S5, r1, r2⟩ := ln_T (d := d + 5) (qa := 39600) (qc := 5152) (qf := 1510) (qe := 1510) (l := qL (by1 A) n k) hX.1 hX.2 v g3 (by rw [wC_app, wC_app, w1, show wC [o] = lC o from Nat.add_zero _, o1]; omega) (by rw [cnN_app, cnN_app, hub.2.1, show cnN [o] = cnO o from Nat.add_zero _, o2]; show c + (0 + 0 + 0) ≤ _; omega) (by rw [fxM_app, fxM_app, hub.2.2.1, show fxM [o] = fxO o from Nat.add_zero _, o3]; show f + (0 + 0 + 0) ≤ _; omega) (by omega) (by omega) (by omega)
    rw [List.append_assoc] at r2
    exact ⟨S5, hst S4 S5 u r1, r2⟩
  have hb0 : bks a ([(1, [qL (by1 A) n k], (0 : Int), (0 : Int))] ++ untr tr x.2.2) = [] := by
    rw [bks_app]
    show [] ++ bks (a + 2) (untr tr x.2.2) = []
    rw [hub.1]
    rfl
  rcases untr_T (d := d + 4) (tr := tr) (tl := x.2.2) q2 (by rw [w1]; omega) with ⟨t1, S3, t2, t3, t4⟩ | ⟨t1, t2⟩
  · have hL3 := yF_lp hL t3.2.2.2.1
    have h3w : a + wC ([(1, [qL (by1 A) n k], (0 : Int), (0 : Int))] ++ untr tr x.2.2) = a + 4 := by rw [wC_app, w1, t4]
    cases brk with
    | true =>
      obtain ⟨S4, u1, u2⟩ := yE_brk (d := d + 10) t3 hb0 (by rw [wC_app, w1]; omega) (by rw [h3w]; omega)
      rw [h3w] at u1 u2
      exact hfin (60, [], 0, 0) _ rfl rfl rfl (Ans.of (by rw [ml_114]; exact Nat.le_of_ble_eq_true rfl) (Bod.lv (by rfl) (cLxT_2 (d := d + 4) l5 l6 q1 m1 (by omega) m7 (by omega) t1 (by omega) (by rw [w1]; omega) t2 (by omega) u1))) u2
    | false =>
      obtain ⟨S4, u1, u2⟩ := yE_K (d := d + 10) (t := 4) (u := 4) (v := a0 + x.1) (j := (x.1 : Int) - (ca + 2 + wC (untr tr x.2.2) : Nat)) (r := (x.2.1 : Int) - ((ra + 2 + wR (qK (by1 A) n) (untr tr x.2.2) : Nat) + 1)) t3.1 (by omega) rfl (by dsimp only; rw [h3w]; omega) (by dsimp only; rw [h3w, t4]; omega)
      have u3 := yOK_app t3 u2
      dsimp only at u1 u3
      rw [h3w] at u1
      exact hfin _ _ rfl rfl rfl (Ans.of (by rw [ml_114]; exact Nat.le_of_ble_eq_true rfl) (Bod.lv (by rfl) (cLvC_3 (d := d + 4) l5 l6 q1 m1 (by omega) m7 (by omega) t1 (by omega) (by rw [w1]; omega) t2 (hL3.2.2.2 x hlp).1 l6 (by omega) u1))) u3
  · have e0 : ([(1, [qL (by1 A) n k], (0 : Int), (0 : Int))] : List Op) ++ untr tr x.2.2 = [(1, [qL (by1 A) n k], 0, 0)] := by rw [t2]; rfl
    rw [e0] at hfin hb0
    cases brk with
    | true =>
      obtain ⟨S4, u1, u2⟩ := yE_brk (d := d + 10) q2 hb0 (by rw [w1]; omega) (by rw [w1]; omega)
      exact hfin (60, [], 0, 0) _ rfl rfl rfl (Ans.of (by rw [ml_114]; exact Nat.le_of_ble_eq_true rfl) (Bod.lv (by rfl) (cLxT_1 (d := d + 4) l5 l6 q1 m1 (by omega) m7 (by omega) t1 (by rw [w1]; omega) u1))) u2
    | false =>
      obtain ⟨S4, u1, u2⟩ := yE_K (d := d + 10) (t := 4) (u := 4) (v := a0 + x.1) (j := (x.1 : Int) - (ca + 2 + wC (untr tr x.2.2) : Nat)) (r := (x.2.1 : Int) - ((ra + 2 + wR (qK (by1 A) n) (untr tr x.2.2) : Nat) + 1)) q2.1 (by omega) rfl (by dsimp only; rw [w1]; omega) (by rw [t2]; dsimp only; rw [w1]; show _ = _ + (_ - ((ca + 2 + 0 : Nat) : Int)); omega)
      have u3 := yOK_app q2 u2
      dsimp only at u1 u3
      exact hfin _ _ rfl rfl rfl (Ans.of (by rw [ml_114]; exact Nat.le_of_ble_eq_true rfl) (Bod.lv (by rfl) (cLvC_1 (d := d + 4) l5 l6 q1 m1 (by omega) m7 (by omega) t1 m5 m6 (by rw [w1]; omega) u1))) u3
end
