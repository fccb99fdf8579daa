/-! NAMES AND TARGETS BEHIND A FAULT in the class's statements -/
section
variable {A : Nat → Int32} {n z0 fb l a c f ab lo : Nat} {S0 B : cS} {H : List Nat} {qa qc qf qe qs qn d : Nat}
theorem yB_inF {S : cS} {cur : Nat} (h : sI S 3211 = nI cur) (hc : cur < 300) : Ans (d + 9) 69 [.ref 32] S (some (.int (if cur = 0 then nI 0 else nI 1))) S := by
  by_cases h0 : cur = 0
  · rw [if_pos h0]
    exact Ans.of (by rw [ml_69]; exact Nat.le_of_ble_eq_true rfl) (Bod.lv (by rfl) (cInF_1 (d := d) h (by omega) h0))
  · rw [if_neg h0]
    exact Ans.of (by rw [ml_69]; exact Nat.le_of_ble_eq_true rfl) (Bod.lv (by rfl) (cInF_2 (d := d) h (by omega) h0))
/-- one entry more, whatever the scopes hold -/
theorem yB_add {S : cS} {q : Int32} {kd cur : Nat} (hcu : sI S 3211 = nI cur) (hc0 : cur ≠ 0) (hc3 : cur < 300) (h : yB A n S0 z0 fb l a c f ab lo H qa qc qf qe qs qn B S) (he : qe + 1 ≤ 1600) : ∃ S1, Ans (d + 1) 96 [.ref 32, .int q, .int (nI kd)] S none S1 ∧ yB A n S0 z0 fb l a c f ab lo H qa qc qf (qe + 1) qs qn B S1 := by
  obtain ⟨t, c', f', s, e, sn, fn, av, tv, lv, l', h1, h2, h3, h4, h5, h6, h7', h8, h9, hfl, hlo, g1, g2, g3, g4, g5, g6, g7, g8, g9, g10⟩ := yB_top h
  obtain ⟨sn2, en2, cur2, w1, w2, w3, w4, w5, w6, w7, w8⟩ := h.2.2.2.2.2
  obtain rfl : en2 = e := nI_inj (by omega) (by omega) (w2.symm.trans h2)
  have hs3 := h1.2.2.2.2
  obtain rfl : cur2 = s := nI_inj (by omega) (by omega) (w3.symm.trans h1.2.2.2.1)
  obtain rfl : cur2 = cur := nI_inj (by omega) (by omega) (w3.symm.trans hcu)
  obtain ⟨ps, t', k1, k2, k3, k4, k5⟩ := id h.2.2.2.1
  have hF : FrT [3213] [] [35, 36, 37, 38, 40] [] S (wI 3213 (nI (en2 + 1)) (wA 35 cur2 (nI en2) (wA 40 en2 (sA (wA 38 en2 (nI kd) (wA 37 en2 (nI cur2) (wA 36 en2 q S))) 35 cur2) (wA 38 en2 (nI kd) (wA 37 en2 (nI cur2) (wA 36 en2 q S)))))) := FrT_wI (by decide) (FrT_wA (by decide) (FrT_wA (by decide) (FrT_wA (by decide) (FrT_wA (by decide) (FrT_wA (by decide) (FrT.refl _ _ _ _ _))))))
  have hA : ∀ x, x ∉ [35, 36, 37, 38, 40] → sA (wI 3213 (nI (en2 + 1)) (wA 35 cur2 (nI en2) (wA 40 en2 (sA (wA 38 en2 (nI kd) (wA 37 en2 (nI cur2) (wA 36 en2 q S))) 35 cur2) (wA 38 en2 (nI kd) (wA 37 en2 (nI cur2) (wA 36 en2 q S)))))) x = sA S x := hF.2.2.1
  refine ⟨_, add_ev (d := d) h1.2.2.2.1 h2 (by omega) h1.2.2.2.2, yB_w h (hF.mono (by decide) (fun _ h => h) (by decide) (fun _ h => by cases h)) ⟨t, c', f', cur2, en2 + 1, sn, fn, av, tv, lv, l', ⟨(hF.1 _ (by decide)).trans h1.1, (hF.1 _ (by decide)).trans h1.2.1, (hF.1 _ (by decide)).trans h1.2.2.1, (hF.1 _ (by decide)).trans h1.2.2.2.1, h1.2.2.2.2⟩, rIe _ _ _, (hF.1 _ (by decide)).trans h3, (hF.1 _ (by decide)).trans h4, (hF.1 _ (by decide)).trans h5, (hF.1 _ (by decide)).trans h6, (hF.1 _ (by decide)).trans h7', (hF.1 _ (by decide)).trans h8, by rw [hF.1 _ (by decide)]; exact h9, (hF.1 _ (by decide)).trans hfl, by omega, g1, g2, g3, by omega, g5, g6, g7, g8, g9, g10⟩ (kQ_eq (fun x hx => hA x (by
    have : ∀ x, x ∈ [24, 41, 42, 45, 27, 28, 29, 30] → x ∉ [35, 36, 37, 38, 40] := by decide
    exact this x hx)) (fun x _ => rfl)) ⟨ps, t', (hF.1 _ (by decide)).trans k1, k2, ?_, k4, k5⟩ ⟨sn2, en2 + 1, cur2, (hF.1 _ (by decide)).trans w1, rIe _ _ _, (hF.1 _ (by decide)).trans w3, w4, w5, by omega, fun i i1 i2 => ?_, fun e he => ?_⟩⟩
  · rw [hF.1 4310 (by decide)]
    exact chL_S ps _ (fun p _ => by rw [hA 24 (by decide)]) k3
  · show upd (sA S 35) cur2 (nI en2) i = _ ∨ ∃ e, e < en2 + 1 ∧ upd (sA S 35) cur2 (nI en2) i = nI e
    rw [upd_at]
    by_cases hi : i = cur2
    · rw [if_pos hi]; exact Or.inr ⟨en2, by omega, rfl⟩
    · rw [if_neg hi]
      rcases w7 i i1 i2 with w | ⟨e, e1, e2⟩
      · exact Or.inl w
      · exact Or.inr ⟨e, by omega, e2⟩
  · show upd (sA S 40) en2 (sA S 35 cur2) e = _ ∨ ∃ e', e' < e ∧ upd (sA S 40) en2 (sA S 35 cur2) e = nI e'
    rw [upd_at]
    by_cases hi : e = en2
    · rw [if_pos hi]
      rcases w7 cur2 (by omega) w4 with w | ⟨e', e1, e2⟩
      · exact Or.inl w
      · exact Or.inr ⟨e', by omega, e2⟩
    · rw [if_neg hi]
      exact w8 e (by omega)
theorem yB_bound {S : cS} {q : Int32} (h : yB A n S0 z0 fb l a c f ab lo H qa qc qf qe qs qn B S) (he : qe + 1 ≤ 1600) : ∃ S1, Ans (d + 10) 94 [.ref 32, .int q] S none S1 ∧ yB A n S0 z0 fb l a c f ab lo H qa qc qf (qe + 1) qs qn B S1 := by
  obtain ⟨sn, en, cur, w1, w2, w3, w4, w5, w6, w7⟩ := id h.2.2.2.2.2
  have hI := yB_inF (d := d) w3 (by omega)
  by_cases h0 : cur = 0
  · rw [if_pos h0] at hI
    exact ⟨S, Ans.of (by rw [ml_94]; exact Nat.le_of_ble_eq_true rfl) (Bod.lv (by rfl) (cBnr_3 (d := d + 1) hI)), yB_le h (Nat.le_refl _) (Nat.le_refl _) (Nat.le_refl _) (by omega) (Nat.le_refl _) (Nat.le_refl _)⟩
  · rw [if_neg h0] at hI
    obtain ⟨x, x1, x2⟩ := ent_W (d := d) (y0 := q) w7 w6 w4 w5
    rcases x1 with x1 | ⟨e, e1, x1⟩
    · subst x1
      obtain ⟨S1, p1, p2⟩ := yB_add (d := d + 8) (kd := 0) w3 h0 (by omega) h he
      exact ⟨S1, Ans.of (by rw [ml_94]; exact Nat.le_of_ble_eq_true rfl) (Bod.lv (by rfl) (cBnr_2 (d := d + 1) hI w3 (by omega) x2 p1)), p2⟩
    · subst x1
      exact ⟨S, Ans.of (by rw [ml_94]; exact Nat.le_of_ble_eq_true rfl) (Bod.lv (by rfl) (cBnr_1 (d := d + 1) hI w3 (by omega) (by omega) x2)), yB_le h (Nat.le_refl _) (Nat.le_refl _) (Nat.le_refl _) (by omega) (Nat.le_refl _) (Nat.le_refl _)⟩
/-- a name behind a fault: any int -/
theorem yB_name {S : cS} (h : yB A n S0 z0 fb l a c f ab lo H qa qc qf qe qs qn B S) : ∃ S1, Ans (d + 9) 92 [.ref 43] S (some (.int (sI S 3109))) S1 ∧ yB A n S0 z0 fb l a c f ab lo H qa qc qf qe qs qn B S1 := by
  obtain ⟨S1, h1, h2⟩ := yB_pass (d := d + 6) h (t := 3) (by omega) (by omega)
  exact ⟨S1, Ans.of (by rw [ml_92]; exact Nat.le_of_ble_eq_true rfl) (Bod.lv (by rfl) (cTkr_1 (d := d) h1)), h2⟩
/-- a name is bound to what is on the stack, behind a fault -/
theorem yB_bindTo {S : cS} {q : Int32} (h : yB A n S0 z0 fb l a c f ab lo H qa qc qf qe qs qn B S) (hq : qa + 3 ≤ 40960) (hf : qf + 1 ≤ 1600) (he : qe + 1 ≤ 1600) : ∃ S1, Ans (d + 11) 93 [.ref 43, .int q] S none S1 ∧ yB A n S0 z0 fb l a c f ab lo H (qa + 3) qc (qf + 1) (qe + 1) qs qn B S1 := by
  obtain ⟨S1, p1, p2⟩ := yB_bound (d := d) (q := q) h he
  obtain ⟨S2, t, q1, q2, q3⟩ := yB_scPut (d := d + 7) (x0 := nI 19) (x1 := q) p2 hq hf
  exact ⟨S2, Ans.of (by rw [ml_93]; exact Nat.le_of_ble_eq_true rfl) (Bod.lv (by rfl) (cBdr_1 (d := d + 2) p1 (by omega) q1)), q3⟩
/-- a word is told anew where no jump out of the loop is -/
theorem yB_pt {S : cS} {p : Nat} {x : Int32} (h : yB A n S0 z0 fb l a c f ab lo H qa qc qf qe qs qn B S) (hlo : 40960 ≤ lo) (hp : a ≤ p) : yB A n S0 z0 fb l a c f ab lo H qa qc qf qe qs qn B (wA 24 p x S) := by
  obtain ⟨ps, t', k1, k2, k3, k4, k5⟩ := id h.2.2.2.1
  refine yB_w h (FrT_wA (by decide) (FrT.refl _ _ _ _ _)) (yC_S h.2.1 (fun i _ => rfl)) (kQ_A (fun i hi => ?_) (fun _ _ => ⟨rfl, rfl⟩) (fun _ _ => ⟨rfl, rfl⟩) (fun _ _ => rfl) (fun x hx i _ => ?_)) ⟨ps, t', k1, k2, chL_S ps _ (fun q hq => ?_) k3, k4, k5⟩ (yV_F (LI := []) (LJ := []) (LA := [24]) (LL := []) h.2.2.2.2.2 (FrT_wA (by decide) (FrT.refl _ _ _ _ _)) (by decide) (by decide))
  · show upd (sA S 24) p _ i = _
    rw [upd_at, if_neg (by omega)]
  · have : ∀ x, x ∈ [27, 28, 29, 30] → x ≠ 24 := by decide
    rw [rAn _ _ _ (this x hx)]
  · have := chD_mem ps t' k4 q hq
    omega
/-- retarget behind a fault -/
theorem yB_rtg {S : cS} {x y z t at0 : Nat} (h : yB A n S0 z0 fb l a c f ab lo H qa qc qf qe qs qn B S) (hlo : 40960 ≤ lo) (ht : sI S 2307 = nI t) (htM : t ≤ 40960) (hat : a ≤ at0) (hg : tgA S at0 t) (he : qe + 1 ≤ 1600) (hx : x < 100) (hy : y < 100) (hz : z < 100) : ∃ S1, Ans (d + 11) 110 [.ref 43, .int (nI x), .int (nI y), .int (nI z)] S none S1 ∧ yB A n S0 z0 fb l a c f ab lo H qa qc qf (qe + 1) qs qn B S1 := by
  rcases hg with hg | ⟨g, tp, g1, g2, g3, g4, g5, g6, g7⟩
  · obtain ⟨S1, p1, p2⟩ := yB_fail (d := d + 9) h
    exact ⟨S1, Ans.of (by rw [ml_110]; exact Nat.le_of_ble_eq_true rfl) (Bod.lv (by rfl) (cRtz_1 (d := d + 2) (by omega) (by omega) (by omega) hg p1)), yB_le p2 (Nat.le_refl _) (Nat.le_refl _) (Nat.le_refl _) (by omega) (Nat.le_refl _) (Nat.le_refl _)⟩
  · have hle : ∀ S1, yB A n S0 z0 fb l a c f ab lo H qa qc qf qe qs qn B S1 → yB A n S0 z0 fb l a c f ab lo H qa qc qf (qe + 1) qs qn B S1 := fun S1 h => yB_le h (Nat.le_refl _) (Nat.le_refl _) (Nat.le_refl _) (by omega) (Nat.le_refl _) (Nat.le_refl _)
    by_cases e1 : g = 1
    · subst e1
      obtain ⟨u1, q, u2, u3⟩ := g7 rfl
      have hpa := patch_T (d := d + 9) (q := tp) (x := nI x) ht (by omega) htM
      have hat2 := at_T (d := d + 8) (S := wA 24 tp (nI x) S) (q := tp + 2) ht (by omega) htM
      have hw : sA (wA 24 tp (nI x) S) 24 (tp + 2) = nI q := by
        show upd (sA S 24) tp _ (tp + 2) = _
        rw [upd_at, if_neg (by omega)]
        exact u3
      rw [hw] at hat2
      obtain ⟨S3, p1, p2⟩ := yB_bound (d := d) (q := nI q) (yB_pt (x := nI x) h hlo (p := tp) (by omega)) he
      exact ⟨S3, Ans.of (by rw [ml_110]; exact Nat.le_of_ble_eq_true rfl) (Bod.lv (by rfl) (cRtg1_1 (d := d + 2) (tp := tp) (a := q) (by omega) (by omega) (by omega) g4 (by omega) g1 hpa (by omega) (Ans.of (by rw [ml_111]; exact Nat.le_of_ble_eq_true rfl) (Bod.lv (by rfl) (cNmt_2 (d := d + 1) (tg := 1) (tp := tp) ((rAI _ _ _ _ _).trans g4) (by omega) ((rAI _ _ _ _ _).trans g1) (by omega) rfl (by omega) hat2))) p1)), p2⟩
    by_cases e2 : g = 2
    · subst e2
      exact ⟨_, Ans.of (by rw [ml_110]; exact Nat.le_of_ble_eq_true rfl) (Bod.lv (by rfl) (cRtg2_1 (d := d + 2) (tp := tp) (by omega) (by omega) (by omega) g4 (by omega) g1 (patch_T (d := d + 9) (q := tp) (x := nI y) ht (by omega) htM))), hle _ (yB_pt h hlo (by omega))⟩
    · obtain rfl : g = 3 := by omega
      exact ⟨_, Ans.of (by rw [ml_110]; exact Nat.le_of_ble_eq_true rfl) (Bod.lv (by rfl) (cRtg3_1 (d := d + 2) (tp := tp) (by omega) (by omega) (by omega) g4 (by omega) g1 (patch_T (d := d + 9) (q := tp) (x := nI z) ht (by omega) htM))), hle _ (yB_pt h hlo (by omega))⟩
end
