/-! A TEXT in the class: its begin, its statements, its end behind a fault -/
section
variable {A : Nat → Int32} {n z0 d : Nat} {S0 : cS}
theorem ml_33 : sm_ml 33 = 2 := by decide +kernel
def bgS (c fb : Nat) (S : cS) : cS := wI 4307 (nI fb) (wI 4306 (nI c) (wI 4309 (Int32.ofInt (-1)) (wI 4308 (nI 0) (wI 4305 (nI 0) (wI 3214 (nI 0) (wI 3213 (nI 0) (wI 3212 (nI 1) (wI 3211 (nI 0) (wI 2310 (nI 0) S)))))))))
def bgI : List Nat := [2310, 3211, 3212, 3213, 3214, 4305, 4306, 4307, 4308, 4309]
theorem bgS_F (c fb : Nat) (S : cS) : FrT bgI [] [] [] S (bgS c fb S) := FrT_wI (by decide) (FrT_wI (by decide) (FrT_wI (by decide) (FrT_wI (by decide) (FrT_wI (by decide) (FrT_wI (by decide) (FrT_wI (by decide) (FrT_wI (by decide) (FrT_wI (by decide) (FrT_wI (by decide) (FrT.refl _ _ _ _ _))))))))))
theorem bgS_I (c fb : Nat) (S : cS) : sI (bgS c fb S) 2310 = nI 0 ∧ sI (bgS c fb S) 3211 = nI 0 ∧ sI (bgS c fb S) 3212 = nI 1 ∧ sI (bgS c fb S) 3213 = nI 0 ∧ sI (bgS c fb S) 3214 = nI 0 ∧ sI (bgS c fb S) 4305 = nI 0 ∧ sI (bgS c fb S) 4306 = nI c ∧ sI (bgS c fb S) 4307 = nI fb ∧ sI (bgS c fb S) 4308 = nI 0 ∧ sI (bgS c fb S) 4309 = Int32.ofInt (-1) := by
  unfold bgS
  refine ⟨?_, ?_, ?_, ?_, ?_, ?_, ?_, ?_, ?_, ?_⟩
  all_goals (repeat (first | exact rIe _ _ _ | refine (rIn _ _ (by decide)).trans ?_))
/-- the scopes at the begin of a text -/
def sc0 : SCs := ([(0, 0, 0, 0)], [])
theorem beg_T {S : cS} {a c fb lt : Nat} (hd : 1 ≤ d) (h7 : sI S 2307 = nI a) (h8 : sI S 2308 = nI c) (h9 : sI S 2309 = nI fb) (hlt : sI S 4311 = nI lt) (hlt2 : lt ≤ 100) (hX : pX A n (bgS c fb S) z0) (hA : sA S 1 = A) (hN : c_NT (bgS c fb S) z0) (ha : a ≤ 40960) (hc : c ≤ 5200) (hf : fb + 1 ≤ 901) : ∃ S1, Ans (d + 9) 33 [.ref 43, .int (nI n)] S (some (.int (nI a))) S1 ∧ yG A n (bgS c fb S) z0 fb a 0 0 0 sc0 [] a c 0 S1 ∧ FrT lyI lxJ [19, 20] [17, 18] (bgS c fb S) S1 ∧ nK (bgS c fb S) S1 := by
  obtain ⟨b0, b1, b2, b3, b4, b5, b6, b7, b8, b9⟩ := bgS_I c fb S
  have hF := bgS_F c fb S
  have hn := hX.1
  obtain ⟨S1, p1, p2, p3, p4⟩ := begin_T (d := d + 2) hX ((hF.2.2.1 1 (fun h => by cases h)).trans hA) hN
  have e7 : sI S1 2307 = nI a := (p3.1 _ (by decide)).trans ((hF.1 _ (by decide)).trans h7)
  have e8 : sI S1 2308 = nI c := (p3.1 _ (by decide)).trans ((hF.1 _ (by decide)).trans h8)
  have e9 : sI S1 2309 = nI fb := (p3.1 _ (by decide)).trans ((hF.1 _ (by decide)).trans h9)
  have c1 : Ans (d + 8) 34 [.ref 32] (wI 2310 (nI 0) S) none (wI 3214 (nI 0) (wI 3213 (nI 0) (wI 3212 (nI 1) (wI 3211 (nI 0) (wI 2310 (nI 0) S))))) := Ans.up (d := 9) (by omega) (Ans.of (by rw [ml_34]; exact Nat.le_of_ble_eq_true rfl) (Bod.lv (by rfl) (cScb_1 (d := 0))))
  have g8 : sI (wI 4309 (Int32.ofInt (-1)) (wI 4308 (nI 0) (wI 4305 (nI 0) (wI 3214 (nI 0) (wI 3213 (nI 0) (wI 3212 (nI 1) (wI 3211 (nI 0) (wI 2310 (nI 0) S)))))))) 2308 = nI c := by
    repeat (refine (rIn _ _ (by decide)).trans ?_)
    exact h8
  have g9 : sI (wI 4306 (nI c) (wI 4309 (Int32.ofInt (-1)) (wI 4308 (nI 0) (wI 4305 (nI 0) (wI 3214 (nI 0) (wI 3213 (nI 0) (wI 3212 (nI 1) (wI 3211 (nI 0) (wI 2310 (nI 0) S))))))))) 2309 = nI fb := by
    repeat (refine (rIn _ _ (by decide)).trans ?_)
    exact h9
  have hgo : Ans (d + 9) 33 [.ref 43, .int (nI n)] S (some (.int (nI a))) S1 := by
    unfold bgS at p1
    exact Ans.of (by rw [ml_33]; exact Nat.le_of_ble_eq_true rfl) (Bod.lv (by rfl) (cBeg_1 (d := d) (n0 := n) (cs := c) (fs := fb) (top := a) (by omega) c1 g8 (by omega) g9 (by omega) p1 e7 (by omega)))
  refine ⟨S1, hgo, ⟨p2, ⟨e7, e8, (p3.1 _ (by decide)).trans b4, (p3.1 _ (by decide)).trans b1, by omega⟩, e9, (p3.1 _ (by decide)).trans b2, (p3.1 _ (by decide)).trans b3, ⟨fun i h1 h2 => ?_, fun e he => absurd he (Nat.not_lt_zero _)⟩, fun i h1 h2 => ?_, ⟨fun e he => absurd he (Nat.not_lt_zero _), fun e e' _ he => absurd he (Nat.not_lt_zero _), fun i h1 h2 => ?_, fun e he => absurd he (Nat.not_lt_zero _)⟩, Nat.zero_lt_one, ⟨(p3.1 _ (by decide)).trans b5, by decide, fun i hi => absurd hi (Nat.not_lt_zero _)⟩, (p3.1 _ (by decide)).trans b0, fun i hi => absurd hi (Nat.not_lt_zero _), ⟨0, lt, (p3.1 _ (by decide)).trans b8, (p3.1 _ (by decide)).trans ((hF.1 _ (by decide)).trans hlt), by omega, hlt2⟩, hc, ha, by omega, Nat.zero_le _, by decide, hf⟩, p3, p4⟩
  · have : i < 1 := h2; omega
  · have : i < 1 := h2; omega
  · have : i < 1 := h2; omega
/-- the statements of a text -/
theorem top_T {fb a c : Nat} {S : cS} (hX : yPre A n S0 z0) (h : yG A n S0 z0 fb a 0 0 0 sc0 [] a c 0 S) (h8 : sI S 4308 = nI 0) (h9 : sI S 4309 = Int32.ofInt (-1)) (hz : yZ (rem (by1 A) n 0) 0 a c 0 0 1 fb) (hd : 366 ≤ d + 10) : ∃ S1, Ans (d + 9) 51 [.ref 43, .int (nI 0), .int (nI 0)] S none S1 ∧ yRes A n S0 z0 fb a 0 0 S a c 0 (qA 0) (qC 0) (qF 0) (qF 0) (psA A n 60000 1 0 0 0 none 0 0 0 sc0 [] 0) S1 := by
  have hr := (rm_le (β := by1 A) (k := 0) hX.1.1).2
  have hlv : lvD 0 = 366 := rfl
  obtain ⟨S1, i1, i2⟩ := (St_all (fb := fb) (a0 := a) hX 60000).2.1 (d + 8) 0 0 0 0 0 0 0 0 a c 0 none sc0 [] S (by omega) (by omega) (by omega) (fun h => absurd rfl h) (by omega) ⟨h, hz, ⟨h8, by omega, fun _ => h9, fun x hx => by cases hx⟩, rfl, Nat.le_refl _, Nat.le_refl _⟩
  exact ⟨S1, Ans.of (by rw [ml_51]; exact Nat.le_of_ble_eq_true rfl) (Bod.lv (by rfl) (cPar0_1 (d := d) (i := 0) (dp := 0) (by omega) (by omega) (fun lv1 e0 e1 e2 e3 => i1 0 lv1 (by omega) e0 e1 e2 e3))), i2⟩
/-- the end of a text behind a fault: all that it put is cut off -/
theorem fin_B {fb l a c f lo qa qc qf qe qs qn : Nat} {S S1 : cS} (h : yB A n S0 z0 fb l a c f 0 lo [] qa qc qf qe qs qn S S1) (hq : qa + 1 ≤ 40960) (ha : a < 2 ^ 20) (hc : c < 2 ^ 20) (hfb : fb < 2 ^ 20) (h6 : sI S 4306 = nI c) (h7 : sI S 4307 = nI fb) : ∃ S2 S3, Ans (d + 9) 122 [.ref 43, .int (nI a)] S1 (some (.int 0)) S3 ∧ yB A n S0 z0 fb l a c f 0 lo [] (qa + 1) qc qf qe qs qn S S2 ∧ S3 = wI 2309 (nI fb) (wI 2308 (nI c) (wI 2307 (nI a) S2)) := by
  obtain ⟨S2, t, j1, j2, j3⟩ := yB_put1 (d := d + 6) (x0 := nI 0) h hq
  obtain ⟨a', c', f', s', e, sn, fn, av, tv, lv, l', b1, b2, b3, b4, b5, b6, b7, b8, b9, bfl, blo, bb⟩ := j3.2.1
  have e6 : sI S2 4306 = nI c := (j3.2.2.1.1.1 _ (by decide)).trans h6
  have e7 : sI S2 4307 = nI fb := (j3.2.2.1.1.1 _ (by decide)).trans h7
  exact ⟨S2, _, Ans.of (by rw [ml_122]; exact Nat.le_of_ble_eq_true rfl) (Bod.lv (by rfl) (cFin_1 (d := d) (st0 := a) (a := t) (f2310 := 0) (tk := 0) (f4306 := c) (f4307 := fb) ha j2 j1 bfl (by omega) rfl (yB_5 j3) (by omega) rfl e6 hc e7 hfb (cut_ev (d := d + 7)))), j3, rfl⟩
end
