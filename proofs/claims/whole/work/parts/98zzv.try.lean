/-! TRY in the class -/
section
variable {A : Nat → Int32} {n z0 fb l a c f ab lo : Nat} {S0 : cS} {H : List Nat} {qa qc qf qe qs qn d : Nat}
/-- what is kept of tries is set anew -/
theorem yB_ints {B B1 S S1 : cS} (h : yB A n S0 z0 fb l a c f ab lo H qa qc qf qe qs qn B S) (hB : FrT [4308, 4309, 4311] [] [] [] B B1) (hS : FrT [4308, 4309, 4311] [] [] [] S S1) (he : ∀ i, i ∈ [4308, 4309, 4311] → sI S1 i = sI B1 i) (ht : ∃ tr lt, sI S1 4308 = nI tr ∧ sI S1 4311 = nI lt ∧ tr ≤ 100 ∧ lt ≤ 100) : yB A n S0 z0 fb l a c f ab lo H qa qc qf qe qs qn B1 S1 := by
  obtain ⟨ps, t, k1, k2, k3, k4, k5⟩ := id h.2.2.2.1
  have m : ∀ i, i ∈ [4308, 4309, 4311] → i ∈ [4308, 4309, 4310, 4311] := by decide
  have e24 : sA S1 24 = sA S 24 := hS.2.2.1 24 (fun h => by cases h)
  refine yB_re h (hS.mono m (fun _ h => h) (fun _ h => by cases h) (fun _ h => h)) (hB.mono m (fun _ h => h) (fun _ h => by cases h) (fun _ h => h)) he ht (fun i hi => ?_) h.2.2.2.2.1 ⟨ps, t, (hS.1 _ (by decide)).trans k1, k2, ?_, k4, k5⟩
  · rw [e24, hB.2.2.1 24 (fun h => by cases h)]
    exact h.2.2.1.2.1.1.1 i hi
  · rw [hS.1 4310 (by decide), hB.1 4310 (by decide)]
    exact chL_S ps _ (fun p _ => by rw [e24]) k3
/-- the end of try behind a fault -/
theorem tryB {B S : cS} {ind dp t5 : Nat} (h : yB A n S0 z0 fb l a c f ab lo [t5] qa qc qf qe qs qn B S) (hq : qa + 1 ≤ 40960) (ht5 : a ≤ t5) (hind : ind < 2 ^ 20) (hdp : dp < 2 ^ 20) : ∃ a3 S9 S10 top, a3 < 2 ^ 20 ∧ Ans (d + 11) 71 [.ref 23, .int (nI 17)] S (some (.int (nI a3))) S9 ∧ Ans (d + 11) 84 [.ref 43, .int (nI ind), .int (nI dp)] S9 none S10 ∧ sI S10 2307 = nI top ∧ top < 2 ^ 20 ∧ Ans (d + 11) 83 [.ref 23, .int (nI (t5 + 1)), .int (nI top)] S10 none (wA 24 (t5 + 1) (nI top) S10) ∧ yB A n S0 z0 fb l a c f ab lo [] (qa + 1) qc qf qe qs qn B (wA 24 (t5 + 1) (nI top) S10) := by
  obtain ⟨S9, a3, p1, p2, p3⟩ := yB_put1 (d := d + 9) (x0 := nI 17) h hq
  obtain ⟨S10, q1, q2⟩ := yB_blk (d := d + 1) (o := ind) (dp := dp) p3 hind hdp
  obtain ⟨t, c', f', s, e, sn, fn, av, tv, lv, l', h1, h2, h3, h4, h5, h6, h7', h8, h9, hfl, hlo, g1, g2, g3, g4, g5, g6, g7, g8, g9, g10⟩ := yB_top q2
  obtain ⟨u1, u2⟩ := yB_patch (d := d + 10) (p := t5) (x := nI t) q2 List.mem_cons_self ht5
  exact ⟨a3, S9, S10, t, p2, p1, q1, h1.1, by omega, u1, yB_H u2 (fun x hx => by cases hx)⟩
end
section
variable {A : Nat → Int32} {n z0 fb a0 F s ab d : Nat} {S0 : cS}
/-- a step of the other program alone -/
theorem yE_61 {a c f k : Nat} {p : List Nat} {sc : SCs} {at' : List Nat} {S : cS} (h : yG A n S0 z0 fb a0 s ab k sc at' a c f S) : yOK A n S0 z0 fb a0 s ab S a c f (k, [(61, p, 0, 0)], sc, at') S := by
  have hc := h.2.2.2.2.2.2.2.2.2.2.2.2.2.1
  have ha := h.2.2.2.2.2.2.2.2.2.2.2.2.2.2.1
  have hf := h.2.2.2.2.2.2.2.2.2.2.2.2.2.2.2.1
  refine yOK_e (o := (61, p, 0, 0)) h (by dsimp only; omega) rfl (FrT.refl _ _ _ _ _) ⟨fun _ _ => rfl, fun _ _ => ⟨rfl, rfl⟩, fun _ _ => ⟨rfl, rfl⟩⟩ h.2.1.1 h.2.1.2.1 h.2.1.2.2.1 hc ha hf (fun h => by cases h) (fun z _ _ => ⟨fun h => absurd rfl h, fun h => ?_, fun h => ?_, fun h => ?_, fun h => ?_, fun h => ?_, fun h => ?_, fun h => ?_⟩)
  all_goals (exfalso; dsimp only at h; omega)
set_option maxHeartbeats 8000000 in
theorem try_T (hX : yPre A n S0 z0) (h84 : P84 A n S0 z0 fb a0 F) {dp ind tr ca ra k a c f : Nat} {lp : LpT} {sc : SCs} {at' : List Nat} {S : cS} (h : yG A n S0 z0 fb a0 s ab k sc at' (a + 2) c f S) (hz : yZ (rm (by1 A) n k) dp a c f sc.2.length sc.1.length (fb + sc.1.length - 1)) (hL : yLp a0 lp tr S) (hca : a + 2 = a0 + ca) (hab : ab ≤ 40 * dp) (htr : tr ≤ dp) (hk : qK (by1 A) n k = 54) (hie : qI (by1 A) n k = ind) (hdp : dp ≤ 11) (hF : 4 * rm (by1 A) n k + 1 ≤ F) (hd : lvD dp ≤ d + 15) : ∃ Sf, Ans (d + 12) 108 [.ref 43, .int (nI dp)] S none Sf ∧ yRes A n S0 z0 fb a0 s ab S (a + 2) c f (qA dp) (qC dp) (qF dp) (qF dp) (psTry (qK (by1 A) n) (qL (by1 A) n) (qI (by1 A) n) (Eb (by1 A) n) (psA A n F) dp ind s lp tr ca ra sc at' k) Sf := by
  obtain ⟨c1, c2, c3, c4, c5, c6⟩ := yZ_c hz (by omega)
  obtain ⟨z1, z2, z3, z4, z5, z6⟩ := id hz
  have hlv : lvD dp = 270 + 8 * (12 - dp) := rfl
  have hn := hX.1.1
  have hlv1 : lvD (dp + 1) = 270 + 8 * (12 - (dp + 1)) := rfl
  have hqA : qA dp = 39700 + 60 * (12 - dp) := rfl
  have hqC : qC dp = 5160 + 2 * (12 - dp) := rfl
  have hqF : qF dp = 1515 + 4 * (12 - dp) := rfl
  have hqA1 : qA (dp + 1) = 39700 + 60 * (12 - (dp + 1)) := rfl
  have hqC1 : qC (dp + 1) = 5160 + 2 * (12 - (dp + 1)) := rfl
  have hqF1 : qF (dp + 1) = 1515 + 4 * (12 - (dp + 1)) := rfl
  obtain ⟨g1, g2, g3, g4⟩ := rm_gt (β := by1 A) (n := n) (k := k) (by omega)
  have gw := rm_w2 (β := by1 A) (n := n) (k := k) (by omega)
  have hqk := q_lt (by1 A) n k
  have hiM := ind_lt (A := A) (k := k) hX.1.1
  have hindM : ind < 2 ^ 20 := by omega
  have h3108 : sI S 3108 = nI ind := ((cP_8 h.1).2 (by omega)).trans (congrArg nI hie)
  obtain ⟨S1, p1, Y1, _, _⟩ := pass_O (d := d + 3) hX.1 (yOK_nil h) hk (by omega)
  have G1 : yG A n S0 z0 fb a0 s ab (k + 1) sc at' (a + 2) c f S1 := Y1.1
  have L1 := yF_lp hL Y1.2.2.2.1
  obtain ⟨S2, w2, F2, G2, w2', w2'', b2, told2⟩ := yE_J (d := d + 9) (t := 12) (u := 12) (w := nI 0) G1 (by omega) rfl (by omega)
  have L2 : yLp a0 lp tr S2 := yLp_S L1 (fun i hi => F2.1 i (by
    have : ∀ i, i ∈ [4308, 4309, 4311] → i ∉ [2307] := by decide
    exact this i hi))
  obtain ⟨tr0, lt, t1, t2, t3, t4⟩ := G2.2.2.2.2.2.2.2.2.2.2.2.2.1
  have hT : FrT [4308, 4309, 4311] [] [] [] S2 (wI 4308 (nI (tr + 1)) S2) := FrT_wI (by decide) (FrT.refl _ _ _ _ _)
  have G2T : yG A n S0 z0 fb a0 s ab (k + 1) sc at' (a + 2 + 2) c f (wI 4308 (nI (tr + 1)) S2) := yG_I G2 (hT.mono (by decide) (fun _ h => h) (fun _ h => h) (fun _ h => h)) ⟨tr + 1, lt, rIe _ _ _, (rIn _ _ (by decide)).trans t2, by omega, t4⟩
  have L2T : yLp a0 lp (tr + 1) (wI 4308 (nI (tr + 1)) S2) := ⟨rIe _ _ _, by omega, fun hn => (rIn _ _ (by decide)).trans (L2.2.2.1 hn), fun x hx => by
    obtain ⟨x1, x2, x3, x4⟩ := L2.2.2.2 x hx
    exact ⟨(rIn _ _ (by decide)).trans x1, x2, (rIn _ _ (by decide)).trans x3, x4⟩⟩
  obtain ⟨S3, x1, x2⟩ := h84 (d + 11) (dp + 1) ind s ab (tr + 1) (ca + 2) (ra + 2) (k + 1) (a + 2 + 2) c f lp sc at' _ (by omega) hindM (by omega) (by omega) ⟨G2T, ⟨by omega, by omega, by omega, by omega, by omega, by omega⟩, L2T, by omega, by omega, by omega⟩
  -- what is kept of tries, as before
  have hS3 : ∀ {S3 : cS}, FrT [4308, 4309, 4311] [] [] [] S3 (wI 4308 (nI (tr + 1 - 1)) S3) := FrT_wI (by decide) (FrT.refl _ _ _ _ _)
  have he3 : (∀ i, i ∈ [4308, 4309, 4311] → sI S3 i = sI (wI 4308 (nI (tr + 1)) S2) i) → sI S3 4308 = nI (tr + 1) ∧ (∀ i, i ∈ [4308, 4309, 4311] → sI (wI 4308 (nI (tr + 1 - 1)) S3) i = sI S2 i) ∧ ∃ tr lt, sI (wI 4308 (nI (tr + 1 - 1)) S3) 4308 = nI tr ∧ sI (wI 4308 (nI (tr + 1 - 1)) S3) 4311 = nI lt ∧ tr ≤ 100 ∧ lt ≤ 100 := fun hh => by
    have hh2 : ∀ i, i ∈ [4308, 4309, 4311] → sI (wI 4308 (nI (tr + 1 - 1)) S3) i = sI S2 i := fun i hi => by
      have h0 := hh i hi
      simp only [List.mem_cons, List.not_mem_nil, or_false] at hi
      rcases hi with rfl | rfl | rfl
      · exact (rIe _ _ _).trans L2.1.symm
      · exact (rIn _ _ (by decide)).trans (h0.trans (rIn _ _ (by decide)))
      · exact (rIn _ _ (by decide)).trans (h0.trans (rIn _ _ (by decide)))
    refine ⟨(hh 4308 (by decide)).trans (rIe _ _ _), hh2, tr, lt, ?_, ?_, by omega, t4⟩
    · exact rIe _ _ _
    · have := hh2 4311 (by decide)
      have e2 : sI (wI 4308 (nI (tr + 1 - 1)) S3) 4311 = sI S3 4311 := rIn _ _ (by decide)
      exact ((rIn _ _ (by decide)).trans e2.symm).trans (this.trans t2)
  cases hb : psA A n F 2 (dp + 1) ind s lp (tr + 1) (ca + 2) (ra + 2) sc at' (k + 1) with
  | inl l =>
    have Bz := x2.2 l hb
    obtain ⟨e1, e2, e3⟩ := he3 (yB_eq3 Bz)
    have j1 := yB_J (H := [a + 2]) (yOK_nil G1) F2 b2 (yB_ints Bz hT.symm hS3 e2 (by
      obtain ⟨u1, u2, u3, u4, u5, u6⟩ := e3
      exact ⟨tr, u2, rIe _ _ _, ((rIn _ _ (by decide)).trans (rIn _ _ (by decide)).symm).trans u4, by omega, u6⟩)) (show a + 2 + 0 + 4 ≤ _ by omega) (fun p hp => by
      rw [List.mem_singleton.mp hp]
      exact Or.inl ⟨Nat.le_refl _, fun hc => by cases hc⟩)
    obtain ⟨S4, a4, q1, q2, q3, _, _, q4, _, _⟩ := yB_put2s (d := d + 9) (x0 := nI 13) (x1 := nI 1) j1 (by omega)
    obtain ⟨S5, t5, r1, r2, r3, _, r5, r6, r7, r8⟩ := yB_put2s (d := d + 9) (x0 := nI 4) (x1 := nI 0) q3 (by omega)
    obtain ⟨u1, u2⟩ := yB_patch (d := d + 10) (p := a + 2) (x := nI (t5 + 2)) r3 (List.mem_cons_of_mem _ (List.mem_cons_of_mem _ List.mem_cons_self)) (Nat.le_refl _)
    obtain ⟨S7, v1, v2⟩ := yB_fail (d := d + 10) u2
    obtain ⟨S8, y1, y2⟩ := yB_pass (d := d + 9) (t := 55) v2 (by omega) (by omega)
    obtain ⟨a3, S9, S10, top, i1, i2, i3, i4, i5, i6, i7⟩ := tryB (d := d) (ind := ind) (dp := dp + 1) (yB_H (H1 := [t5]) y2 (fun x hx => by rw [List.mem_singleton.mp hx]; exact List.mem_cons_self)) (by omega) r5 hindM (by omega)
    refine ⟨_, Ans.of (by rw [ml_108]; exact Nat.le_of_ble_eq_true rfl) (Bod.lv (by rfl) (cTrr_3 (d := d + 3) (tr := tr) (tr1 := tr + 1) (tk := 0) (by omega) h3108 hindM p1 (by omega) w2 L2.1 (by omega) x1 e1 (by omega) (by omega) q2 q1 r2 r1 r7 (by omega) u1 (yB_ins (d := d + 2) u2 hindM) v1 y1 (yB_5 y2) (by omega) (by omega) i1 i2 i3 i4 i5 i6)), yRes_l (l := l) ?_ (yB_le (yOK_bad (H := []) Y1 i7 (Nat.le_refl _) (fun p hp => by cases hp)) (by omega) (by omega) (by omega) (by omega) (Nat.le_refl _) (Nat.le_refl _))⟩
    unfold psTry
    rw [hb]
    rfl
  | inr b =>
    obtain ⟨kb, ob, scb, atb⟩ := b
    have hat := ps_at F 2 (by omega) _ _ _ _ _ _ _ _ _ _ _ hb
    dsimp only at hat
    subst hat
    have Yb0 := x2.1 _ hb
    obtain ⟨e1, e2, e3⟩ := he3 (fun i hi => Yb0.2.2.2.1.1.1 i (by
      have : ∀ i, i ∈ [4308, 4309, 4311] → i ∉ yI := by decide
      exact this i hi))
    have Yb := yOK_ints Yb0 hT.symm hS3 e2 (by
      obtain ⟨u1, u2, u3, u4, u5, u6⟩ := e3
      exact ⟨tr, u2, rIe _ _ _, ((rIn _ _ (by decide)).trans (rIn _ _ (by decide)).symm).trans u4, by omega, u6⟩)
    have Gb : yG A n S0 z0 fb a0 s ab kb scb atb (a + 2 + 2 + wC ob) (c + cnN ob) (f + fxM ob) (wI 4308 (nI (tr + 1 - 1)) S3) := Yb.1
    obtain ⟨hw1, hw2, hw3, hw4⟩ := (ps_H (by1 A) n (Eb (by1 A) n) F).2.2.1 2 (dp + 1) ind s lp (tr + 1) _ _ _ _ _ _ (Or.inl rfl) hb
    obtain ⟨m1, m2, m3, m4, m5, m6, m7, m8⟩ := hw4
    dsimp only at hw2 hw3 m1 m2 m3 m4 m5 m6 m7 m8
    have hqb := q_lt (by1 A) n kb
    have hrl := rm_le (β := by1 A) (k := k) hX.1.1
    obtain ⟨S4, q1, Y4, F4⟩ := yE_2 (d := d + 9) (t := 13) (m := 1) Gb (by omega) (by omega)
    have G4 : yG A n S0 z0 fb a0 s ab kb scb atb (a + 2 + 2 + wC ob + 2) (c + cnN ob) (f + fxM ob) S4 := Y4.1
    obtain ⟨S5, r1, F5, G5, r2, r3, b5, told5⟩ := yE_J (d := d + 9) (t := 4) (u := 4) (w := nI 0) G4 (by omega) rfl (by omega)
    have t5 : sI S5 2307 = nI (a + 2 + 2 + wC ob + 2 + 2) := G5.2.1.1
    have hpt := patch_T (d := d + 10) (S := S5) (q := a + 2 + 1) (x := nI (a + 2 + 2 + wC ob + 2 + 2)) t5 (by omega) (by omega)
    have G6 : yG A n S0 z0 fb a0 s ab kb scb atb (a + 2 + 2 + wC ob + 2 + 2) (c + cnN ob) (f + fxM ob) (wA 24 (a + 2 + 1) (nI (a + 2 + 2 + wC ob + 2 + 2)) S5) := yG_W G5 (FrT_wA (by decide) (FrT.refl _ _ _ _ _))
    have hins := ins_T (d := d + 2) (i := ind) hX.1.1 G6 hindM
    -- all up to the jump, told
    have y2 : ∀ rr : Int, yOK A n S0 z0 fb a0 s ab S1 (a + 2) c f (kb, [(12, [], ((6 + wC ob : Nat) : Int), rr)] ++ (ob ++ [(13, [1], 0, 0)]), scb, atb) (wA 24 (a + 2 + 1) (nI (a + 2 + 2 + wC ob + 2 + 2)) S4) := fun rr => yOK_app (told2 (a + 2 + 2 + wC ob + 2 + 2) ((6 + wC ob : Nat) : Int) rr (by omega)) (yOK_app (yOK_hole (p := a + 2 + 1) (v := nI (a + 2 + 2 + wC ob + 2 + 2)) Yb (show a + 2 + 1 < a + 2 + 2 by omega)) (yOK_hole (p := a + 2 + 1) (v := nI (a + 2 + 2 + wC ob + 2 + 2)) Y4 (show a + 2 + 1 < a + 2 + 2 + wC ob by omega)))
    have ew : wC ([(12, [], ((6 + wC ob : Nat) : Int), (0 : Int))] ++ (ob ++ [(13, [1], (0 : Int), (0 : Int))])) = 2 + wC ob + 2 := by
      rw [wC_app, wC_app]
      show 2 + 0 + (_ + (2 + 0)) = _
      omega
    have ec : cnN ([(12, [], ((6 + wC ob : Nat) : Int), (0 : Int))] ++ (ob ++ [(13, [1], (0 : Int), (0 : Int))])) = cnN ob := by
      rw [cnN_app, cnN_app]
      show 0 + 0 + (_ + (0 + 0)) = _
      omega
    have ef : fxM ([(12, [], ((6 + wC ob : Nat) : Int), (0 : Int))] ++ (ob ++ [(13, [1], (0 : Int), (0 : Int))])) = fxM ob := by
      rw [fxM_app, fxM_app]
      show 0 + 0 + (_ + (0 + 0)) = _
      omega
    have F46 : FrT [2307] [] [24] [] (wA 24 (a + 2 + 1) (nI (a + 2 + 2 + wC ob + 2 + 2)) S4) (wA 24 (a + 2 + 1) (nI (a + 2 + 2 + wC ob + 2 + 2)) S5) := ((FrT_wA (by decide) (FrT.refl [2307] [] [24] [] S4)).symm.trans F5).trans (FrT_wA (by decide) (FrT.refl _ _ _ _ _))
    have b46 : ∀ i, i < a + 2 + 2 + wC ob + 2 → sA (wA 24 (a + 2 + 1) (nI (a + 2 + 2 + wC ob + 2 + 2)) S5) 24 i = sA (wA 24 (a + 2 + 1) (nI (a + 2 + 2 + wC ob + 2 + 2)) S4) 24 i := fun i hi => by
      show upd (sA S5 24) _ _ i = upd (sA S4 24) _ _ i
      rw [upd_at, upd_at, b5 i hi]
    -- a fault behind the jump: its place still waits
    have hJ : ∀ {l qa qc qf qe : Nat} {Sx : cS}, yB A n S0 z0 fb l (a + 2 + 2 + wC ob + 2 + 2) (c + cnN ob) (f + fxM ob) ab (a + 2 + 2 + wC ob + 2 + 2 + 2) [] qa qc qf qe 280 893 (wA 24 (a + 2 + 1) (nI (a + 2 + 2 + wC ob + 2 + 2)) S5) Sx → yB A n S0 z0 fb l (a + 2) c f ab (a + 2 + 2) [a + 2 + 2 + wC ob + 2] qa qc qf qe 280 893 S1 Sx := fun {l qa qc qf qe Sx} g => yB_J (H := [a + 2 + 2 + wC ob + 2]) (lo2 := a + 2 + 2 + wC ob + 2 + 2 + 2) (y2 0) F46 (fun i hi => b46 i (by rw [ew] at hi; omega)) (by
        have e5 : a + 2 + wC ([(12, [], ((6 + wC ob : Nat) : Int), (0 : Int))] ++ (ob ++ [(13, [1], (0 : Int), (0 : Int))])) + 2 = a + 2 + 2 + wC ob + 2 + 2 := by omega
        rw [e5, ec, ef]
        exact g) (by rw [ew]; omega) (fun p hp => by
        rw [List.mem_singleton.mp hp]
        exact Or.inl ⟨by rw [ew]; omega, fun hc => by have := bks_lt _ _ _ hc; rw [ew] at this; omega⟩)
    have hfin : ∀ {l qa qc qf qe top : Nat} {S8 S9 S10 : cS}, psTry (qK (by1 A) n) (qL (by1 A) n) (qI (by1 A) n) (Eb (by1 A) n) (psA A n F) dp ind s lp tr ca ra sc atb k = .inl l → qa ≤ qA (dp + 1) + 2 → qc ≤ qC (dp + 1) → qf ≤ qF (dp + 1) → qe ≤ qF (dp + 1) → yB A n S0 z0 fb l (a + 2) c f ab (a + 2 + 2) [] qa qc qf qe 280 893 S1 S10 → yRes A n S0 z0 fb a0 s ab S (a + 2) c f (qA dp) (qC dp) (qF dp) (qF dp) (psTry (qK (by1 A) n) (qL (by1 A) n) (qI (by1 A) n) (Eb (by1 A) n) (psA A n F) dp ind s lp tr ca ra sc atb k) S10 := fun {l qa qc qf qe top S8 S9 S10} e u1 u2 u3 u4 g => yRes_l e (yB_le (yOK_bad (H := []) Y1 g (Nat.le_refl _) (fun p hp => by cases hp)) (by omega) (by omega) (by omega) (by omega) (Nat.le_refl _) (Nat.le_refl _))
    by_cases hel' : ¬ (qK (by1 A) n kb = 55 ∧ qI (by1 A) n kb = ind)
    · have hel := hel'
      have ep : psTry (qK (by1 A) n) (qL (by1 A) n) (qI (by1 A) n) (Eb (by1 A) n) (psA A n F) dp ind s lp tr ca ra sc atb k = .inl (qL (by1 A) n kb) := by
        unfold psTry
        rw [hb]
        exact if_neg hel
      by_cases hc : qK (by1 A) n kb ≠ 0 ∧ qK (by1 A) n kb ≠ 1 ∧ qI (by1 A) n kb = ind
      · rw [if_pos hc] at hins
        obtain ⟨S8, y1, y3⟩ := pass_X (d := d + 3) (t := 55) (qa := 39600) (qc := 5150) (qf := 1510) (qe := 1510) hX.1 hX.2 (yOK_nil G6) (fun h => hel ⟨h, hc.2.2⟩) (by omega) (show _ + 0 ≤ _ by omega) (show _ + 0 ≤ _ by omega) (show _ + 0 ≤ _ by omega) (by omega) (by omega) (by omega)
        obtain ⟨a3, S9, S10, top, i1, i2, i3, i4, i5, i6, i7⟩ := tryB (d := d) (ind := ind) (dp := dp + 1) (hJ y3) (by omega) (by omega) hindM (by omega)
        exact ⟨_, Ans.of (by rw [ml_108]; exact Nat.le_of_ble_eq_true rfl) (Bod.lv (by rfl) (cTrr_1 (d := d + 3) (tr := tr) (tr1 := tr + 1) (tk := 0) (by omega) h3108 hindM p1 (by omega) w2 L2.1 (by omega) x1 e1 (by omega) (by omega) (by omega) q1 (by omega) r1 t5 (by omega) hpt hins y1 (yB_5 y3) (by omega) (by omega) i1 i2 i3 i4 i5 i6)), hfin (top := 0) (S8 := S) (S9 := S) ep (by omega) (by omega) (by omega) (by omega) i7⟩
      · rw [if_neg hc] at hins
        obtain ⟨S7, v1, v2⟩ := fail_X (d := d + 3) (qa := 39600) (qc := 5150) (qf := 1510) (qe := 1510) hX.1 hX.2 (yOK_nil G6) (show _ + 0 ≤ _ by omega) (show _ + 0 ≤ _ by omega) (show _ + 0 ≤ _ by omega) (by omega) (by omega) (by omega)
        obtain ⟨S8, y1, y3⟩ := yB_pass (d := d + 9) (t := 55) v2 (by omega) (by omega)
        obtain ⟨a3, S9, S10, top, i1, i2, i3, i4, i5, i6, i7⟩ := tryB (d := d) (ind := ind) (dp := dp + 1) (hJ y3) (by omega) (by omega) hindM (by omega)
        exact ⟨_, Ans.of (by rw [ml_108]; exact Nat.le_of_ble_eq_true rfl) (Bod.lv (by rfl) (cTrr_3 (d := d + 3) (tr := tr) (tr1 := tr + 1) (tk := 0) (by omega) h3108 hindM p1 (by omega) w2 L2.1 (by omega) x1 e1 (by omega) (by omega) (by omega) q1 (by omega) r1 t5 (by omega) hpt hins v1 y1 (yB_5 y3) (by omega) (by omega) i1 i2 i3 i4 i5 i6)), hfin (top := 0) (S8 := S) (S9 := S) ep (by omega) (by omega) (by omega) (by omega) i7⟩
    -- except
    have hel : qK (by1 A) n kb = 55 ∧ qI (by1 A) n kb = ind := Classical.not_not.mp hel'
    rw [if_pos ⟨by omega, by omega, hel.2⟩] at hins
    have hrb : rem (by1 A) n kb = rm (by1 A) n kb + qI (by1 A) n kb := rem_rm (by omega)
    have ci1 := ci_f (ind + 1)
    obtain ⟨S8, y1, Y8, _, _⟩ := pass_O (d := d + 3) hX.1 (yOK_nil G6) hel.1 (by omega)
    have G8 : yG A n S0 z0 fb a0 s ab (kb + 1) scb atb (a + 2 + 2 + wC ob + 2 + 2) (c + cnN ob) (f + fxM ob) S8 := Y8.1
    obtain ⟨g5, g6, g7, g8⟩ := rm_gt (β := by1 A) (n := n) (k := kb) (by omega)
    have htk := cP_5 G8.1
    have hqb1 := q_lt (by1 A) n (kb + 1)
    have hL5 : yLp a0 lp tr (wA 24 (a + 2 + 1) (nI (a + 2 + 2 + wC ob + 2 + 2)) S5) := yLp_S (yF_lp (yF_lp L2 Yb.2.2.2.1) Y4.2.2.2.1) (fun i hi => F5.1 i (by
      have : ∀ i, i ∈ [4308, 4309, 4311] → i ∉ [2307] := by decide
      exact this i hi))
    -- what begins except's block
    have hbeg : ∃ S9, (∀ {S10 S11 : cS} {top1 : Nat}, Ans (d + 11) 84 [.ref 43, .int (nI ind), .int (nI (dp + 1))] S9 none S10 → sI S10 2307 = nI top1 → top1 < 2 ^ 20 → Ans (d + 11) 83 [.ref 23, .int (nI (a + 2 + 2 + wC ob + 2 + 1)), .int (nI top1)] S10 none S11 → Ans (d + 12) 108 [.ref 43, .int (nI dp)] S none S11) ∧ yOK A n S0 z0 fb a0 s ab (wA 24 (a + 2 + 1) (nI (a + 2 + 2 + wC ob + 2 + 2)) S5) (a + 2 + 2 + wC ob + 2 + 2) (c + cnN ob) (f + fxM ob) (exK (qK (by1 A) n) (kb + 1), exO (qK (by1 A) n) s (kb + 1), exC (qK (by1 A) n) (Eb (by1 A) n) s (kb + 1) scb, atb) S9 := by
      by_cases k3 : qK (by1 A) n (kb + 1) = 3
      · obtain ⟨S9, q, o1, qM, Y9, hnm, _⟩ := name_O (d := d + 2) hX.1 (yOK_app Y8 (yE_61 (p := []) G8)) k3
        obtain ⟨n1, n2, n3⟩ := scB_l (Eb (by1 A) n) s (kb + 1) scb
        have G9 : yG A n S0 z0 fb a0 s ab (kb + 1 + 1) scb atb (a + 2 + 2 + wC ob + 2 + 2) (c + cnN ob) (f + fxM ob) S9 := Y9.1
        obtain ⟨S10, o2, Y10⟩ := bindTo_T (d := d) G9 hnm qM (by omega) (by omega) (by omega)
        refine ⟨S10, fun {S11 S12 top1} v1 v2 v3 v4 => Ans.of (by rw [ml_108]; exact Nat.le_of_ble_eq_true rfl) (Bod.lv (by rfl) (cTrr_2 (d := d + 3) (tr := tr) (tr1 := tr + 1) (by omega) h3108 hindM p1 (by omega) w2 L2.1 (by omega) x1 e1 (by omega) (by omega) (by omega) q1 (by omega) r1 t5 (by omega) hpt hins y1 htk (by omega) k3 o1 o2 v1 v2 v3 v4)), ?_⟩
        have Y11 := yOK_app Y9 Y10
        unfold exK exO exC
        rw [if_pos k3, if_pos k3, if_pos k3]
        exact Y11
      · obtain ⟨S9, o1, Y9, _⟩ := yE_1 (d := d + 9) (t := 17) (p := []) G8 (by omega) (by omega)
        refine ⟨S9, fun {S11 S12 top1} v1 v2 v3 v4 => Ans.of (by rw [ml_108]; exact Nat.le_of_ble_eq_true rfl) (Bod.lv (by rfl) (cTrr_1 (d := d + 3) (tr := tr) (tr1 := tr + 1) (by omega) h3108 hindM p1 (by omega) w2 L2.1 (by omega) x1 e1 (by omega) (by omega) (by omega) q1 (by omega) r1 t5 (by omega) hpt hins y1 htk (by omega) k3 (by omega) o1 v1 v2 v3 v4)), ?_⟩
        have Y11 := yOK_app Y8 (yOK_app (yE_61 (p := []) G8) Y9)
        unfold exK exO exC
        rw [if_neg k3, if_neg k3, if_neg k3]
        exact Y11
    obtain ⟨S9, hgo, Y9⟩ := hbeg
    have G9 := Y9.1
    dsimp only at G9
    obtain ⟨ow1, ow2, ow3⟩ := exO_w (qK (by1 A) n) s (kb + 1)
    obtain ⟨oc1, oc2, oc3⟩ := exC_l (E := Eb (by1 A) n) (qK (by1 A) n) s (kb + 1) scb
    have hek : rm (by1 A) n (exK (qK (by1 A) n) (kb + 1)) ≤ rm (by1 A) n (kb + 1) ∧ (qK (by1 A) n (kb + 1) = 3 → rm (by1 A) n (exK (qK (by1 A) n) (kb + 1)) + 1 ≤ rm (by1 A) n (kb + 1)) := by
      unfold exK
      by_cases k3 : qK (by1 A) n (kb + 1) = 3
      · rw [if_pos k3]
        obtain ⟨u1, _, _, _⟩ := rm_gt (β := by1 A) (n := n) (k := kb + 1) (by omega)
        exact ⟨by omega, fun _ => u1⟩
      · rw [if_neg k3]
        exact ⟨Nat.le_refl _, fun h => absurd h k3⟩
    have gx := rm_w2 (β := by1 A) (n := n) (k := kb) (by omega)
    have hz9 : yZ (rm (by1 A) n (exK (qK (by1 A) n) (kb + 1)) - 2) (dp + 1) (a + 2 + 2 + wC ob + 2 + 2 + wC (exO (qK (by1 A) n) s (kb + 1))) (c + cnN ob + cnN (exO (qK (by1 A) n) s (kb + 1))) (f + fxM ob + fxM (exO (qK (by1 A) n) s (kb + 1))) (exC (qK (by1 A) n) (Eb (by1 A) n) s (kb + 1) scb).2.length (exC (qK (by1 A) n) (Eb (by1 A) n) s (kb + 1) scb).1.length (fb + (exC (qK (by1 A) n) (Eb (by1 A) n) s (kb + 1) scb).1.length - 1) := by
      have := rm_pos (by1 A) n (exK (qK (by1 A) n) (kb + 1))
      rw [oc1]
      exact ⟨by omega, by omega, by omega, by omega, by omega, by omega⟩
    obtain ⟨S10, o1, o2⟩ := h84 (d + 11) (dp + 1) ind s ab tr (ca + 2 + wC ob + 4 + wC (exO (qK (by1 A) n) s (kb + 1))) (ra + 2 + wR (qK (by1 A) n) ob + 3 + wR (qK (by1 A) n) (exO (qK (by1 A) n) s (kb + 1))) (exK (qK (by1 A) n) (kb + 1)) (a + 2 + 2 + wC ob + 2 + 2 + wC (exO (qK (by1 A) n) s (kb + 1))) (c + cnN ob + cnN (exO (qK (by1 A) n) s (kb + 1))) (f + fxM ob + fxM (exO (qK (by1 A) n) s (kb + 1))) lp (exC (qK (by1 A) n) (Eb (by1 A) n) s (kb + 1) scb) atb S9 (by omega) hindM (by omega) (by omega) ⟨G9, hz9, yF_lp hL5 Y9.2.2.2.1, by omega, by omega, by omega⟩
    cases hz1 : psA A n F 2 (dp + 1) ind s lp tr (ca + 2 + wC ob + 4 + wC (exO (qK (by1 A) n) s (kb + 1))) (ra + 2 + wR (qK (by1 A) n) ob + 3 + wR (qK (by1 A) n) (exO (qK (by1 A) n) s (kb + 1))) (exC (qK (by1 A) n) (Eb (by1 A) n) s (kb + 1) scb) atb (exK (qK (by1 A) n) (kb + 1)) with
    | inl l2 =>
      have Bz := hJ (yOK_bad (H := []) Y9 (o2.2 _ hz1) (Nat.le_refl _) (fun p hp => by cases hp))
      obtain ⟨t10, c10, f10, tz, tzM, _, _, _, _⟩ := yB_sub Bz (Nat.le_refl _)
      obtain ⟨u1, u2⟩ := yB_patch (d := d + 10) (p := a + 2 + 2 + wC ob + 2) (x := nI t10) Bz List.mem_cons_self (by omega)
      refine ⟨_, hgo o1 tz (by omega) u1, hfin (top := 0) (S8 := S) (S9 := S) ?_ (by omega) (by omega) (by omega) (by omega) (yB_H u2 (fun x hx => by cases hx))⟩
      unfold psTry
      rw [hb]
      show (if qK (by1 A) n kb = 55 ∧ qI (by1 A) n kb = ind then _ else _) = _
      rw [if_pos hel, hz1]
      rfl
    | inr z =>
      obtain ⟨z1', oz, scz, atz⟩ := z
      have hat2 := ps_at F 2 (by omega) _ _ _ _ _ _ _ _ _ _ _ hz1
      dsimp only at hat2
      subst hat2
      have Yz := o2.1 _ hz1
      have tz : sI S10 2307 = nI (a + 2 + 2 + wC ob + 2 + 2 + wC (exO (qK (by1 A) n) s (kb + 1)) + wC oz) := Yz.1.2.1.1
      have tzM : a + 2 + 2 + wC ob + 2 + 2 + wC (exO (qK (by1 A) n) s (kb + 1)) + wC oz ≤ 40960 := Yz.1.2.2.2.2.2.2.2.2.2.2.2.2.2.2.1
      have hp2 := patch_T (d := d + 10) (S := S10) (q := a + 2 + 2 + wC ob + 2 + 1) (x := nI (a + 2 + 2 + wC ob + 2 + 2 + wC (exO (qK (by1 A) n) s (kb + 1)) + wC oz)) tz (by omega) tzM
      have k5 := yOK_id (yOK_hole (p := a + 2 + 1) (v := nI (a + 2 + 2 + wC ob + 2 + 2)) (told5 (a + 2 + 2 + wC ob + 2 + 2 + wC (exO (qK (by1 A) n) s (kb + 1)) + wC oz) ((2 + (wC (exO (qK (by1 A) n) s (kb + 1)) + wC oz) : Nat) : Int) ((1 + (wR (qK (by1 A) n) (exO (qK (by1 A) n) s (kb + 1)) + wR (qK (by1 A) n) oz) : Nat) : Int) (by omega)) (by omega)) (wA_sw (by omega))
      have k9 := yOK_hole (p := a + 2 + 2 + wC ob + 2 + 1) (v := nI (a + 2 + 2 + wC ob + 2 + 2 + wC (exO (qK (by1 A) n) s (kb + 1)) + wC oz)) Y9 (by omega)
      have k10 := yOK_hole (p := a + 2 + 2 + wC ob + 2 + 1) (v := nI (a + 2 + 2 + wC ob + 2 + 2 + wC (exO (qK (by1 A) n) s (kb + 1)) + wC oz)) Yz (by omega)
      have kk := yOK_app (told2 (a + 2 + 2 + wC ob + 2 + 2) ((6 + wC ob : Nat) : Int) ((4 + wR (qK (by1 A) n) ob : Nat) : Int) (by omega)) (yOK_app (yOK_hole (p := a + 2 + 1) (v := nI (a + 2 + 2 + wC ob + 2 + 2)) Yb (show a + 2 + 1 < a + 2 + 2 by omega)) (yOK_app (yOK_hole (p := a + 2 + 1) (v := nI (a + 2 + 2 + wC ob + 2 + 2)) Y4 (show a + 2 + 1 < a + 2 + 2 + wC ob by omega)) (yOK_app k5 (yOK_app k9 k10))))
      have k11 := yOK_app Y1 kk
      refine ⟨_, hgo o1 tz (by omega) hp2, yRes_r (x := _) ?_ k11⟩
      unfold psTry
      rw [hb]
      show (if qK (by1 A) n kb = 55 ∧ qI (by1 A) n kb = ind then _ else _) = _
      rw [if_pos hel, hz1]
      exact congrArg Sum.inr (by simp only [List.append_assoc, List.cons_append, List.nil_append])
end
