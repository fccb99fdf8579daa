/-! WHILE in the class; loops, whatever is in them -/
theorem rsv_app {K : Nat → Nat} {ce re : Nat} {l2 : List Op} : ∀ (l1 : List Op) (c r : Nat), rsv K ce re c r (l1 ++ l2) = rsv K ce re c r l1 ++ rsv K ce re (c + wC l1) (r + wR K l1) l2 := by
  intro l1
  induction l1 with
  | nil => intro c r; rfl
  | cons o l ih =>
    intro c r
    show _ :: rsv K ce re (c + lC o) (r + lR K o) (l ++ l2) = _ :: (rsv K ce re (c + lC o) (r + lR K o) l ++ rsv K ce re (c + (lC o + wC l)) (r + (lR K o + wR K l)) l2)
    rw [ih, Nat.add_assoc, Nat.add_assoc]
theorem rsv_1 {K : Nat → Nat} {ce re c r : Nat} {o : Op} (h : o.1 ≠ 60) : rsv K ce re c r [o] = [o] := by
  show [if o.1 = 60 then _ else o] = [o]
  rw [if_neg h]
/-- what blocks and statements leave of a class's names -/
theorem ps_at {A : Nat → Int32} {n : Nat} : ∀ (F t : Nat), t ≤ 3 → ∀ (dp ind s : Nat) (lp : LpT) (tr ca ra : Nat) (sc : SCs) (at' : List Nat) (k : Nat) (x : PT), psA A n F t dp ind s lp tr ca ra sc at' k = .inr x → x.2.2.2 = at' := by
  intro F
  induction F with
  | zero => intro t _ dp ind s lp tr ca ra sc at' k x h; cases h
  | succ F ih =>
    have hln : ∀ {l k : Nat} {os : List Op} {sc : SCs} {at' : List Nat} {y : PT}, ln (qK (by1 A) n) l k os sc at' = .inr y → y.2.2.2 = at' := fun h => by rw [(ln_inr h).2]
    have hgl : ∀ (l s : Nat) (at' : List Nat) (m : Nat) (sc : SCs) (k : Nat) (y : PT), psGl (qK (by1 A) n) (Eb (by1 A) n) l s at' m sc k = .inr y → y.2.2.2 = at' := by
      intro l s at' m
      induction m with
      | zero => intro sc k y h; cases h
      | succ m im =>
        intro sc k y h
        unfold psGl at h
        obtain ⟨h1, h⟩ := if_inr h
        split at h
        · cases h
        · split at h
          · exact im _ _ _ h
          · exact hln h
    intro t ht dp ind s lp tr ca ra sc at' k x h
    obtain rfl | rfl | rfl | rfl : t = 0 ∨ t = 1 ∨ t = 2 ∨ t = 3 := by omega
    · replace h : psS (qK (by1 A) n) (qL (by1 A) n) (qI (by1 A) n) (Eb (by1 A) n) (psA A n F) dp ind s lp tr ca ra sc at' k = .inr x := h
      unfold psS at h
      obtain ⟨y, hy, h⟩ := sb_inr h
      injection h with h
      subst h
      dsimp only
      unfold psS0 at hy
      by_cases e40 : qK (by1 A) n k = 40
      · rw [if_pos e40] at hy
        exact ih 3 (by omega) _ _ _ _ _ _ _ _ _ _ _ hy
      rw [if_neg e40] at hy
      by_cases e43 : qK (by1 A) n k = 43
      · rw [if_pos e43] at hy
        unfold psWh at hy
        obtain ⟨r, _, hy⟩ := pb_inr hy
        obtain ⟨b, _, hy⟩ := sb_inr hy
        injection hy with hy
        subst hy
        rfl
      rw [if_neg e43] at hy
      by_cases e44 : qK (by1 A) n k = 44
      · rw [if_pos e44] at hy
        unfold psFor at hy
        obtain ⟨_, hy⟩ := if_inr hy
        obtain ⟨r, _, hy⟩ := pb_inr hy
        obtain ⟨b, _, hy⟩ := sb_inr hy
        injection hy with hy
        subst hy
        rfl
      rw [if_neg e44] at hy
      by_cases e46 : qK (by1 A) n k = 46
      · rw [if_pos e46] at hy
        unfold psDf at hy
        obtain ⟨b, _, hy⟩ := sb_inr hy
        injection hy with hy
        subst hy
        rfl
      rw [if_neg e46] at hy
      by_cases e47 : qK (by1 A) n k = 47
      · rw [if_pos e47] at hy
        unfold psCl at hy
        obtain ⟨_, hy⟩ := if_inr hy
        split at hy
        · obtain ⟨_, hy⟩ := if_inr hy
          obtain ⟨b, _, hy⟩ := sb_inr hy
          injection hy with hy
          subst hy
          rfl
        · obtain ⟨b, _, hy⟩ := sb_inr hy
          injection hy with hy
          subst hy
          rfl
      rw [if_neg e47] at hy
      by_cases e54 : qK (by1 A) n k = 54
      · rw [if_pos e54] at hy
        unfold psTry at hy
        obtain ⟨b, _, hy⟩ := sb_inr hy
        obtain ⟨_, hy⟩ := if_inr hy
        obtain ⟨e, _, hy⟩ := sb_inr hy
        injection hy with hy
        subst hy
        rfl
      rw [if_neg e54] at hy
      by_cases e52 : qK (by1 A) n k = 52
      · rw [if_pos e52] at hy
        unfold psDel at hy
        obtain ⟨r, _, hy⟩ := pb_inr hy
        exact hln (ifn_inr hy).2
      rw [if_neg e52] at hy
      by_cases e48 : qK (by1 A) n k = 48
      · rw [if_pos e48] at hy
        unfold psRet at hy
        have hy := (ifn_inr hy).2
        split at hy
        · injection hy with hy
          subst hy
          rfl
        · obtain ⟨r, _, hy⟩ := pb_inr hy
          exact hln hy
      rw [if_neg e48] at hy
      by_cases e56 : qK (by1 A) n k = 56
      · rw [if_pos e56] at hy
        unfold psRse at hy
        obtain ⟨r, _, hy⟩ := pb_inr hy
        exact hln hy
      rw [if_neg e56] at hy
      by_cases e51 : qK (by1 A) n k = 51
      · rw [if_pos e51] at hy
        exact hln hy
      rw [if_neg e51] at hy
      by_cases e49 : qK (by1 A) n k = 49
      · rw [if_pos e49] at hy
        unfold psLv at hy
        split at hy
        · cases hy
        · exact hln hy
      rw [if_neg e49] at hy
      by_cases e50 : qK (by1 A) n k = 50
      · rw [if_pos e50] at hy
        unfold psLv at hy
        split at hy
        · cases hy
        · exact hln hy
      rw [if_neg e50] at hy
      by_cases e53 : qK (by1 A) n k = 53
      · rw [if_pos e53] at hy
        exact hgl _ _ _ _ _ _ _ (ifn_inr hy).2
      · rw [if_neg e53] at hy
        unfold psBind at hy
        obtain ⟨r, _, hy⟩ := pb_inr hy
        split at hy
        · have hy := (ifn_inr hy).2
          obtain ⟨q, _, hy⟩ := pb_inr hy
          exact hln hy
        split at hy
        · exact hln hy
        · have hy := (ifn_inr hy).2
          obtain ⟨q, _, hy⟩ := pb_inr hy
          exact hln hy
    · replace h : psQ (qK (by1 A) n) (qL (by1 A) n) (qI (by1 A) n) (psA A n F) 0 1 dp ind s lp tr ca ra sc at' k = .inr x := h
      unfold psQ at h
      split at h
      · injection h with h
        subst h
        rfl
      have h := (ifn_inr h).2
      obtain ⟨y, hy, h⟩ := sb_inr h
      obtain ⟨z, hz, h⟩ := sb_inr h
      injection h with h
      subst h
      exact (ih 1 (by omega) _ _ _ _ _ _ _ _ _ _ _ hz).trans (ih 0 (by omega) _ _ _ _ _ _ _ _ _ _ _ hy)
    · replace h : psB (qK (by1 A) n) (qL (by1 A) n) (qI (by1 A) n) (psA A n F) 1 dp ind s lp tr ca ra sc at' k = .inr x := h
      unfold psB at h
      exact ih 1 (by omega) _ _ _ _ _ _ _ _ _ _ _ (ifn_inr (ifn_inr (ifn_inr h).2).2).2
    · replace h : psI (qK (by1 A) n) (qL (by1 A) n) (qI (by1 A) n) (psA A n F) dp ind s lp tr ca ra sc at' k = .inr x := h
      unfold psI at h
      obtain ⟨r, _, h⟩ := pb_inr h
      obtain ⟨b, _, h⟩ := sb_inr h
      split at h
      · obtain ⟨e, _, h⟩ := sb_inr h
        injection h with h
        subst h
        rfl
      · injection h with h
        subst h
        rfl
section
variable {A : Nat → Int32} {n z0 fb l a c f ab lo : Nat} {S0 B : cS} {H : List Nat} {qa qc qf qe qs qn d : Nat}
theorem yF_wA {S : cS} {p : Nat} {v : Int32} (h : yF fb a c f ab B S) (hp : a ≤ p) : yF fb a c f ab B (wA 24 p v S) :=
  ⟨FrT_wA (by decide) h.1, kQ_trans h.2.1 (kQ_A (a := a) (c := c) (f := f) (ab := ab) (fb := fb) (fun i hi => by
    show upd (sA S 24) p v i = _
    rw [upd_at, if_neg (by omega)]) (fun _ _ => ⟨rfl, rfl⟩) (fun _ _ => ⟨rfl, rfl⟩) (fun _ _ => rfl) (fun x hx i _ => by
    have : ∀ x, x ∈ [27, 28, 29, 30] → x ≠ 24 := by decide
    rw [rAn _ _ _ (this x hx)])) (Nat.le_refl _) (Nat.le_refl _) (Nat.le_refl _) (Nat.le_refl _), nK_S h.2.2 rfl rfl (fun _ _ => rfl) (fun _ _ => rfl)⟩
/-- a loop whose head has a fault -/
theorem lpB_B {S : cS} {xt bk ind dp : Nat} (h : yB A n S0 z0 fb l a c f ab lo (xt :: H) qa qc qf qe qs qn B S) (hw : sA S 24 (xt + 1) = Int32.ofInt (-1)) (hax : a ≤ xt) (hlo : lo ≤ xt + 2) (hx3 : 2 ≤ xt) (hq : qa + 2 ≤ 40960) (hbk : bk < 2 ^ 20) (hind : ind < 2 ^ 20) (hdp : dp + 1 < 2 ^ 20) : ∃ Sf, Ans (d + 11) 90 [.ref 43, .int (nI ind), .int (nI dp), .int (nI bk), .int (nI xt)] S none Sf ∧ yB A n S0 z0 fb l a c f ab lo [] (qa + 2) qc qf qe qs qn B Sf := by
  obtain ⟨t, c', f', s, e, sn, fn, av, tv, lv, l', h1, h2, h3, h4, h5, h6, h7', h8, h9, hfl, hlo', g1, g2, g3, g4, g5, g6, g7, g8, g9, g10⟩ := yB_top h
  obtain ⟨k1, ps, k3, k4, k5⟩ := yK_t h.2.2.2.1 h1.1 (by omega)
  obtain ⟨x1, x2⟩ := k5 xt List.mem_cons_self
  have hF4 : FrT [4308, 4309, 4310, 4311] [] [24] [] S (wI 4311 (nI tv) (wI 4310 (nI xt) (wI 4309 (nI bk) S))) := FrT_wI (by decide) (FrT_wI (by decide) (FrT_wI (by decide) (FrT.refl _ _ _ _ _)))
  have e8 : sI (wI 4311 (nI tv) (wI 4310 (nI xt) (wI 4309 (nI bk) S))) 4308 = nI tv := ((rIn _ _ (by decide)).trans ((rIn _ _ (by decide)).trans (rIn _ _ (by decide)))).trans h6
  have g0 : yB A n S0 z0 fb l t c' f' ab (t + 2) [] qa qc qf qe qs qn S S := ⟨h.1, ⟨t, c', f', s, e, sn, fn, av, tv, lv, l', h1, h2, h3, h4, h5, h6, h7', h8, h9, hfl, by omega, g1, g2, g3, g4, g5, g6, g7, g8, g9, g10⟩, ⟨FrT.refl _ _ _ _ _, kQ_eq (fun _ _ => rfl) (fun _ _ => rfl), cB_nK h.1 rfl (fun _ _ => rfl)⟩, ⟨[], t, h1.1, k1, rfl, trivial, fun x hx => by cases hx⟩, by omega, h.2.2.2.2.2⟩
  have g1' : yB A n S0 z0 fb l t c' f' ab (t + 2) [] qa qc qf qe qs qn (wI 4311 (nI tv) (wI 4310 (nI xt) (wI 4309 (nI bk) S))) (wI 4311 (nI tv) (wI 4310 (nI xt) (wI 4309 (nI bk) S))) := yB_re (H1 := []) (lo1 := t + 2) g0 hF4 hF4 (fun _ _ => rfl) ⟨tv, tv, e8, rIe _ _ _, g8, g8⟩ (fun _ _ => rfl) (by omega) ⟨[], t, ((rIn _ _ (by decide)).trans ((rIn _ _ (by decide)).trans (rIn _ _ (by decide)))).trans h1.1, k1, rfl, trivial, fun x hx => by cases hx⟩
  obtain ⟨S1, p1, p2⟩ := yB_blk (d := d) (o := ind) (dp := dp + 1) g1' hind hdp
  obtain ⟨S2, t2, S3, q1, q2, q3, q4⟩ := yB_lpE (d := d + 1) (bk := bk) p2 hw x1 hx3 hq h7' g9
  refine ⟨_, Ans.of (by rw [ml_90]; exact Nat.le_of_ble_eq_true rfl) (Bod.lv (by rfl) (cLpB_1 (d := d + 2) (lt := lv) (tr := tv) hind (by omega) hbk (by omega) h7' (by omega) (((rIn _ _ (by decide)).trans (rIn _ _ (by decide))).trans h6) (by omega) p1 q2 q1 q3)), ?_⟩
  refine yB_base (lo := lo) (qs := ps) (a2 := t) (c2 := c') (f2 := f') (H2 := []) (yF_wA h.2.2.1 (by omega)) (chL_S ps _ (fun p hp => ?_) k3) k4 (fun p hp => by cases hp) (by omega) (by omega) (by omega) (by omega) h.2.2.2.2.1 (by omega) q4
  show upd (sA S 24) (xt + 1) _ (p + 1) = _
  rw [upd_at, if_neg (fun e => x2 (by
    have : xt = p := by omega
    rw [this]; exact hp))]
end
section
variable {A : Nat → Int32} {n z0 fb a0 F s ab d : Nat} {S0 : cS}
/-- a loop behind its head -/
theorem lpB_1 (hX : yPre A n S0 z0) (h84 : P84 A n S0 z0 fb a0 F) {dp ind tr ca ra cb rb bk xt k a c f : Nat} {lp : LpT} {sc : SCs} {at' : List Nat} {S : cS} (h : yG A n S0 z0 fb a0 s ab k sc at' a c f S) (hz : yZ (rm (by1 A) n k - 2) (dp + 1) a c f sc.2.length sc.1.length (fb + sc.1.length - 1)) (hL : yLp a0 lp tr S) (hca : a = a0 + ca) (hab : ab ≤ 40 * (dp + 1)) (htr : tr ≤ dp + 1) (hx : sA S 24 (xt + 1) = Int32.ofInt (-1)) (hx2 : xt + 2 ≤ a) (hx3 : 2 ≤ xt) (hbk : bk = a0 + cb) (hbk2 : bk < 2 ^ 20) (hind : ind < 2 ^ 20) (hdp : dp + 1 ≤ 12) (hF : 4 * rm (by1 A) n k + 1 ≤ F) (hd : lvD (dp + 1) ≤ d + 9) :
    (∀ x, psA A n F 2 (dp + 1) ind s (some (cb, rb, tr)) tr ca ra sc at' k = .inr x → ∀ (K : Nat → Nat) (ce re c0 r0 : Nat) (j r : Int), (ce : Int) - c0 = (wC x.2.1 : Int) + 2 → (bk : Int) = ((a + wC x.2.1 : Nat) : Int) + j → ∃ Sf, Ans (d + 10) 90 [.ref 43, .int (nI ind), .int (nI dp), .int (nI bk), .int (nI xt)] S none Sf ∧ yOK A n S0 z0 fb a0 s ab (wA 24 (xt + 1) (nI (a + wC x.2.1 + 2)) S) a c f (x.1, rsv K ce re c0 r0 x.2.1 ++ [(4, [], j, r)], x.2.2.1, x.2.2.2) Sf) ∧
    (∀ l, psA A n F 2 (dp + 1) ind s (some (cb, rb, tr)) tr ca ra sc at' k = .inl l → ∃ Sf v, Ans (d + 10) 90 [.ref 43, .int (nI ind), .int (nI dp), .int (nI bk), .int (nI xt)] S none Sf ∧ yB A n S0 z0 fb l a c f ab (a + 2) [] (qA (dp + 1) + 2) (qC (dp + 1)) (qF (dp + 1)) (qF (dp + 1)) 280 893 (wA 24 (xt + 1) v S) Sf) := by
  obtain ⟨tr0, lt, t1, t2, t3, t4⟩ := h.2.2.2.2.2.2.2.2.2.2.2.2.1
  obtain ⟨c0', c1', c2', c3', c4', c5', c6'⟩ := yZ_cap hz hdp
  have hT4 : FrT [4308, 4309, 4310, 4311] [] [] [] S (wI 4311 (nI tr) (wI 4310 (nI xt) (wI 4309 (nI bk) S))) := FrT_wI (by decide) (FrT_wI (by decide) (FrT_wI (by decide) (FrT.refl _ _ _ _ _)))
  have e8 : sI (wI 4311 (nI tr) (wI 4310 (nI xt) (wI 4309 (nI bk) S))) 4308 = nI tr := ((rIn _ _ (by decide)).trans ((rIn _ _ (by decide)).trans (rIn _ _ (by decide)))).trans hL.1
  have e10 : sI (wI 4311 (nI tr) (wI 4310 (nI xt) (wI 4309 (nI bk) S))) 4310 = nI xt := (rIn _ _ (by decide)).trans (rIe _ _ _)
  have gT := yG_I h hT4 ⟨tr, tr, e8, rIe _ _ _, hL.2.1, hL.2.1⟩
  have lT : yLp a0 (some (cb, rb, tr)) tr (wI 4311 (nI tr) (wI 4310 (nI xt) (wI 4309 (nI bk) S))) := ⟨e8, hL.2.1, (fun h => by cases h), fun x hx => by
    injection hx with hx
    subst hx
    exact ⟨((rIn _ _ (by decide)).trans ((rIn _ _ (by decide)).trans (rIe _ _ _))).trans (congrArg nI hbk), by dsimp only; omega, rIe _ _ _, hL.2.1⟩⟩
  obtain ⟨S1, p1, p2⟩ := h84 (d + 9) (dp + 1) ind s ab tr ca ra k a c f (some (cb, rb, tr)) sc at' _ hd hind hdp hF ⟨gT, hz, lT, hca, hab, htr⟩
  have hgo : ∀ {S2 S3 : cS} {t : Nat}, Ans (d + 9) 54 [.ref 23, .int (nI 4), .int (nI bk)] S1 (some (.int (nI t))) S2 → t < 2 ^ 20 → Ans (d + 9) 87 [.ref 43, .int (sI S2 4310)] S2 none S3 → Ans (d + 10) 90 [.ref 43, .int (nI ind), .int (nI dp), .int (nI bk), .int (nI xt)] S none (wI 4311 (nI lt) (wI 4310 (sI S 4310) (wI 4309 (sI S 4309) S3))) := fun q1 qt q2 => Ans.of (by rw [ml_90]; exact Nat.le_of_ble_eq_true rfl) (Bod.lv (by rfl) (cLpB_1 (d := d + 1) (lt := lt) (tr := tr) hind (by omega) hbk2 (by omega) t2 (by omega) (((rIn _ _ (by decide)).trans (rIn _ _ (by decide))).trans hL.1) (by have := hL.2.1; omega) p1 qt q1 q2))
  refine ⟨fun x hr K ce re c0 r0 j r hce hj => ?_, fun l hr => ?_⟩
  · obtain ⟨k', os, sc1, at1⟩ := x
    dsimp only at hce hj ⊢
    have hy := p2.1 _ hr
    have hG := hy.1
    dsimp only at hG
    have hw := (ps_H (by1 A) n (Eb (by1 A) n) F).2.2.1 2 (dp + 1) ind s (some (cb, rb, tr)) tr ca ra sc at' k _ (Or.inl rfl) hr
    have hw2 := hw.2.2.2.1
    have hw3 := hw.2.2.2.2.1
    dsimp only at hw2 hw3
    have hrl := rm_le (β := by1 A) (k := k) hX.1.1
    have hz1 := hz.1
    obtain ⟨S2, q1, q2⟩ := yE_K (d := d + 7) (t := 4) (u := 4) (v := bk) (j := j) (r := r) hG (by omega) rfl (by omega) hj
    have Y := yOK_app hy q2
    dsimp only at Y
    obtain ⟨S3, r1, r2, r3⟩ := come_K (d := d) Y e10 hx hx2 hx3 (by dsimp only; rw [wC_app]; show _ + (2 + 0) ≤ _; omega)
    have r4 := r3 (sI S 4310) K ce re c0 r0 (by dsimp only; rw [wC_app]; show (ce : Int) - c0 = ((_ + (2 + 0) : Nat) : Int); omega)
    dsimp only at r4
    rw [rsv_app, rsv_1 (by dsimp only; omega)] at r4
    have e9 : a + wC (os ++ [(4, [], j, r)]) = a + wC os + 2 := by rw [wC_app]; rfl
    rw [e9] at r4
    refine ⟨_, hgo q1 (by omega) r1, yOK_ints r4 ⟨fun i hi => ?_, fun _ _ => rfl, fun _ _ => rfl, fun _ _ => rfl, rfl, rfl, rfl, rfl⟩ ⟨fun i hi => ?_, fun _ _ => rfl, fun _ _ => rfl, fun _ _ => rfl, rfl, rfl, rfl, rfl⟩ (fun i hi => ?_) ⟨tr, lt, ?_, rIe _ _ _, hL.2.1, t4⟩⟩
    · have n8 : i ≠ 4308 := fun e => hi (by rw [e]; decide)
      have n9 : i ≠ 4309 := fun e => hi (by rw [e]; decide)
      have n11 : i ≠ 4311 := fun e => hi (by rw [e]; decide)
      by_cases n10 : i = 4310
      · subst n10
        exact (rAI _ _ _ _ _).trans ((rAI _ _ _ _ _).trans (rIe _ _ _)).symm
      · exact ((rIn _ _ n10).trans ((rIn _ _ n11).trans ((rIn _ _ n10).trans (rIn _ _ n9)))).symm
    · have n9 : i ≠ 4309 := fun e => hi (by rw [e]; decide)
      have n11 : i ≠ 4311 := fun e => hi (by rw [e]; decide)
      by_cases n10 : i = 4310
      · subst n10
        exact ((rIn _ _ (by decide)).trans (rIe _ _ _)).trans (rIe _ _ _).symm
      · exact ((rIn _ _ n11).trans ((rIn _ _ n10).trans (rIn _ _ n9))).trans (rIn _ _ n10).symm
    · have e83 : sI S3 4308 = sI S 4308 := ((r2.1 _ (fun h => by cases h)).trans (Y.2.2.2.1.1.1 4308 (by decide))).trans (e8.trans hL.1.symm)
      simp only [List.mem_cons, List.not_mem_nil, or_false] at hi
      rcases hi with rfl | rfl | rfl
      · exact ((rIn _ _ (by decide)).trans ((rIn _ _ (by decide)).trans (rIn _ _ (by decide)))).trans e83
      · exact (rIn _ _ (by decide)).trans ((rIn _ _ (by decide)).trans (rIe _ _ _))
      · exact (rIe _ _ _).trans t2.symm
    · have e83 : sI S3 4308 = sI S 4308 := ((r2.1 _ (fun h => by cases h)).trans (Y.2.2.2.1.1.1 4308 (by decide))).trans (e8.trans hL.1.symm)
      exact (((rIn _ _ (by decide)).trans ((rIn _ _ (by decide)).trans (rIn _ _ (by decide)))).trans e83).trans hL.1
  · obtain ⟨S2, t, S3, q1, q2, q3, q4⟩ := yB_lpE (d := d) (x9 := nI bk) (bk := bk) (p2.2 l hr) hx hx2 hx3 (by unfold qA; omega) t2 t4
    exact ⟨_, _, hgo q1 q2 q3, q4⟩
/-- while -/
theorem whl_T (hX : yPre A n S0 z0) (h84 : P84 A n S0 z0 fb a0 F) {dp ind tr ca ra k a c f : Nat} {lp : LpT} {sc : SCs} {at' : List Nat} {S : cS} (h : yG A n S0 z0 fb a0 s ab k sc at' (a + 2) c f S) (hz : yZ (rm (by1 A) n k) dp a c f sc.2.length sc.1.length (fb + sc.1.length - 1)) (hL : yLp a0 lp tr S) (hca : a + 2 = a0 + ca) (hab : ab ≤ 40 * dp) (htr : tr ≤ dp) (hk : qK (by1 A) n k = 43) (hie : qI (by1 A) n k = ind) (hdp : dp ≤ 11) (hF : 4 * rm (by1 A) n k + 1 ≤ F) (hd : lvD dp ≤ d + 15) : ∃ Sf, Ans (d + 12) 89 [.ref 43, .int (nI dp)] S none Sf ∧ yRes A n S0 z0 fb a0 s ab S (a + 2) c f (qA dp) (qC dp) (qF dp) (qF dp) (psWh (qK (by1 A) n) (qL (by1 A) n) (psA A n F) dp ind s tr ca ra sc at' k) Sf := by
  obtain ⟨c1, c2, c3, c4, c5, c6⟩ := yZ_c hz (by omega)
  obtain ⟨z1, z2, z3, z4, z5, z6⟩ := id hz
  have hlv : lvD dp = 270 + 8 * (12 - dp) := rfl
  have hlv1 : lvD (dp + 1) = 270 + 8 * (12 - (dp + 1)) := rfl
  have hqA : qA dp = 39700 + 60 * (12 - dp) := rfl
  have hqC : qC dp = 5160 + 2 * (12 - dp) := rfl
  have hqF : qF dp = 1515 + 4 * (12 - dp) := rfl
  have hqA1 : qA (dp + 1) = 39700 + 60 * (12 - (dp + 1)) := rfl
  have hqC1 : qC (dp + 1) = 5160 + 2 * (12 - (dp + 1)) := rfl
  have hqF1 : qF (dp + 1) = 1515 + 4 * (12 - (dp + 1)) := rfl
  obtain ⟨g1, g2, g3, g4⟩ := rm_gt (β := by1 A) (n := n) (k := k) (by omega)
  have gw := rm_w2 (β := by1 A) (n := n) (k := k) (by omega)
  have hn := hX.1.1
  have hq := q_lt (by1 A) n (k + 1)
  have hqk := q_lt (by1 A) n k
  have hrm : rm (by1 A) n (k + 1) = n + 1 - qP (by1 A) n (k + 1) := rfl
  have hiM := ind_lt (A := A) (k := k) hX.1.1
  have h3108 : sI S 3108 = nI ind := ((cP_8 h.1).2 (by omega)).trans (congrArg nI hie)
  obtain ⟨S1, p1, F1, G1, w1, w1', b1, told1⟩ := yE_J (d := d + 9) (t := 4) (u := 4) (w := nI 0) h (by omega) rfl (by omega)
  obtain ⟨S2, q1, Y2, F2⟩ := yE_2 (d := d + 9) (t := 2) (m := qL (by1 A) n k) G1 (by omega) (by omega)
  have htop : sI S2 2307 = nI (a + 2 + 4) := Y2.1.2.1.1
  have hpt := patch_T (d := d + 10) (S := S2) (q := a + 2 + 1) (x := nI (a + 2 + 4)) htop (by omega) (by omega)
  have Y3 := yOK_app (told1 (a + 2 + 4) 4 3 (by omega)) (yOK_hole (p := a + 2 + 1) (v := nI (a + 2 + 4)) Y2 (show a + 2 + 1 < a + 2 + 2 by omega))
  dsimp only at Y3
  obtain ⟨S4, r1, Y4, _, _⟩ := pass_O (d := d + 3) hX.1 Y3 hk (by omega)
  obtain ⟨S5, u1, u2, u3⟩ := ex_O (d := d + 11) (W := rm (by1 A) n (k + 1)) (dp := dp) hX.1 hX.2 Y4 (by omega) (by omega) ⟨(show a + 2 + (2 + (2 + 0)) + _ ≤ _ by omega), (show 2 * (c + (0 + (0 + 0))) + _ ≤ _ by omega), (show 2 * (f + (0 + (0 + 0))) + _ ≤ _ by omega), by omega, by omega, by omega⟩ (by omega)
  have hgo : ∀ {S6 S7 : cS} {a2 : Nat}, a2 < 2 ^ 20 → Ans (d + 11) 54 [.ref 23, .int (nI 5), .int (Int32.ofInt (-1))] S5 (some (.int (nI a2))) S6 → Ans (d + 11) 90 [.ref 43, .int (nI ind), .int (nI dp), .int (nI (a + 2 + 2)), .int (nI a2)] S6 none S7 → Ans (d + 12) 89 [.ref 43, .int (nI dp)] S none S7 := fun m x y => Ans.of (by rw [ml_89]; exact Nat.le_of_ble_eq_true rfl) (Bod.lv (by rfl) (cWhl_1 (d := d + 3) (by omega) h3108 (by omega) (by omega) p1 (cP_6 G1.1) (by omega) (by omega) q1 htop (by omega) hpt r1 u1 m x y))
  cases hr : exs (qK (by1 A) n) s (k + 1) with
  | none =>
    obtain ⟨v1, _⟩ := u3 hr
    obtain ⟨S6, t, w2, w3, w4, w5, w6⟩ := yB_put2 (d := d + 9) (x0 := nI 5) (x1 := Int32.ofInt (-1)) v1 (by omega)
    obtain ⟨S7, x1, x2⟩ := lpB_B (d := d) (bk := a + 2 + 2) (ind := ind) (dp := dp) w4 w5 w6 (by omega) (by omega) (by omega) (by omega) (by omega) (by omega)
    refine ⟨S7, hgo w3 w2 x1, yRes_l (l := qL (by1 A) n k) ?_ ?_⟩
    · unfold psWh
      rw [hr]
      rfl
    · rw [← g3]
      exact yB_le x2 (by omega) (by omega) (by omega) (by omega) (Nat.le_refl _) (Nat.le_refl _)
  | some r =>
    obtain ⟨t1, t2, t3⟩ := u2 r hr
    obtain ⟨e1, e2, e3, e4, e5, e6, e7, e8, e9⟩ := ex_pm hr
    have hrp := rm_pos (by1 A) n r.1
    have tG := t1.1
    dsimp only at tG
    have w0 : wC ([(4, [], (4 : Int), (3 : Int))] ++ [(2, [qL (by1 A) n k], (0 : Int), (0 : Int))] ++ r.2.2) = 4 + wC r.2.2 := by
      rw [wC_app]; rfl
    have w0c : cnN ([(4, [], (4 : Int), (3 : Int))] ++ [(2, [qL (by1 A) n k], (0 : Int), (0 : Int))] ++ r.2.2) = cnN r.2.2 := by
      rw [cnN_app]; exact Nat.zero_add _
    have w0f : fxM ([(4, [], (4 : Int), (3 : Int))] ++ [(2, [qL (by1 A) n k], (0 : Int), (0 : Int))] ++ r.2.2) = fxM r.2.2 := by
      rw [fxM_app]; exact Nat.zero_add _
    obtain ⟨S6, w2, F6, G6, w5, w6, b6, told6⟩ := yE_J (d := d + 9) (t := 5) (u := 5) (w := Int32.ofInt (-1)) tG (by omega) rfl (by omega)
    have hL6 : yLp a0 lp tr S6 := yLp_S (yF_lp hL t1.2.2.2.1) (fun i hi => F6.1 i (by
      have : ∀ i, i ∈ [4308, 4309, 4311] → i ∉ [2307] := by decide
      exact this i hi))
    have hlp := lpB_1 (d := d + 1) (dp := dp) (ind := ind) (tr := tr) (ca := ca + 4 + wC r.2.2 + 2) (ra := ra + 4 + wR (qK (by1 A) n) r.2.2 + 2) (cb := ca + 2) (rb := ra + 2) (bk := a + 2 + 2) (xt := a + 2 + wC ([(4, [], (4 : Int), (3 : Int))] ++ [(2, [qL (by1 A) n k], (0 : Int), (0 : Int))] ++ r.2.2)) hX h84 G6 ⟨by omega, by omega, by omega, by omega, by omega, by omega⟩ hL6 (by omega) (by omega) (by omega) w5 (Nat.le_refl _) (by omega) (by omega) (by omega) (by omega) (by omega) (by omega) (by omega)
    cases hb : psA A n F 2 (dp + 1) ind s (some (ca + 2, ra + 2, tr)) tr (ca + 4 + wC r.2.2 + 2) (ra + 4 + wR (qK (by1 A) n) r.2.2 + 2) sc at' r.1 with
    | inl l =>
      obtain ⟨Sf, v, x1, x2⟩ := hlp.2 l hb
      refine ⟨Sf, hgo (by omega) w2 x1, yRes_l (l := l) ?_ ?_⟩
      · unfold psWh
        rw [hr]
        show sb (psA A n F 2 (dp + 1) ind s (some (ca + 2, ra + 2, tr)) tr (ca + 4 + wC r.2.2 + 2) (ra + 4 + wR (qK (by1 A) n) r.2.2 + 2) sc at' r.1) _ = _
        rw [hb]
        rfl
      · exact yB_le (yB_J (H := []) t1 (FrT_wA (by decide) F6) (fun i hi => by
          show upd (sA S6 24) _ v i = _
          rw [upd_at, if_neg (by omega)]
          exact b6 i hi) x2 (by omega) (fun p hp => by cases hp)) (by omega) (by omega) (by omega) (by omega) (Nat.le_refl _) (Nat.le_refl _)
    | inr b =>
      obtain ⟨kb, ob, scb, atb⟩ := b
      have hat := ps_at F 2 (by omega) _ _ _ _ _ _ _ _ _ _ _ hb
      dsimp only at hat
      subst hat
      obtain ⟨Sf, x1, x2⟩ := hlp.1 _ hb (qK (by1 A) n) (ca + 4 + wC r.2.2 + 2 + wC ob + 2) (ra + 4 + wR (qK (by1 A) n) r.2.2 + 2 + wR (qK (by1 A) n) ob + 2) (ca + 4 + wC r.2.2 + 2) (ra + 4 + wR (qK (by1 A) n) r.2.2 + 2) (((ca + 2 : Nat) : Int) - (ca + 4 + wC r.2.2 + 2 + wC ob : Nat)) (((ra + 2 : Nat) : Int) - ((ra + 4 + wR (qK (by1 A) n) r.2.2 + 2 + wR (qK (by1 A) n) ob : Nat) + 1)) (by dsimp only; omega) (by dsimp only; omega)
      dsimp only at x2
      have y1 := told6 (a + 2 + wC ([(4, [], (4 : Int), (3 : Int))] ++ [(2, [qL (by1 A) n k], (0 : Int), (0 : Int))] ++ r.2.2) + 2 + wC ob + 2) ((4 + wC ob : Nat) : Int) ((3 + wR (qK (by1 A) n) ob : Nat) : Int) (by omega)
      have y2 := yOK_app t1 (yOK_app y1 x2)
      refine ⟨Sf, hgo (by omega) w2 x1, yRes_r (x := _) ?_ y2⟩
      unfold psWh
      rw [hr]
      show sb (psA A n F 2 (dp + 1) ind s (some (ca + 2, ra + 2, tr)) tr (ca + 4 + wC r.2.2 + 2) (ra + 4 + wR (qK (by1 A) n) r.2.2 + 2) sc atb r.1) _ = _
      rw [hb]
      exact congrArg Sum.inr (by simp only [List.append_assoc, List.cons_append, List.nil_append])
end
