/-! IF in the class -/
theorem wA_sw {p q : Nat} {v w : Int32} {S : cS} (h : p ≠ q) : FrT [] [] [] [] (wA 24 p v (wA 24 q w S)) (wA 24 q w (wA 24 p v S)) := by
  refine ⟨fun _ _ => rfl, fun _ _ => rfl, fun x _ => ?_, fun _ _ => rfl, rfl, rfl, rfl, rfl⟩
  by_cases hx : x = 24
  · subst hx
    funext i
    show upd (upd (sA S 24) p v) q w i = upd (upd (sA S 24) q w) p v i
    rw [upd_at, upd_at, upd_at, upd_at]
    by_cases h1 : i = p
    · rw [if_pos h1, if_neg (by omega), if_pos h1]
    · rw [if_neg h1, if_neg h1]
  · rw [rAn _ _ _ hx, rAn _ _ _ hx, rAn _ _ _ hx, rAn _ _ _ hx]
section
variable {A : Nat → Int32} {n z0 fb l a c f ab lo : Nat} {S0 B : cS} {H : List Nat} {qa qc qf qe qs qn d : Nat}
theorem yB_put2s {S : cS} {x0 x1 : Int32} (h : yB A n S0 z0 fb l a c f ab lo H qa qc qf qe qs qn B S) (hq : qa + 2 ≤ 40960) : ∃ S1 t, Ans (d + 2) 54 [.ref 23, .int x0, .int x1] S (some (.int (nI t))) S1 ∧ t < 2 ^ 20 ∧ yB A n S0 z0 fb l a c f ab lo (t :: H) (qa + 2) qc qf qe qs qn B S1 ∧ sA S1 24 (t + 1) = x1 ∧ a ≤ t ∧ (∀ x, x ∈ H → x + 2 ≤ t) ∧ sI S1 2307 = nI (t + 2) ∧ t + 2 ≤ 40960 := by
  obtain ⟨t, c', f', s, e, sn, fn, av, tv, lv, l', h1, h2, h3, h4, h5, h6, h7', h8, h9, hfl, hlo, g1, g2, g3, g4, g5, g6, g7, g8, g9, g10⟩ := yB_top h
  obtain ⟨k1, ps, k3, k4, k5⟩ := yK_t h.2.2.2.1 h1.1 (by omega)
  refine ⟨_, t, put2_ev (d := d) h1.1 (by omega), by omega, yB_emitW (w := 2) h h1.1 (by omega) (FrT_wI (by decide) (FrT_wA (by decide) (FrT_wA (by decide) (FrT.refl _ _ _ _ _)))) (rIe _ _ _) hq (fun i hi => ?_) (fun x hx => ?_), ?_, by omega, fun x hx => (k5 x hx).1, rIe _ _ _, by omega⟩
  · show upd (upd (sA S 24) t _) (t + 1) _ i = _
    rw [upd_at, upd_at, if_neg (by omega), if_neg (by omega)]
  · rcases List.mem_cons.mp hx with h | h
    · exact Or.inr ⟨h, Nat.le_refl _⟩
    · exact Or.inl h
  · show upd (upd (sA S 24) t _) (t + 1) _ (t + 1) = _
    rw [upd_at, if_pos rfl]
/-- a chain told: the state is the one with its words told anew -/
theorem come_P {e t : Nat} {qs : List Nat} {S S1 : cS} (hF : FrT [] [] [24] [] S S1) (h1 : ∀ i, (∀ p, p ∈ e :: qs → i ≠ p + 1) → sA S1 24 i = sA S 24 i) (h2 : ∀ p, p ∈ e :: qs → sA S1 24 (p + 1) = nI t) : FrT [] [] [] [] (ptc (nI t) qs (wA 24 (e + 1) (nI t) S)) S1 := by
  have hP := ptc_F (v := nI t) qs (wA 24 (e + 1) (nI t) S)
  have hG : FrT [] [] [24] [] (ptc (nI t) qs (wA 24 (e + 1) (nI t) S)) S1 := (FrT.trans (FrT_wA (i := e + 1) (v := nI t) (by decide) (FrT.refl _ _ _ _ S)) hP).symm.trans hF
  refine ⟨hG.1, hG.2.1, fun x hx => ?_, hG.2.2.2.1, hG.2.2.2.2⟩
  by_cases h24 : x = 24
  · subst h24
    funext i
    by_cases hc : ∃ p, p ∈ qs ∧ i = p + 1
    · obtain ⟨p, hp, rfl⟩ := hc
      rw [h2 p (List.mem_cons_of_mem _ hp), ptc_in qs _ p hp]
    · have hc2 : ∀ p, p ∈ qs → i ≠ p + 1 := fun p hp hi => hc ⟨p, hp, hi⟩
      rw [ptc_out qs _ i hc2]
      show _ = upd (sA S 24) (e + 1) (nI t) i
      rw [upd_at]
      by_cases hi : i = e + 1
      · rw [if_pos hi, hi]
        exact h2 e List.mem_cons_self
      · rw [if_neg hi]
        exact h1 i (fun p hp => (List.mem_cons.mp hp).elim (fun h => by rw [h]; exact hi) (hc2 p))
  · exact hG.2.2.1 x (fun h => h24 (List.mem_singleton.mp h))
theorem yB_id {S S1 : cS} (h : yB A n S0 z0 fb l a c f ab lo H qa qc qf qe qs qn B S) (hF : FrT [] [] [] [] S S1) : yB A n S0 z0 fb l a c f ab lo H qa qc qf qe qs qn B S1 :=
  yB_wd (hs := []) h (hF.mono (fun _ h => h) (fun _ h => h) (fun _ h => by cases h) (fun _ h => h)) (fun i _ => by rw [hF.2.2.1 24 (fun h => by cases h)]) (fun p hp => by cases hp)
/-- a turn of if behind a fault, up to the end -/
theorem brB {S S4 : cS} {t0 i : Nat} {y : Int32} {qs' : List Nat} (h : yB A n S0 z0 fb l a c f ab lo [t0] qa qc qf qe qs qn S S4) (hq : qa + 2 ≤ 40960) (hqs : chL S (Int32.ofInt (-1)) qs' y) (hqD : chD 2 a qs') (hlen : qs'.length + 1 < 3000) (ht0 : a ≤ t0) (ha2 : 2 ≤ a) (hi : i < 2 ^ 20) : ∃ S6 e S8, Ans (d + 9) 54 [.ref 23, .int (nI 4), .int y] S4 (some (.int (nI e))) S6 ∧ e + 2 ≤ 40960 ∧ sI S6 2307 = nI (e + 2) ∧ Ans (d + 9) 83 [.ref 23, .int (nI (t0 + 1)), .int (nI (e + 2))] S6 none (wA 24 (t0 + 1) (nI (e + 2)) S6) ∧ Ans (d + 9) 52 [.ref 43, .int (nI i)] (wA 24 (t0 + 1) (nI (e + 2)) S6) (some (.int (nI 0))) (wA 24 (t0 + 1) (nI (e + 2)) S6) ∧ Ans (d + 9) 87 [.ref 43, .int (nI e)] (wA 24 (t0 + 1) (nI (e + 2)) S6) none S8 ∧ yB A n S0 z0 fb l a c f ab lo [] (qa + 2) qc qf qe qs qn (ptc (nI (e + 2)) qs' S) S8 := by
  obtain ⟨S6, e, p1, p2, p3, p4, p5, p6, p7, p8⟩ := yB_put2s (d := d + 7) (x0 := nI 4) (x1 := y) h hq
  obtain ⟨u1, u2⟩ := yB_patch (d := d + 8) (p := t0) (x := nI (e + 2)) p3 (List.mem_cons_of_mem _ List.mem_cons_self) ht0
  have h6 := p6 t0 List.mem_cons_self
  have hlow : ∀ i, i < a → sA (wA 24 (t0 + 1) (nI (e + 2)) S6) 24 i = sA S 24 i := fun i hi => u2.2.2.1.2.1.1.1 i hi
  have hm := chD_mem qs' a hqD
  have hch : chL (wA 24 (t0 + 1) (nI (e + 2)) S6) (Int32.ofInt (-1)) (e :: qs') (nI e) := by
    refine ⟨rfl, ?_⟩
    have e1 : sA (wA 24 (t0 + 1) (nI (e + 2)) S6) 24 (e + 1) = y := by
      show upd (sA S6 24) (t0 + 1) _ (e + 1) = _
      rw [upd_at, if_neg (by omega)]
      exact p4
    rw [e1]
    exact chL_S qs' _ (fun p hp => hlow _ (by have := hm p hp; omega)) hqs
  have hD : chD 2 (e + 2) (e :: qs') := ⟨Nat.le_refl _, by omega, by omega, chD_le qs' _ _ (by omega) hqD⟩
  obtain ⟨S8, q1, q2, q3, q4⟩ := come_T (d := d) hch hD ((rAI _ _ _ _ _).trans p7) p8 hlen
  refine ⟨S6, e, S8, p1, p8, p7, u1, yB_ins (d := d) u2 hi, q1, ?_⟩
  have hP := come_P q2 q3 q4
  have v1 := ptc_yB (v := nI (e + 2)) qs' _ _ (fun p hp => by have := hm p hp; omega) u2
  have v2 : yB A n S0 z0 fb l a c f ab lo [e, t0] (qa + 2) qc qf qe qs qn (ptc (nI (e + 2)) qs' S) (ptc (nI (e + 2)) qs' (wA 24 (e + 1) (nI (e + 2)) (wA 24 (t0 + 1) (nI (e + 2)) S6))) := by
    refine yB_wd (hs := [e]) v1 ((ptc_F qs' _).symm.trans (FrT.trans (FrT_wA (by decide) (FrT.refl _ _ _ _ _)) (ptc_F qs' _))) (fun i hi => ?_) (fun p hp => ?_)
    · by_cases hc : ∃ p, p ∈ qs' ∧ i = p + 1
      · obtain ⟨p, hp, rfl⟩ := hc
        rw [ptc_in qs' _ p hp, ptc_in qs' _ p hp]
      · have hc2 : ∀ p, p ∈ qs' → i ≠ p + 1 := fun p hp hi => hc ⟨p, hp, hi⟩
        rw [ptc_out qs' _ i hc2, ptc_out qs' _ i hc2]
        show upd _ (e + 1) _ i = _
        rw [upd_at, if_neg (hi e List.mem_cons_self)]
    · rw [List.mem_singleton.mp hp]
      exact ⟨List.mem_cons_self, p5⟩
  exact yB_H (yB_id v2 hP) (fun x hx => by cases hx)
end
section
variable {A : Nat → Int32} {n z0 fb a0 F s ab d : Nat} {S0 : cS}
theorem br_glue {a c f k r1 kb t4 : Nat} {os ob : List Op} {sc scb : SCs} {at' : List Nat} {qs : List Nat} {S S2 S3 S4 S6 : cS} (t1 : yOK A n S0 z0 fb a0 s ab S a c f (r1, os, sc, at') S2) (told3 : ∀ (v : Nat) (j r : Int), (v : Int) = ((a + wC os : Nat) : Int) + j → yOK A n S0 z0 fb a0 s ab S2 (a + wC os) (c + cnN os) (f + fxM os) (r1, [(5, [], j, r)], sc, at') (wA 24 (a + wC os + 1) (nI v) S3)) (Y : yOK A n S0 z0 fb a0 s ab S3 (a + wC os + 2) (c + cnN os) (f + fxM os) (kb, ob, scb, at') S4) (told6 : ∀ (v : Nat) (j r : Int), (v : Int) = ((a + wC os + 2 + wC ob : Nat) : Int) + j → yOK A n S0 z0 fb a0 s ab S4 (a + wC os + 2 + wC ob) (c + cnN os + cnN ob) (f + fxM os + fxM ob) (kb, [(t4, [], j, r)], scb, at') (wA 24 (a + wC os + 2 + wC ob + 1) (nI v) S6)) (hqs : ∀ p, p ∈ qs → p + 1 < a) (v : Nat) (j r r5 : Int) (hv : (v : Int) = ((a + wC os + 2 + wC ob : Nat) : Int) + j) : yOK A n S0 z0 fb a0 s ab (ptc (nI v) qs S) a c f (kb, os ++ ([(5, [], ((4 + wC ob : Nat) : Int), r5)] ++ (ob ++ [(t4, [], j, r)])), scb, at') (ptc (nI v) qs (wA 24 (a + wC os + 2 + wC ob + 1) (nI v) (wA 24 (a + wC os + 1) (nI (a + wC os + 2 + wC ob + 2)) S6))) := by
  have y3 := told3 (a + wC os + 2 + wC ob + 2) ((4 + wC ob : Nat) : Int) r5 (by omega)
  have yb := yOK_hole (p := a + wC os + 1) (v := nI (a + wC os + 2 + wC ob + 2)) Y (by omega)
  have y6 := yOK_id (yOK_hole (p := a + wC os + 1) (v := nI (a + wC os + 2 + wC ob + 2)) (told6 v j r hv) (by omega)) (wA_sw (by omega))
  exact ptc_yOK qs _ _ hqs (yOK_app t1 (yOK_app y3 (yOK_app yb y6)))
def P56 (A : Nat → Int32) (n : Nat) (S0 : cS) (z0 fb a0 F : Nat) : Prop := ∀ (d dp ind s ab tr ca ra k a c f : Nat) (lp : LpT) (sc : SCs) (at' : List Nat) (S : cS), lvD dp ≤ d + 4 → dp ≤ 11 → (qK (by1 A) n k = 40 ∨ qK (by1 A) n k = 41) → qI (by1 A) n k = ind → 4 * rm (by1 A) n k + 2 ≤ F → yG A n S0 z0 fb a0 s ab k sc at' (a + 2) c f S → yZ (rm (by1 A) n k) dp a c f sc.2.length sc.1.length (fb + sc.1.length - 1) → yLp a0 lp tr S → a + 2 = a0 + ca → ab ≤ 40 * dp → tr ≤ dp → ∀ (qs : List Nat) (y : Int32), chL S (Int32.ofInt (-1)) qs y → chD 2 (a + 2) qs → qs.length + rm (by1 A) n k ≤ 3001 → ∃ S1, (∀ (t : Nat) (lv : sm_L), t + rm (by1 A) n k ≤ 3001 → sm_get lv 0 = some (.ref 43) → sm_get lv 1 = some (.int (nI dp)) → sm_get lv 2 = some (.int (nI ind)) → sm_get lv 3 = some (.int y) → sm_get lv 4 = some (.int (nI 1)) → sm_get lv 5 = some (.int (nI t)) → Bod d 56 16 lv [] S none S1) ∧ (∀ x, psA A n F 3 dp ind s lp tr ca ra sc at' k = .inr x → yOK A n S0 z0 fb a0 s ab (ptc (nI (a + 2 + wC x.2.1)) qs S) (a + 2) c f x S1) ∧ ∀ l, psA A n F 3 dp ind s lp tr ca ra sc at' k = .inl l → ∃ t : Nat, yB A n S0 z0 fb l (a + 2) c f ab (a + 4) [] (qA dp) (qC dp) (qF dp) (qF dp) 280 893 (ptc (nI t) qs S) S1
theorem P56_T (hX : yPre A n S0 z0) (h84 : P84 A n S0 z0 fb a0 F) (h56 : P56 A n S0 z0 fb a0 F) : P56 A n S0 z0 fb a0 (F + 1) := by
  intro d' dp ind s ab tr ca ra k a c f lp sc at' S hd hdp hkk hie hF h hz hL hca hab htr qs y hqs hqD hqL
  have hlv : lvD dp = 270 + 8 * (12 - dp) := rfl
  have hn := hX.1.1
  have hlv1 : lvD (dp + 1) = 270 + 8 * (12 - (dp + 1)) := rfl
  have hqA : qA dp = 39700 + 60 * (12 - dp) := rfl
  have hqC : qC dp = 5160 + 2 * (12 - dp) := rfl
  have hqF : qF dp = 1515 + 4 * (12 - dp) := rfl
  have hqA1 : qA (dp + 1) = 39700 + 60 * (12 - (dp + 1)) := rfl
  have hqC1 : qC (dp + 1) = 5160 + 2 * (12 - (dp + 1)) := rfl
  have hqF1 : qF (dp + 1) = 1515 + 4 * (12 - (dp + 1)) := rfl
  obtain ⟨d, rfl⟩ : ∃ d, d' = d + 17 := ⟨d' - 17, by omega⟩
  obtain ⟨c1, c2, c3, c4, c5, c6⟩ := yZ_c hz (by omega)
  obtain ⟨z1, z2, z3, z4, z5, z6⟩ := id hz
  have e : psA A n (F + 1) 3 dp ind s lp tr ca ra sc at' k = psI (qK (by1 A) n) (qL (by1 A) n) (qI (by1 A) n) (psA A n F) dp ind s lp tr ca ra sc at' k := rfl
  obtain ⟨g1, g2, g3, g4⟩ := rm_gt (β := by1 A) (n := n) (k := k) (by omega)
  have gw := rm_w2 (β := by1 A) (n := n) (k := k) (by omega)
  have hqk := q_lt (by1 A) n k
  have hq1 := q_lt (by1 A) n (k + 1)
  have hrm1 : rm (by1 A) n (k + 1) = n + 1 - qP (by1 A) n (k + 1) := rfl
  have hiM := ind_lt (A := A) (k := k) hX.1.1
  have hindM : ind < 2 ^ 20 := by omega
  have hrl := rm_le (β := by1 A) (k := k) hX.1.1
  have hqm := chD_mem qs _ hqD
  have hqm2 : ∀ p, p ∈ qs → p + 1 < a + 2 := fun p hp => by have := hqm p hp; omega
  rw [e]
  obtain ⟨S1, p1, Y1, _, _⟩ := read_O (d := d + 9) hX.1 (yOK_nil h) (by omega)
  obtain ⟨S2, u1, u2, u3⟩ := ex_O (d := d + 17) (W := rm (by1 A) n (k + 1)) (dp := dp) hX.1 hX.2 Y1 (by omega) (by omega) ⟨(show a + 2 + 0 + _ ≤ _ by omega), (show 2 * (c + 0) + _ ≤ _ by omega), (show 2 * (f + 0) + _ ≤ _ by omega), by omega, by omega, by omega⟩ (by omega)
  cases hr : exs (qK (by1 A) n) s (k + 1) with
  | none =>
    obtain ⟨v1, _⟩ := u3 hr
    have ep : psI (qK (by1 A) n) (qL (by1 A) n) (qI (by1 A) n) (psA A n F) dp ind s lp tr ca ra sc at' k = .inl (qL (by1 A) n k) := by unfold psI; rw [hr]; rfl
    obtain ⟨S3, t0, w2, w3, w4, w5, w6⟩ := yB_put2 (d := d + 15) (x0 := nI 5) (x1 := nI 0) v1 (by omega)
    obtain ⟨S4, x1, x2⟩ := yB_blk (d := d + 7) (o := ind) (dp := dp + 1) w4 hindM (by omega)
    obtain ⟨S6, e6, S8, y1, y2, y3, y4, y5, y6, y7⟩ := brB (d := d + 8) (i := ind) x2 (by omega) hqs hqD (by omega) w6 (by omega) hindM
    rw [ep]
    refine ⟨S8, fun t lv ht q0 q1 q2 q3 q4 q5 => cBrL_9 (d := d + 9) q5 q4 q3 q2 q0 q1 (by omega) (by omega) hindM (by omega) (by omega) (by omega) p1 u1 w3 w2 x1 (yB_ins (d := d + 8) x2 hindM) (by omega) y1 y3 (by omega) y4 (fun lv1 r0 r1 r2 r3 r4 r5 => cBrL_3 (d := d + 9) r5 r4 r3 r2 r0 r1 (by omega) (by omega) hindM (by omega) rfl y5 y6), fun x hx => (by cases hx), fun l hl => ?_⟩
    injection hl with hl
    subst hl
    rw [← g3]
    exact ⟨_, yB_le y7 (by omega) (by omega) (by omega) (by omega) (Nat.le_refl _) (Nat.le_refl _)⟩
  | some r =>
    obtain ⟨t1, t2, t3⟩ := u2 r hr
    obtain ⟨e1, e2, e3, e4, e5, e6, e7, e8, e9⟩ := ex_pm hr
    have hrp := rm_pos (by1 A) n r.1
    rw [List.nil_append] at t1
    have tG : yG A n S0 z0 fb a0 s ab r.1 sc at' (a + 2 + wC r.2.2) (c + cnN r.2.2) (f + fxM r.2.2) S2 := t1.1
    obtain ⟨S3, w2, F3, G3, w3, w3', b3, told3⟩ := yE_J (d := d + 15) (t := 5) (u := 5) (w := nI 0) tG (by omega) rfl (by omega)
    have hL3 : yLp a0 lp tr S3 := yLp_S (yF_lp hL t1.2.2.2.1) (fun i hi => F3.1 i (by
      have : ∀ i, i ∈ [4308, 4309, 4311] → i ∉ [2307] := by decide
      exact this i hi))
    have n3 : ∀ i, i < a + 2 → sA S3 24 i = sA S 24 i := fun i hi => (b3 i (by omega)).trans (t1.2.2.2.1.2.1.1.1 i hi)
    obtain ⟨S4, x1, x2⟩ := h84 (d + 17) (dp + 1) ind s ab tr (ca + wC r.2.2 + 2) (ra + wR (qK (by1 A) n) r.2.2 + 2) r.1 (a + 2 + wC r.2.2 + 2) (c + cnN r.2.2) (f + fxM r.2.2) lp sc at' S3 (by omega) hindM (by omega) (by omega) ⟨G3, ⟨by omega, by omega, by omega, by omega, by omega, by omega⟩, hL3, by omega, by omega, by omega⟩
    cases hb : psA A n F 2 (dp + 1) ind s lp tr (ca + wC r.2.2 + 2) (ra + wR (qK (by1 A) n) r.2.2 + 2) sc at' r.1 with
    | inl l0 =>
      have ep : psI (qK (by1 A) n) (qL (by1 A) n) (qI (by1 A) n) (psA A n F) dp ind s lp tr ca ra sc at' k = .inl l0 := by
        unfold psI
        rw [hr]
        show sb (psA A n F 2 (dp + 1) ind s lp tr (ca + wC r.2.2 + 2) (ra + wR (qK (by1 A) n) r.2.2 + 2) sc at' r.1) _ = _
        rw [hb]
        rfl
      have j1 := yB_J (H := [a + 2 + wC r.2.2]) t1 F3 b3 (x2.2 l0 hb) (by omega) (fun p hp => by
        rw [List.mem_singleton.mp hp]
        exact Or.inl ⟨Nat.le_refl _, fun hc => by have := bks_lt _ _ _ hc; omega⟩)
      obtain ⟨S6, e6, S8, y1, y2, y3, y4, y5, y6, y7⟩ := brB (d := d + 8) (i := ind) j1 (by omega) hqs hqD (by omega) (by omega) (by omega) hindM
      rw [ep]
      refine ⟨S8, fun t lv ht q0 q1 q2 q3 q4 q5 => cBrL_9 (d := d + 9) q5 q4 q3 q2 q0 q1 (by omega) (by omega) hindM (by omega) (by omega) (by omega) p1 u1 (by omega) w2 x1 (yB_ins (d := d + 8) j1 hindM) (by omega) y1 y3 (by omega) y4 (fun lv1 r0 r1 r2 r3 r4 r5 => cBrL_3 (d := d + 9) r5 r4 r3 r2 r0 r1 (by omega) (by omega) hindM (by omega) rfl y5 y6), fun x hx => (by cases hx), fun l hl => ?_⟩
      injection hl with hl
      subst hl
      exact ⟨_, yB_le y7 (by omega) (by omega) (by omega) (by omega) (Nat.le_refl _) (Nat.le_refl _)⟩
    | inr b =>
      obtain ⟨kb, ob, scb, atb⟩ := b
      have hat := ps_at F 2 (by omega) _ _ _ _ _ _ _ _ _ _ _ hb
      dsimp only at hat
      subst hat
      have Yb := x2.1 _ hb
      have Gb : yG A n S0 z0 fb a0 s ab kb scb atb (a + 2 + wC r.2.2 + 2 + wC ob) (c + cnN r.2.2 + cnN ob) (f + fxM r.2.2 + fxM ob) S4 := Yb.1
      obtain ⟨hw1, hw2, hw3, hw4⟩ := (ps_H (by1 A) n (Eb (by1 A) n) F).2.2.1 2 (dp + 1) ind s lp tr _ _ _ _ _ _ (Or.inl rfl) hb
      obtain ⟨m1, m2, m3, m4, m5, m6, m7, m8⟩ := hw4
      dsimp only at hw2 hw3 m1 m2 m3 m4 m5 m6 m7 m8
      have hins := ins_T (d := d + 8) (i := ind) hX.1.1 Gb hindM
      have htk := cP_5 Gb.1
      have hqb := q_lt (by1 A) n kb
      have ci1 := ci_f (ind + 1)
      have Lb : yLp a0 lp tr S4 := yF_lp hL3 Yb.2.2.2.1
      -- the jump behind the block; u: its number among the steps
      have hJ : ∀ u : Nat, u = 4 ∨ u = 62 → ∃ S6, Ans (d + 17) 54 [.ref 23, .int (nI 4), .int y] S4 (some (.int (nI (a + 2 + wC r.2.2 + 2 + wC ob)))) S6 ∧ sI S6 2307 = nI (a + 2 + wC r.2.2 + 2 + wC ob + 2) ∧ Ans (d + 17) 83 [.ref 23, .int (nI (a + 2 + wC r.2.2 + 1)), .int (nI (a + 2 + wC r.2.2 + 2 + wC ob + 2))] S6 none (wA 24 (a + 2 + wC r.2.2 + 1) (nI (a + 2 + wC r.2.2 + 2 + wC ob + 2)) S6) ∧ yG A n S0 z0 fb a0 s ab kb scb atb (a + 2 + wC r.2.2 + 2 + wC ob + 2) (c + cnN r.2.2 + cnN ob) (f + fxM r.2.2 + fxM ob) (wA 24 (a + 2 + wC r.2.2 + 1) (nI (a + 2 + wC r.2.2 + 2 + wC ob + 2)) S6) ∧ yLp a0 lp tr (wA 24 (a + 2 + wC r.2.2 + 1) (nI (a + 2 + wC r.2.2 + 2 + wC ob + 2)) S6) ∧ chL (wA 24 (a + 2 + wC r.2.2 + 1) (nI (a + 2 + wC r.2.2 + 2 + wC ob + 2)) S6) (Int32.ofInt (-1)) ((a + 2 + wC r.2.2 + 2 + wC ob) :: qs) (nI (a + 2 + wC r.2.2 + 2 + wC ob)) ∧ chD 2 (a + 2 + wC r.2.2 + 2 + wC ob + 2) ((a + 2 + wC r.2.2 + 2 + wC ob) :: qs) ∧ ∀ (v : Nat) (j rr r5 : Int), (v : Int) = ((a + 2 + wC r.2.2 + 2 + wC ob : Nat) : Int) + j → yOK A n S0 z0 fb a0 s ab (ptc (nI v) qs S) (a + 2) c f (kb, r.2.2 ++ ([(5, [], ((4 + wC ob : Nat) : Int), r5)] ++ (ob ++ [(u, [], j, rr)])), scb, atb) (ptc (nI v) qs (wA 24 (a + 2 + wC r.2.2 + 2 + wC ob + 1) (nI v) (wA 24 (a + 2 + wC r.2.2 + 1) (nI (a + 2 + wC r.2.2 + 2 + wC ob + 2)) S6))) := fun u hu => by
        obtain ⟨S6, i1, i2, i3, i4, i5, i6, i7⟩ := yE_J (d := d + 15) (t := u) (u := 4) (w := y) Gb (by omega) (by rcases hu with rfl | rfl <;> rfl) (by omega)
        have itop : sI S6 2307 = nI (a + 2 + wC r.2.2 + 2 + wC ob + 2) := i3.2.1.1
        have low : ∀ i, i < a + 2 → sA (wA 24 (a + 2 + wC r.2.2 + 1) (nI (a + 2 + wC r.2.2 + 2 + wC ob + 2)) S6) 24 i = sA S 24 i := fun i hi => by
          show upd (sA S6 24) _ _ i = _
          rw [upd_at, if_neg (by omega), i6 i (by omega), Yb.2.2.2.1.2.1.1.1 i (by omega)]
          exact n3 i hi
        refine ⟨S6, i1, itop, patch_T (d := d + 16) itop (by omega) (by omega), yG_W i3 (FrT_wA (by decide) (FrT.refl _ _ _ _ _)), yLp_S Lb (fun i hi => i2.1 i (by
          have : ∀ i, i ∈ [4308, 4309, 4311] → i ∉ [2307] := by decide
          exact this i hi)), ⟨rfl, ?_⟩, ⟨Nat.le_refl _, by omega, by omega, chD_le qs _ _ (by omega) hqD⟩, br_glue (k := k) t1 told3 Yb i7 hqm2⟩
        have e1 : sA (wA 24 (a + 2 + wC r.2.2 + 1) (nI (a + 2 + wC r.2.2 + 2 + wC ob + 2)) S6) 24 (a + 2 + wC r.2.2 + 2 + wC ob + 1) = y := by
          show upd (sA S6 24) _ _ _ = _
          rw [upd_at, if_neg (by omega)]
          exact i4
        rw [e1]
        exact chL_S qs _ (fun p hp => low _ (hqm2 p hp)) hqs
      have hcast : a + wC r.2.2 + 4 + wC ob + 2 = a + 2 + wC r.2.2 + 2 + wC ob + 2 := by omega
      by_cases hel : (qK (by1 A) n kb = 41 ∨ qK (by1 A) n kb = 42) ∧ qI (by1 A) n kb = ind
      · rw [if_pos ⟨by omega, by omega, hel.2⟩] at hins
        have hrb : rem (by1 A) n kb = rm (by1 A) n kb + qI (by1 A) n kb := rem_rm (by omega)
        obtain ⟨S6, i1, i2, i3, i4, i5, i6, i7, i8⟩ := hJ 4 (Or.inl rfl)
        by_cases h41 : qK (by1 A) n kb = 41
        · -- elif
          obtain ⟨S8, o1, o2, o3⟩ := h56 (d + 17) dp ind s ab tr (ca + wC r.2.2 + 2 + wC ob + 2) (ra + wR (qK (by1 A) n) r.2.2 + 2 + wR (qK (by1 A) n) ob + 2) kb (a + wC r.2.2 + 4 + wC ob) (c + cnN r.2.2 + cnN ob) (f + fxM r.2.2 + fxM ob) lp scb atb _ (by omega) hdp (Or.inr h41) hel.2 (by omega) (by rw [hcast]; exact i4) ⟨by omega, by omega, by omega, by omega, by omega, by omega⟩ i5 (by omega) (by omega) (by omega) _ _ i6 (by rw [hcast]; exact i7) (by
            show qs.length + 1 + _ ≤ _
            omega)
          refine ⟨S8, fun t lv ht q0 q1 q2 q3 q4 q5 => cBrL_8 (d := d + 9) q5 q4 q3 q2 q0 q1 (by omega) (by omega) hindM (by omega) (by omega) (by omega) p1 u1 (by omega) w2 x1 hins htk (by omega) h41 (by omega) i1 i2 (by omega) i3 (fun lv1 r0 r1 r2 r3 r4 r5 => o1 (t + 1) lv1 (by omega) r0 r1 r2 r3 r4 r5), fun x hx => ?_, fun l hl => ?_⟩
          · unfold psI at hx
            rw [hr] at hx
            replace hx : sb (psA A n F 2 (dp + 1) ind s lp tr (ca + wC r.2.2 + 2) (ra + wR (qK (by1 A) n) r.2.2 + 2) sc atb r.1) _ = (Sum.inr x : PSr) := hx
            rw [hb] at hx
            replace hx : (if (qK (by1 A) n kb = 41 ∨ qK (by1 A) n kb = 42) ∧ qI (by1 A) n kb = ind then _ else _) = (Sum.inr x : PSr) := hx
            rw [if_pos hel, if_pos h41] at hx
            obtain ⟨z, hz1, hz2⟩ := sb_inr hx
            injection hz2 with hz2
            subst hz2
            have k1 := o2 z hz1
            rw [hcast] at k1
            have k2 := i8 (a + 2 + wC r.2.2 + 2 + wC ob + 2 + wC z.2.1) ((2 + wC z.2.1 : Nat) : Int) ((1 + wR (qK (by1 A) n) z.2.1 : Nat) : Int) ((3 + wR (qK (by1 A) n) ob : Nat) : Int) (by omega)
            have hat2 := ps_at F 3 (by omega) _ _ _ _ _ _ _ _ _ _ _ hz1
            have ew : a + 2 + wC (r.2.2 ++ (5, [], ((4 + wC ob : Nat) : Int), ((3 + wR (qK (by1 A) n) ob : Nat) : Int)) :: (ob ++ (4, [], ((2 + wC z.2.1 : Nat) : Int), ((1 + wR (qK (by1 A) n) z.2.1 : Nat) : Int)) :: z.2.1)) = a + 2 + wC r.2.2 + 2 + wC ob + 2 + wC z.2.1 := by
              rw [wC_app]
              show a + 2 + (_ + (2 + wC (ob ++ (4, [], ((2 + wC z.2.1 : Nat) : Int), ((1 + wR (qK (by1 A) n) z.2.1 : Nat) : Int)) :: z.2.1))) = _
              rw [wC_app]
              show a + 2 + (_ + (2 + (_ + (2 + wC z.2.1)))) = _
              omega
            dsimp only
            rw [ew]
            have ek : a + 2 + wC (r.2.2 ++ ([(5, [], ((4 + wC ob : Nat) : Int), ((3 + wR (qK (by1 A) n) ob : Nat) : Int))] ++ (ob ++ [(4, [], ((2 + wC z.2.1 : Nat) : Int), ((1 + wR (qK (by1 A) n) z.2.1 : Nat) : Int))]))) = a + 2 + wC r.2.2 + 2 + wC ob + 2 := by
              rw [wC_app, wC_app, wC_app]
              show a + 2 + (_ + (2 + 0 + (_ + (2 + 0)))) = _
              omega
            have ec : c + cnN (r.2.2 ++ ([(5, [], ((4 + wC ob : Nat) : Int), ((3 + wR (qK (by1 A) n) ob : Nat) : Int))] ++ (ob ++ [(4, [], ((2 + wC z.2.1 : Nat) : Int), ((1 + wR (qK (by1 A) n) z.2.1 : Nat) : Int))]))) = c + cnN r.2.2 + cnN ob := by
              rw [cnN_app, cnN_app, cnN_app]
              show c + (_ + (0 + 0 + (_ + (0 + 0)))) = _
              omega
            have ef : f + fxM (r.2.2 ++ ([(5, [], ((4 + wC ob : Nat) : Int), ((3 + wR (qK (by1 A) n) ob : Nat) : Int))] ++ (ob ++ [(4, [], ((2 + wC z.2.1 : Nat) : Int), ((1 + wR (qK (by1 A) n) z.2.1 : Nat) : Int))]))) = f + fxM r.2.2 + fxM ob := by
              rw [fxM_app, fxM_app, fxM_app]
              show f + (_ + (0 + 0 + (_ + (0 + 0)))) = _
              omega
            have k3 := yOK_app k2 (by rw [ek, ec, ef]; exact k1)
            obtain ⟨z1, z2, z3, z4⟩ := z
            dsimp only at hat2 k3 ⊢
            subst hat2
            simp only [List.append_assoc, List.cons_append, List.nil_append] at k3
            exact k3
          · unfold psI at hl
            rw [hr] at hl
            replace hl : sb (psA A n F 2 (dp + 1) ind s lp tr (ca + wC r.2.2 + 2) (ra + wR (qK (by1 A) n) r.2.2 + 2) sc atb r.1) _ = (Sum.inl l : PSr) := hl
            rw [hb] at hl
            replace hl : (if (qK (by1 A) n kb = 41 ∨ qK (by1 A) n kb = 42) ∧ qI (by1 A) n kb = ind then _ else _) = (Sum.inl l : PSr) := hl
            rw [if_pos hel, if_pos h41] at hl
            cases hz1 : psA A n F 3 dp ind s lp tr (ca + wC r.2.2 + 2 + wC ob + 2) (ra + wR (qK (by1 A) n) r.2.2 + 2 + wR (qK (by1 A) n) ob + 2) scb atb kb with
            | inr z => rw [hz1] at hl; cases hl
            | inl l2 =>
              rw [hz1] at hl
              injection hl with hl
              subst hl
              obtain ⟨t, k1⟩ := o3 _ hz1
              have hc4 : a + wC r.2.2 + 4 + wC ob + 4 = a + 2 + wC r.2.2 + 2 + wC ob + 2 + 2 := by omega
              rw [hcast, hc4] at k1
              refine ⟨t, ?_⟩
              have k2 := i8 t ((t : Int) - ((a + 2 + wC r.2.2 + 2 + wC ob : Nat) : Int)) 0 0 (by omega)
              have ek : ∀ j5 : Int, a + 2 + wC (r.2.2 ++ ([(5, [], ((4 + wC ob : Nat) : Int), (0 : Int))] ++ (ob ++ [(4, [], j5, (0 : Int))]))) = a + 2 + wC r.2.2 + 2 + wC ob + 2 := fun j5 => by
                rw [wC_app, wC_app, wC_app]
                show a + 2 + (_ + (2 + 0 + (_ + (2 + 0)))) = _
                omega
              have ec : ∀ j5 : Int, c + cnN (r.2.2 ++ ([(5, [], ((4 + wC ob : Nat) : Int), (0 : Int))] ++ (ob ++ [(4, [], j5, (0 : Int))]))) = c + cnN r.2.2 + cnN ob := fun j5 => by
                rw [cnN_app, cnN_app, cnN_app]
                show c + (_ + (0 + 0 + (_ + (0 + 0)))) = _
                omega
              have ef : ∀ j5 : Int, f + fxM (r.2.2 ++ ([(5, [], ((4 + wC ob : Nat) : Int), (0 : Int))] ++ (ob ++ [(4, [], j5, (0 : Int))]))) = f + fxM r.2.2 + fxM ob := fun j5 => by
                rw [fxM_app, fxM_app, fxM_app]
                show f + (_ + (0 + 0 + (_ + (0 + 0)))) = _
                omega
              exact yOK_bad (H := []) (lo2 := a + 2 + wC r.2.2 + 2 + wC ob + 2 + 2) k2 (by rw [ek, ec, ef]; exact k1) (by rw [ek]; omega) (fun p hp => by cases hp)
        · -- else
          have h42 : qK (by1 A) n kb = 42 := by omega
          obtain ⟨g5, g6, g7, g8⟩ := rm_gt (β := by1 A) (n := n) (k := kb) (by omega)
          obtain ⟨S7, j1, Y7, _, _⟩ := pass_O (d := d + 9) hX.1 (yOK_nil i4) h42 (by omega)
          have G7 : yG A n S0 z0 fb a0 s ab (kb + 1) scb atb (a + 2 + wC r.2.2 + 2 + wC ob + 2) (c + cnN r.2.2 + cnN ob) (f + fxM r.2.2 + fxM ob) S7 := Y7.1
          obtain ⟨S9, o1, o2⟩ := h84 (d + 17) (dp + 1) ind s ab tr (ca + wC r.2.2 + 2 + wC ob + 2) (ra + wR (qK (by1 A) n) r.2.2 + 2 + wR (qK (by1 A) n) ob + 2) (kb + 1) (a + 2 + wC r.2.2 + 2 + wC ob + 2) (c + cnN r.2.2 + cnN ob) (f + fxM r.2.2 + fxM ob) lp scb atb S7 (by omega) hindM (by omega) (by omega) ⟨G7, ⟨by omega, by omega, by omega, by omega, by omega, by omega⟩, yF_lp i5 Y7.2.2.2.1, by omega, by omega, by omega⟩
          have hch : ∀ {S9' : cS}, (∀ i, i < a + 2 + wC r.2.2 + 2 + wC ob + 2 → sA S9' 24 i = sA S7 24 i) → chL S9' (Int32.ofInt (-1)) ((a + 2 + wC r.2.2 + 2 + wC ob) :: qs) (nI (a + 2 + wC r.2.2 + 2 + wC ob)) := fun {S9'} hw => chL_S _ _ (fun p hp => by
            have hp2 : p + 1 < a + 2 + wC r.2.2 + 2 + wC ob + 2 := (List.mem_cons.mp hp).elim (fun h => by omega) (fun h => by have := hqm2 p h; omega)
            exact (hw _ hp2).trans (Y7.2.2.2.1.2.1.1.1 _ hp2)) i6
          have hgo : ∀ {S10 : cS}, Ans (d + 17) 87 [.ref 43, .int (nI (a + 2 + wC r.2.2 + 2 + wC ob))] S9 none S10 → ∀ (t : Nat) (lv : sm_L), t + rm (by1 A) n k ≤ 3001 → sm_get lv 0 = some (.ref 43) → sm_get lv 1 = some (.int (nI dp)) → sm_get lv 2 = some (.int (nI ind)) → sm_get lv 3 = some (.int y) → sm_get lv 4 = some (.int (nI 1)) → sm_get lv 5 = some (.int (nI t)) → Bod (d + 17) 56 16 lv [] S none S10 := fun {S10} hcm t lv ht q0 q1 q2 q3 q4 q5 => cBrL_7 (d := d + 9) q5 q4 q3 q2 q0 q1 (by omega) (by omega) hindM (by omega) (by omega) (by omega) p1 u1 (by omega) w2 x1 hins htk (by omega) h41 (by omega) i1 i2 (by omega) i3 (fun lv1 r0 r1 r2 r3 r4 r5 => cBrL_2 (d := d + 9) r5 r4 r3 r2 r0 r1 (by omega) (by omega) hindM (by omega) rfl (by
            have := ins_T (d := d + 8) (i := ind) hX.1.1 i4 hindM
            rw [if_pos ⟨by omega, by omega, hel.2⟩] at this
            exact this) (cP_5 i4.1) (by omega) h42 j1 o1 hcm)
          cases hz1 : psA A n F 2 (dp + 1) ind s lp tr (ca + wC r.2.2 + 2 + wC ob + 2) (ra + wR (qK (by1 A) n) r.2.2 + 2 + wR (qK (by1 A) n) ob + 2) scb atb (kb + 1) with
          | inr z =>
            obtain ⟨z1', oz, scz, atz⟩ := z
            have hat2 := ps_at F 2 (by omega) _ _ _ _ _ _ _ _ _ _ _ hz1
            dsimp only at hat2
            subst hat2
            have Yz := o2.1 _ hz1
            have tz : sI S9 2307 = nI (a + 2 + wC r.2.2 + 2 + wC ob + 2 + wC oz) := Yz.1.2.1.1
            have tzM : a + 2 + wC r.2.2 + 2 + wC ob + 2 + wC oz ≤ 40960 := Yz.1.2.2.2.2.2.2.2.2.2.2.2.2.2.2.1
            obtain ⟨S10, m1', m2', m3', m4'⟩ := come_T (d := d + 8) (hch (fun i hi => Yz.2.2.2.1.2.1.1.1 i hi)) (chD_le _ _ (a + 2 + wC r.2.2 + 2 + wC ob + 2 + wC oz) (by omega) i7) tz tzM (by
              show qs.length + 1 < 3000
              omega)
            refine ⟨S10, hgo m1', fun x hx => ?_, fun l hl => ?_⟩
            · unfold psI at hx
              rw [hr] at hx
              replace hx : sb (psA A n F 2 (dp + 1) ind s lp tr (ca + wC r.2.2 + 2) (ra + wR (qK (by1 A) n) r.2.2 + 2) sc atz r.1) _ = (Sum.inr x : PSr) := hx
              rw [hb] at hx
              replace hx : (if (qK (by1 A) n kb = 41 ∨ qK (by1 A) n kb = 42) ∧ qI (by1 A) n kb = ind then _ else _) = (Sum.inr x : PSr) := hx
              rw [if_pos hel, if_neg h41, hz1] at hx
              injection hx with hx
              subst hx
              have k2 := i8 (a + 2 + wC r.2.2 + 2 + wC ob + 2 + wC oz) ((2 + wC oz : Nat) : Int) ((1 + wR (qK (by1 A) n) oz : Nat) : Int) ((3 + wR (qK (by1 A) n) ob : Nat) : Int) (by omega)
              have k7 := ptc_yOK (v := nI (a + 2 + wC r.2.2 + 2 + wC ob + 2 + wC oz)) qs _ _ (fun p hp => by have := hqm2 p hp; omega) (yOK_hole (p := a + 2 + wC r.2.2 + 2 + wC ob + 1) (v := nI (a + 2 + wC r.2.2 + 2 + wC ob + 2 + wC oz)) Y7 (by omega))
              have k8 := ptc_yOK (v := nI (a + 2 + wC r.2.2 + 2 + wC ob + 2 + wC oz)) qs _ _ (fun p hp => by have := hqm2 p hp; omega) (yOK_hole (p := a + 2 + wC r.2.2 + 2 + wC ob + 1) (v := nI (a + 2 + wC r.2.2 + 2 + wC ob + 2 + wC oz)) Yz (by omega))
              have k9 := yOK_id k8 (come_P m2' m3' m4')
              have ew : a + 2 + wC (r.2.2 ++ (5, [], ((4 + wC ob : Nat) : Int), ((3 + wR (qK (by1 A) n) ob : Nat) : Int)) :: (ob ++ (4, [], ((2 + wC oz : Nat) : Int), ((1 + wR (qK (by1 A) n) oz : Nat) : Int)) :: oz)) = a + 2 + wC r.2.2 + 2 + wC ob + 2 + wC oz := by
                rw [wC_app]
                show a + 2 + (_ + (2 + wC (ob ++ (4, [], ((2 + wC oz : Nat) : Int), ((1 + wR (qK (by1 A) n) oz : Nat) : Int)) :: oz))) = _
                rw [wC_app]
                show a + 2 + (_ + (2 + (_ + (2 + wC oz)))) = _
                omega
              dsimp only
              rw [ew]
              have ek : a + 2 + wC (r.2.2 ++ ([(5, [], ((4 + wC ob : Nat) : Int), ((3 + wR (qK (by1 A) n) ob : Nat) : Int))] ++ (ob ++ [(4, [], ((2 + wC oz : Nat) : Int), ((1 + wR (qK (by1 A) n) oz : Nat) : Int))]))) = a + 2 + wC r.2.2 + 2 + wC ob + 2 := by
                rw [wC_app, wC_app, wC_app]
                show a + 2 + (_ + (2 + 0 + (_ + (2 + 0)))) = _
                omega
              have ec : c + cnN (r.2.2 ++ ([(5, [], ((4 + wC ob : Nat) : Int), ((3 + wR (qK (by1 A) n) ob : Nat) : Int))] ++ (ob ++ [(4, [], ((2 + wC oz : Nat) : Int), ((1 + wR (qK (by1 A) n) oz : Nat) : Int))]))) = c + cnN r.2.2 + cnN ob := by
                rw [cnN_app, cnN_app, cnN_app]
                show c + (_ + (0 + 0 + (_ + (0 + 0)))) = _
                omega
              have ef : f + fxM (r.2.2 ++ ([(5, [], ((4 + wC ob : Nat) : Int), ((3 + wR (qK (by1 A) n) ob : Nat) : Int))] ++ (ob ++ [(4, [], ((2 + wC oz : Nat) : Int), ((1 + wR (qK (by1 A) n) oz : Nat) : Int))]))) = f + fxM r.2.2 + fxM ob := by
                rw [fxM_app, fxM_app, fxM_app]
                show f + (_ + (0 + 0 + (_ + (0 + 0)))) = _
                omega
              have k10 := yOK_app k7 k9
              dsimp only at k10
              rw [List.nil_append] at k10
              have k3 := yOK_app k2 (by rw [ek, ec, ef]; exact k10)
              dsimp only at k3
              simp only [List.append_assoc, List.cons_append, List.nil_append] at k3
              exact k3
            · unfold psI at hl
              rw [hr] at hl
              replace hl : sb (psA A n F 2 (dp + 1) ind s lp tr (ca + wC r.2.2 + 2) (ra + wR (qK (by1 A) n) r.2.2 + 2) sc atz r.1) _ = (Sum.inl l : PSr) := hl
              rw [hb] at hl
              replace hl : (if (qK (by1 A) n kb = 41 ∨ qK (by1 A) n kb = 42) ∧ qI (by1 A) n kb = ind then _ else _) = (Sum.inl l : PSr) := hl
              rw [if_pos hel, if_neg h41, hz1] at hl
              cases hl
          | inl l2 =>
            have Bz := o2.2 _ hz1
            obtain ⟨t9, c9, f9, tz, tzM, ta9, _, _, _⟩ := yB_sub Bz (Nat.le_refl _)
            obtain ⟨S10, m1', m2', m3', m4'⟩ := come_T (d := d + 8) (hch (fun i hi => Bz.2.2.1.2.1.1.1 i hi)) (chD_le _ _ t9 ta9 i7) tz tzM (by
              show qs.length + 1 < 3000
              omega)
            refine ⟨S10, hgo m1', fun x hx => ?_, fun l hl => ?_⟩
            · unfold psI at hx
              rw [hr] at hx
              replace hx : sb (psA A n F 2 (dp + 1) ind s lp tr (ca + wC r.2.2 + 2) (ra + wR (qK (by1 A) n) r.2.2 + 2) sc atb r.1) _ = (Sum.inr x : PSr) := hx
              rw [hb] at hx
              replace hx : (if (qK (by1 A) n kb = 41 ∨ qK (by1 A) n kb = 42) ∧ qI (by1 A) n kb = ind then _ else _) = (Sum.inr x : PSr) := hx
              rw [if_pos hel, if_neg h41, hz1] at hx
              cases hx
            · unfold psI at hl
              rw [hr] at hl
              replace hl : sb (psA A n F 2 (dp + 1) ind s lp tr (ca + wC r.2.2 + 2) (ra + wR (qK (by1 A) n) r.2.2 + 2) sc atb r.1) _ = (Sum.inl l : PSr) := hl
              rw [hb] at hl
              replace hl : (if (qK (by1 A) n kb = 41 ∨ qK (by1 A) n kb = 42) ∧ qI (by1 A) n kb = ind then _ else _) = (Sum.inl l : PSr) := hl
              rw [if_pos hel, if_neg h41, hz1] at hl
              injection hl with hl
              subst hl
              refine ⟨t9, ?_⟩
              have k2 := i8 t9 ((t9 : Int) - ((a + 2 + wC r.2.2 + 2 + wC ob : Nat) : Int)) 0 0 (by omega)
              have k7 := ptc_yOK (v := nI t9) qs _ _ (fun p hp => by have := hqm2 p hp; omega) (yOK_hole (p := a + 2 + wC r.2.2 + 2 + wC ob + 1) (v := nI t9) Y7 (by omega))
              have k8 := ptc_yB (v := nI t9) qs _ _ (fun p hp => by have := hqm2 p hp; omega) (yB_hole (p := a + 2 + wC r.2.2 + 2 + wC ob + 1) (v := nI t9) Bz (by omega))
              have k9 := yB_id k8 (come_P m2' m3' m4')
              have k10 := yOK_bad (H := []) k7 k9 (Nat.le_refl _) (fun p hp => by cases hp)
              have ek : ∀ j5 : Int, a + 2 + wC (r.2.2 ++ ([(5, [], ((4 + wC ob : Nat) : Int), (0 : Int))] ++ (ob ++ [(4, [], j5, (0 : Int))]))) = a + 2 + wC r.2.2 + 2 + wC ob + 2 := fun j5 => by
                rw [wC_app, wC_app, wC_app]
                show a + 2 + (_ + (2 + 0 + (_ + (2 + 0)))) = _
                omega
              have ec : ∀ j5 : Int, c + cnN (r.2.2 ++ ([(5, [], ((4 + wC ob : Nat) : Int), (0 : Int))] ++ (ob ++ [(4, [], j5, (0 : Int))]))) = c + cnN r.2.2 + cnN ob := fun j5 => by
                rw [cnN_app, cnN_app, cnN_app]
                show c + (_ + (0 + 0 + (_ + (0 + 0)))) = _
                omega
              have ef : ∀ j5 : Int, f + fxM (r.2.2 ++ ([(5, [], ((4 + wC ob : Nat) : Int), (0 : Int))] ++ (ob ++ [(4, [], j5, (0 : Int))]))) = f + fxM r.2.2 + fxM ob := fun j5 => by
                rw [fxM_app, fxM_app, fxM_app]
                show f + (_ + (0 + 0 + (_ + (0 + 0)))) = _
                omega
              exact yB_le (yOK_bad (H := []) (lo2 := a + 2 + wC r.2.2 + 2 + wC ob + 2 + 2) k2 (by rw [ek, ec, ef]; exact k10) (by rw [ek]; omega) (fun p hp => by cases hp)) (by omega) (by omega) (by omega) (by omega) (Nat.le_refl _) (Nat.le_refl _)
      · -- neither
        obtain ⟨S6, i1, i2, i3, i4, i5, i6, i7, i8⟩ := hJ 62 (Or.inr rfl)
        obtain ⟨S10, m1', m2', m3', m4'⟩ := come_T (d := d + 8) i6 i7 i4.2.1.1 (by omega) (by
          show qs.length + 1 < 3000
          omega)
        have ep : psI (qK (by1 A) n) (qL (by1 A) n) (qI (by1 A) n) (psA A n F) dp ind s lp tr ca ra sc atb k = .inr (kb, r.2.2 ++ (5, [], ((4 + wC ob : Nat) : Int), ((1 + wR (qK (by1 A) n) ob : Nat) : Int)) :: (ob ++ [(62, [], 2, 0)]), scb, atb) := by
          unfold psI
          rw [hr]
          show sb (psA A n F 2 (dp + 1) ind s lp tr (ca + wC r.2.2 + 2) (ra + wR (qK (by1 A) n) r.2.2 + 2) sc atb r.1) _ = _
          rw [hb]
          exact if_neg hel
        rw [ep]
        refine ⟨S10, fun t lv ht q0 q1 q2 q3 q4 q5 => ?_, fun x hx => ?_, fun l hl => (by cases hl)⟩
        · by_cases hc : qK (by1 A) n kb ≠ 0 ∧ qK (by1 A) n kb ≠ 1 ∧ qI (by1 A) n kb = ind
          · have n41 : qK (by1 A) n kb ≠ 41 := fun h => hel ⟨Or.inl h, hc.2.2⟩
            have n42 : qK (by1 A) n kb ≠ 42 := fun h => hel ⟨Or.inr h, hc.2.2⟩
            have hin2 := ins_T (d := d + 8) (i := ind) hX.1.1 i4 hindM
            rw [if_pos hc] at hins hin2
            exact cBrL_7 (d := d + 9) q5 q4 q3 q2 q0 q1 (by omega) (by omega) hindM (by omega) (by omega) (by omega) p1 u1 (by omega) w2 x1 hins htk (by omega) n41 (by omega) i1 i2 (by omega) i3 (fun lv1 r0 r1 r2 r3 r4 r5 => cBrL_1 (d := d + 9) r5 r4 r3 r2 r0 r1 (by omega) (by omega) hindM (by omega) rfl hin2 (cP_5 i4.1) (by omega) n42 m1')
          · have hin2 := ins_T (d := d + 8) (i := ind) hX.1.1 i4 hindM
            rw [if_neg hc] at hins hin2
            exact cBrL_9 (d := d + 9) q5 q4 q3 q2 q0 q1 (by omega) (by omega) hindM (by omega) (by omega) (by omega) p1 u1 (by omega) w2 x1 hins (by omega) i1 i2 (by omega) i3 (fun lv1 r0 r1 r2 r3 r4 r5 => cBrL_3 (d := d + 9) r5 r4 r3 r2 r0 r1 (by omega) (by omega) hindM (by omega) rfl hin2 m1')
        · injection hx with hx
          subst hx
          have k2 := i8 (a + 2 + wC r.2.2 + 2 + wC ob + 2) 2 0 ((1 + wR (qK (by1 A) n) ob : Nat) : Int) (by omega)
          have ew : a + 2 + wC (r.2.2 ++ (5, [], ((4 + wC ob : Nat) : Int), ((1 + wR (qK (by1 A) n) ob : Nat) : Int)) :: (ob ++ [(62, [], 2, 0)])) = a + 2 + wC r.2.2 + 2 + wC ob + 2 := by
            rw [wC_app]
            show a + 2 + (_ + (2 + wC (ob ++ [(62, [], 2, 0)]))) = _
            rw [wC_app]
            show a + 2 + (_ + (2 + (_ + (2 + 0)))) = _
            omega
          dsimp only
          rw [ew]
          have k3 := yOK_id k2 (come_P m2' m3' m4')
          simp only [List.append_assoc, List.cons_append, List.nil_append] at k3
          exact k3
end
