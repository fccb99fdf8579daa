/-! LOOPS AND HOLES BEHIND A FAULT in the class's statements -/
section
variable {d lo t : Nat}
theorem come_any : ∀ (ps : List Nat) (S : cS) (y : Int32) (k hi : Nat), chL S (Int32.ofInt (-1)) ps y → chD lo hi ps → hi ≤ t → sI S 2307 = nI t → t ≤ 40960 → k ≤ 3000 → ∃ S1, (∀ lv : sm_L, sm_get lv 0 = some (.ref 43) → sm_get lv 2 = some (.int y) → sm_get lv 3 = some (.int (nI k)) → Bod (d + 8) 87 4 lv [] S none S1) ∧ FrT [] [] [24] [] S S1 ∧ (∀ i, (∀ p, p ∈ ps → i ≠ p + 1) → sA S1 24 i = sA S 24 i) := by
  intro ps
  induction ps with
  | nil =>
    intro S y k hi h _ _ _ _ hk
    refine ⟨S, fun lv q0 q2 q3 => ?_, FrT.refl _ _ _ _ _, fun _ _ => rfl⟩
    rw [show y = Int32.ofInt (-1) from h] at q2
    rcases Nat.lt_or_ge k 3000 with h3 | h3
    · exact cChE_2 q3 q2 q0 (by omega) h3
    · exact cChE_1 q3 q2 q0 (by omega) h3
  | cons p r ih =>
    intro S y k hi h hD hhi ht htM hk
    obtain ⟨h1, h2⟩ := h
    obtain ⟨g1, g2, g3, g4⟩ := hD
    have hmem := chD_mem r _ g4
    rcases Nat.lt_or_ge k 3000 with h3 | h3
    · obtain ⟨S1, i1, i2, i3⟩ := ih (wA 24 (p + 1) (nI t) S) (sA S 24 (p + 1)) (k + 1) (p - 2) (chL_S r _ (fun q hq => by
        show upd (sA S 24) (p + 1) _ (q + 1) = _
        have := hmem q hq
        rw [upd_at, if_neg (by omega)]) h2) g4 (by omega) ((rAI _ _ _ _ _).trans ht) htM h3
      refine ⟨S1, fun lv q0 q2 q3 => ?_, FrT.trans (FrT_wA (by decide) (FrT.refl _ _ _ _ _)) i2, fun i hi => ?_⟩
      · rw [h1] at q2
        have hat := at_T (d := d + 7) (S := S) (p := t) (q := p + 1) ht (by omega) htM
        have hpt := patch_T (d := d + 7) (S := S) (p := t) (q := p + 1) (x := nI t) ht (by omega) htM
        cases r with
        | nil =>
          rw [show sA S 24 (p + 1) = Int32.ofInt (-1) from h2] at hat i1
          exact cChL_3 q3 q2 q0 (by omega) (by omega) h3 hat ht (by omega) hpt (fun lv1 e0 e2 e3 => i1 lv1 e0 e2 e3)
        | cons q r2 =>
          have hq := hmem q List.mem_cons_self
          rw [h2.1] at hat i1
          exact cChL_2 q3 q2 q0 (by omega) (by omega) h3 (by omega) hat ht (by omega) hpt (fun lv1 e0 e2 e3 => i1 lv1 e0 e2 e3)
      · rw [i3 i (fun q hq => hi q (List.mem_cons_of_mem _ hq))]
        show upd (sA S 24) (p + 1) _ i = _
        rw [upd_at, if_neg (hi p List.mem_cons_self)]
    · refine ⟨S, fun lv q0 q2 q3 => ?_, FrT.refl _ _ _ _ _, fun _ _ => rfl⟩
      rw [h1] at q2
      exact cChL_1 q3 q2 q0 (by omega) (by omega) h3
/-- a chain, however long, is told where it is reached -/
theorem come_A {ps : List Nat} {S : cS} {y : Int32} (h : chL S (Int32.ofInt (-1)) ps y) (hD : chD lo t ps) (ht : sI S 2307 = nI t) (htM : t ≤ 40960) : ∃ S1, Ans (d + 9) 87 [.ref 43, .int y] S none S1 ∧ FrT [] [] [24] [] S S1 ∧ (∀ i, (∀ p, p ∈ ps → i ≠ p + 1) → sA S1 24 i = sA S 24 i) := by
  obtain ⟨S1, h1, h2, h3⟩ := come_any (d := d) (t := t) ps S y 0 t h hD (Nat.le_refl _) ht htM (by omega)
  exact ⟨S1, Ans.of (by rw [ml_87]; exact Nat.le_of_ble_eq_true rfl) (Bod.lv (by rfl) (cCh0_1 (d := d) (fun lv1 q0 q2 q3 => h1 lv1 q0 q2 q3))), h2, h3⟩
end
/-- words told anew at the places behind some -/
def ptc (v : Int32) (qs : List Nat) (S : cS) : cS := qs.foldl (fun S p => wA 24 (p + 1) v S) S
theorem ptc_F {v : Int32} : ∀ (qs : List Nat) (S : cS), FrT [] [] [24] [] S (ptc v qs S) := by
  intro qs
  induction qs with
  | nil => intro S; exact FrT.refl _ _ _ _ _
  | cons p r ih => intro S; exact FrT.trans (FrT_wA (by decide) (FrT.refl _ _ _ _ _)) (ih (wA 24 (p + 1) v S))
theorem ptc_out {v : Int32} : ∀ (qs : List Nat) (S : cS) (i : Nat), (∀ p, p ∈ qs → i ≠ p + 1) → sA (ptc v qs S) 24 i = sA S 24 i := by
  intro qs
  induction qs with
  | nil => intro S i _; rfl
  | cons p r ih =>
    intro S i h
    refine (ih (wA 24 (p + 1) v S) i (fun q hq => h q (List.mem_cons_of_mem _ hq))).trans ?_
    show upd (sA S 24) (p + 1) v i = _
    rw [upd_at, if_neg (h p List.mem_cons_self)]
theorem ptc_in {v : Int32} : ∀ (qs : List Nat) (S : cS) (p : Nat), p ∈ qs → sA (ptc v qs S) 24 (p + 1) = v := by
  intro qs
  induction qs with
  | nil => intro S p h; cases h
  | cons q r ih =>
    intro S p h
    by_cases hr : p ∈ r
    · exact ih (wA 24 (q + 1) v S) p hr
    · obtain rfl : p = q := (List.mem_cons.mp h).elim id (fun h => absurd h hr)
      refine (ptc_out r (wA 24 (p + 1) v S) (p + 1) (fun x hx e => hr (by
        have : p = x := by omega
        rw [this]; exact hx))).trans ?_
      show upd (sA S 24) (p + 1) v (p + 1) = v
      rw [upd_at, if_pos rfl]
section
variable {A : Nat → Int32} {n z0 fb l a c f ab lo : Nat} {S0 : cS} {H : List Nat} {qa qc qf qe qs qn d : Nat}
/-- base and state told anew: what is kept of loops and tries, words below -/
theorem yB_re {S S1 B B1 : cS} {H1 : List Nat} {lo1 : Nat} (h : yB A n S0 z0 fb l a c f ab lo H qa qc qf qe qs qn B S) (hS : FrT [4308, 4309, 4310, 4311] [] [24] [] S S1) (hB : FrT [4308, 4309, 4310, 4311] [] [24] [] B B1) (he : ∀ i, i ∈ [4308, 4309, 4311] → sI S1 i = sI B1 i) (ht : ∃ tr lt, sI S1 4308 = nI tr ∧ sI S1 4311 = nI lt ∧ tr ≤ 100 ∧ lt ≤ 100) (hw : ∀ i, i < a → sA S1 24 i = sA B1 24 i) (hlo1 : a ≤ lo1) (hK : yK lo1 H1 B1 S1) : yB A n S0 z0 fb l a c f ab lo1 H1 qa qc qf qe qs qn B1 S1 := by
  obtain ⟨h1, ⟨a', c', f', s, e, sn, fn, av, tv, lv, l', b1, b2, b3, b4, b5, b6, b7, b8, b9, bfl, blo, g1, g2, g3, g4, g5, g6, g7, g8, g9, g10⟩, h3, h4, h5, h6⟩ := h
  obtain ⟨tr, lt, t1, t2, t3, t4⟩ := ht
  have hA : ∀ x, x ≠ 24 → sA S1 x = sA S x := fun x hx => hS.2.2.1 x (fun h => hx (List.mem_singleton.mp h))
  have hL : ∀ x, sL S1 x = sL S x := fun x => hS.2.2.2.1 x (fun h => by cases h)
  have gA : ∀ x, x ≠ 24 → sA B1 x = sA B x := fun x hx => hB.2.2.1 x (fun h => hx (List.mem_singleton.mp h))
  have gL : ∀ x, sL B1 x = sL B x := fun x => hB.2.2.2.1 x (fun h => by cases h)
  have a0 : ∀ x, x ∈ [1, 19, 20] → x ≠ 24 := by decide
  have y24 : ∀ x, x ∉ yA → x ≠ 24 := fun x hx e => hx (by rw [e]; decide)
  obtain ⟨f1, f2, f3, f4, f5, f6, f7, f8⟩ := h3.1
  obtain ⟨⟨q1, q2, q3⟩, q4, q5⟩ := h3.2.1
  refine ⟨cB_S h1 (hS.1 _ (by decide)) (hS.1 _ (by decide)) (hS.1 _ (by decide)) (fun x hx => hA x (a0 x hx)) (fun x _ => hL x), ⟨a', c', f', s, e, sn, fn, av, tr, lt, l', ⟨(hS.1 _ (by decide)).trans b1.1, (hS.1 _ (by decide)).trans b1.2.1, (hS.1 _ (by decide)).trans b1.2.2.1, (hS.1 _ (by decide)).trans b1.2.2.2.1, b1.2.2.2.2⟩, (hS.1 _ (by decide)).trans b2, (hS.1 _ (by decide)).trans b3, (hS.1 _ (by decide)).trans b4, (hS.1 _ (by decide)).trans b5, t1, t2, (hS.1 _ (by decide)).trans b8, ?_, (hS.1 _ (by decide)).trans bfl, blo, g1, g2, g3, g4, g5, g6, g7, t3, t4, g10⟩, ⟨⟨fun i hi => ?_, fun i hi => ?_, fun x hx => ?_, fun x hx => ?_, ?_, ?_, ?_, ?_⟩, ⟨⟨hw, fun i hi => ?_, fun i hi => ?_⟩, fun i hi => ?_, fun i hi => ?_⟩, nK_S h3.2.2 (hB.1 _ (by decide)) (hS.1 _ (by decide)) (fun x _ => gL x) (fun x _ => hL x)⟩, hK, hlo1, yV_S h6 (fun i hi => hS.1 i (by
    have : ∀ i, i ∈ [3211, 3212, 3213] → i ∉ [4308, 4309, 4310, 4311] := by decide
    exact this i hi)) (fun x hx => hA x (by
    have : ∀ x, x ∈ [35, 36, 40] → x ≠ 24 := by decide
    exact this x hx))⟩
  · rw [hS.1 3108 (by decide)]
    exact b9
  · by_cases hc : i ∈ [4308, 4309, 4311]
    · exact he i hc
    · have hn : i ∉ [4308, 4309, 4310, 4311] := fun hm => by
        simp only [List.mem_cons, List.not_mem_nil, or_false] at hm
        rcases hm with rfl | rfl | rfl | rfl
        · exact hc (by decide)
        · exact hc (by decide)
        · exact hi (by decide)
        · exact hc (by decide)
      exact (hS.1 i hn).trans ((f1 i hi).trans (hB.1 i hn).symm)
  · exact (hS.2.1 i (fun h => by cases h)).trans ((f2 i hi).trans (hB.2.1 i (fun h => by cases h)).symm)
  · exact (hA x (y24 x hx)).trans ((f3 x hx).trans (gA x (y24 x hx)).symm)
  · exact (hL x).trans ((f4 x hx).trans (gL x).symm)
  · exact hS.2.2.2.2.1.trans (f5.trans hB.2.2.2.2.1.symm)
  · exact hS.2.2.2.2.2.1.trans (f6.trans hB.2.2.2.2.2.1.symm)
  · exact hS.2.2.2.2.2.2.1.trans (f7.trans hB.2.2.2.2.2.2.1.symm)
  · exact hS.2.2.2.2.2.2.2.trans (f8.trans hB.2.2.2.2.2.2.2.symm)
  · rw [hL, hL, gL, gL]; exact q2 i hi
  · rw [hA 41 (by decide), hA 42 (by decide), gA 41 (by decide), gA 42 (by decide)]; exact q3 i hi
  · rw [hA 45 (by decide), gA 45 (by decide)]; exact q4 i hi
  · rw [hA 27 (by decide), hA 28 (by decide), hA 29 (by decide), hA 30 (by decide), gA 27 (by decide), gA 28 (by decide), gA 29 (by decide), gA 30 (by decide)]; exact q5 i hi
theorem yB_tl {B S : cS} (h : yB A n S0 z0 fb l a c f ab lo H qa qc qf qe qs qn B S) : ∃ tr lt, sI S 4308 = nI tr ∧ sI S 4311 = nI lt ∧ tr ≤ 100 ∧ lt ≤ 100 := by
  obtain ⟨t, c', f', s, e, sn, fn, av, tv, lv, l', h1, h2, h3, h4, h5, h6, h7', h8, h9, hfl, hlo, g1, g2, g3, g4, g5, g6, g7, g8, g9, g10⟩ := yB_top h
  exact ⟨tv, lv, h6, h7', g8, g9⟩
theorem yB_eq3 {B S : cS} (h : yB A n S0 z0 fb l a c f ab lo H qa qc qf qe qs qn B S) : ∀ i, i ∈ [4308, 4309, 4311] → sI S i = sI B i := fun i hi => h.2.2.1.1.1 i (by
  have : ∀ i, i ∈ [4308, 4309, 4311] → i ∉ yI := by decide
  exact this i hi)
/-- a word below is told anew in both -/
theorem yB_hole {B S : cS} {p : Nat} {v : Int32} (h : yB A n S0 z0 fb l a c f ab lo H qa qc qf qe qs qn B S) (hp : p < a) : yB A n S0 z0 fb l a c f ab lo H qa qc qf qe qs qn (wA 24 p v B) (wA 24 p v S) := by
  obtain ⟨ps, t, k1, k2, k3, k4, k5⟩ := id h.2.2.2.1
  have hlo := h.2.2.2.2.1
  refine yB_re h (FrT_wA (by decide) (FrT.refl _ _ _ _ _)) (FrT_wA (by decide) (FrT.refl _ _ _ _ _)) (have q := yB_eq3 h; q) (have q := yB_tl h; q) (fun i hi => ?_) hlo ⟨ps, t, k1, k2, chL_S ps _ (fun q hq => ?_) k3, k4, k5⟩
  · show upd (sA S 24) p v i = upd (sA B 24) p v i
    rw [upd_at, upd_at, h.2.2.1.2.1.1.1 i hi]
  · show upd (sA S 24) p v (q + 1) = _
    have := chD_mem ps t k4 q hq
    rw [upd_at, if_neg (by omega)]
theorem ptc_yB {v : Int32} : ∀ (qs' : List Nat) (B S : cS), (∀ p, p ∈ qs' → p + 1 < a) → yB A n S0 z0 fb l a c f ab lo H qa qc qf qe qs qn B S → yB A n S0 z0 fb l a c f ab lo H qa qc qf qe qs qn (ptc v qs' B) (ptc v qs' S) := by
  intro qs'
  induction qs' with
  | nil => intro B S _ h; exact h
  | cons p r ih => intro B S hp h; exact ih _ _ (fun q hq => hp q (List.mem_cons_of_mem _ hq)) (yB_hole h (hp p List.mem_cons_self))
/-- words at holes are told anew -/
theorem yB_wd {B S S1 : cS} {hs : List Nat} (h : yB A n S0 z0 fb l a c f ab lo H qa qc qf qe qs qn B S) (hF : FrT [] [] [24] [] S S1) (h24 : ∀ i, (∀ p, p ∈ hs → i ≠ p + 1) → sA S1 24 i = sA S 24 i) (hh : ∀ p, p ∈ hs → p ∈ H ∧ a ≤ p) : yB A n S0 z0 fb l a c f ab lo H qa qc qf qe qs qn B S1 := by
  obtain ⟨ps, t, k1, k2, k3, k4, k5⟩ := id h.2.2.2.1
  refine yB_re h (hF.mono (fun _ h => by cases h) (fun _ h => h) (fun _ h => h) (fun _ h => h)) (FrT.refl _ _ _ _ _) (fun i hi => (hF.1 i (fun h => by cases h)).trans (yB_eq3 h i hi)) ?_ (fun i hi => ?_) h.2.2.2.2.1 ⟨ps, t, (hF.1 _ (fun h => by cases h)).trans k1, k2, ?_, k4, k5⟩
  · rw [hF.1 4308 (fun h => by cases h), hF.1 4311 (fun h => by cases h)]
    exact yB_tl h
  · rw [h24 i (fun p hp => by have := (hh p hp).2; omega)]
    exact h.2.2.1.2.1.1.1 i hi
  · rw [hF.1 4310 (fun h => by cases h)]
    refine chL_S ps _ (fun q hq => h24 _ (fun p hp e => ?_)) k3
    have hq2 := (k5 p (hh p hp).1).2
    have : q = p := by omega
    exact hq2 (this ▸ hq)
/-- a loop's end behind a fault in its block: all that left it come here, and so does its exit -/
theorem yB_lpE {T S1 : cS} {xt lt tr : Nat} {x9 : Int32} (g : yB A n S0 z0 fb l a c f ab (a + 2) [] qa qc qf qe qs qn (wI 4311 (nI tr) (wI 4310 (nI xt) (wI 4309 x9 T))) S1) (hx : sA T 24 (xt + 1) = Int32.ofInt (-1)) (hx2 : xt + 2 ≤ a) (hx3 : 2 ≤ xt) (hq : qa + 2 ≤ 40960) (hlt : sI T 4311 = nI lt) (hlt2 : lt ≤ 100) {bk : Nat} : ∃ S2 t S3, Ans (d + 9) 54 [.ref 23, .int (nI 4), .int (nI bk)] S1 (some (.int (nI t))) S2 ∧ t < 2 ^ 20 ∧ Ans (d + 9) 87 [.ref 43, .int (sI S2 4310)] S2 none S3 ∧ yB A n S0 z0 fb l a c f ab (a + 2) [] (qa + 2) qc qf qe qs qn (wA 24 (xt + 1) (sA S3 24 (xt + 1)) T) (wI 4311 (nI lt) (wI 4310 (sI T 4310) (wI 4309 (sI T 4309) S3))) := by
  obtain ⟨S2, t, p1, p2, p3, p4, p5⟩ := yB_put2 (d := d + 7) (x0 := nI 4) (x1 := nI bk) g hq
  obtain ⟨ps, t', k1, k2, k3, k4, k5⟩ := id p3.2.2.2.1
  have hxw : sA S2 24 (xt + 1) = Int32.ofInt (-1) := (p3.2.2.1.2.1.1.1 _ (by omega)).trans hx
  have h7 : chL S2 (Int32.ofInt (-1)) [xt] (nI xt) := ⟨rfl, hxw⟩
  have k3' : chL S2 (nI xt) ps (sI S2 4310) := k3
  have h8 := chL_app _ _ _ k3' h7
  have htop : a ≤ t' := by
    obtain ⟨t2, c', f', s, e, sn, fn, av, tv, lv, l', h1, h2, h3, h4, h5, h6, h7', h8, h9, hfl, hlo, g1, g2, g3, g4, g5, g6, g7, g8, g9, g10⟩ := yB_top p3
    have := nI_inj (a := t') (b := t2) (by omega) (by omega) (k1.symm.trans h1.1)
    omega
  have h9 : chD 2 t' (ps ++ [xt]) := chD_app (by omega) _ _ _ k4 ⟨hx2, hx3, hx3, trivial⟩ htop
  obtain ⟨S3, q1, q2, q3⟩ := come_A (d := d) h8 h9 k1 k2
  have hS : FrT [4308, 4309, 4310, 4311] [] [24] [] S2 (wI 4311 (nI lt) (wI 4310 (sI T 4310) (wI 4309 (sI T 4309) S3))) := FrT_wI (by decide) (FrT_wI (by decide) (FrT_wI (by decide) (q2.mono (fun _ h => by cases h) (fun _ h => h) (fun _ h => h) (fun _ h => h))))
  have hB : FrT [4308, 4309, 4310, 4311] [] [24] [] (wI 4311 (nI tr) (wI 4310 (nI xt) (wI 4309 x9 T))) (wA 24 (xt + 1) (sA S3 24 (xt + 1)) T) := (FrT_wI (by decide) (FrT_wI (by decide) (FrT_wI (by decide) (FrT.refl _ _ _ _ _)))).symm.trans (FrT_wA (by decide) (FrT.refl _ _ _ _ _))
  have e8 : sI S3 4308 = sI T 4308 := (q2.1 _ (fun h => by cases h)).trans ((yB_eq3 p3 4308 (by decide)).trans (((rIn _ _ (by decide)).trans ((rIn _ _ (by decide)).trans (rIn _ _ (by decide))))))
  obtain ⟨tr2, lt2, u1, u2, u3, u4⟩ := yB_tl p3
  refine ⟨S2, t, S3, p1, p2, q1, yB_re (H1 := []) (lo1 := a + 2) p3 hS hB (fun i hi => ?_) ⟨tr2, lt, ?_, rIe _ _ _, u3, hlt2⟩ (fun i hi => ?_) (by omega) ⟨[], t', ?_, k2, ?_, trivial, fun x hx => by cases hx⟩⟩
  · simp only [List.mem_cons, List.not_mem_nil, or_false] at hi
    rcases hi with rfl | rfl | rfl
    · exact ((rIn _ _ (by decide)).trans ((rIn _ _ (by decide)).trans (rIn _ _ (by decide)))).trans e8
    · exact (rIn _ _ (by decide)).trans ((rIn _ _ (by decide)).trans (rIe _ _ _))
    · exact (rIe _ _ _).trans hlt.symm
  · exact ((rIn _ _ (by decide)).trans ((rIn _ _ (by decide)).trans (rIn _ _ (by decide)))).trans ((q2.1 _ (fun h => by cases h)).trans u1)
  · show sA S3 24 i = upd (sA T 24) (xt + 1) _ i
    rw [upd_at]
    by_cases hi2 : i = xt + 1
    · rw [if_pos hi2, hi2]
    · rw [if_neg hi2, q3 i (fun p hp => ?_)]
      · exact p3.2.2.1.2.1.1.1 i hi
      · rcases List.mem_append.mp hp with hp | hp
        · have := chD_mem _ _ k4 p hp
          omega
        · rw [List.mem_singleton.mp hp]; exact hi2
  · exact ((rIn _ _ (by decide)).trans ((rIn _ _ (by decide)).trans (rIn _ _ (by decide)))).trans ((q2.1 _ (fun h => by cases h)).trans k1)
  · show sI (wI 4311 (nI lt) (wI 4310 (sI T 4310) (wI 4309 (sI T 4309) S3))) 4310 = sI T 4310
    exact (rIn _ _ (by decide)).trans (rIe _ _ _)
end
section
variable {A : Nat → Int32} {n z0 fb a0 s ab : Nat} {S0 B : cS}
theorem ptc_yOK {a c f : Nat} {v : Int32} {x : PT} : ∀ (qs : List Nat) (S S1 : cS), (∀ p, p ∈ qs → p + 1 < a) → yOK A n S0 z0 fb a0 s ab S a c f x S1 → yOK A n S0 z0 fb a0 s ab (ptc v qs S) a c f x (ptc v qs S1) := by
  intro qs
  induction qs with
  | nil => intro S S1 _ h; exact h
  | cons p r ih => intro S S1 hp h; exact ih _ _ (fun q hq => hp q (List.mem_cons_of_mem _ hq)) (yOK_hole h (hp p List.mem_cons_self))
theorem yOK_id {a c f : Nat} {x : PT} {S S1 : cS} (h : yOK A n S0 z0 fb a0 s ab B a c f x S) (hS : FrT [] [] [] [] S S1) : yOK A n S0 z0 fb a0 s ab B a c f x S1 := by
  refine yOK_ints h (FrT.refl _ _ _ _ _) (hS.mono (fun _ h => by cases h) (fun _ h => h) (fun _ h => h) (fun _ h => h)) (fun i hi => (hS.1 i (fun h => by cases h)).trans (h.2.2.2.1.1.1 i (by
    have : ∀ i, i ∈ [4308, 4309, 4311] → i ∉ yI := by decide
    exact this i hi))) ?_
  obtain ⟨h1, h2, h3, h4, h5, h6, h7, h8, h9, h10, h11, h12, ⟨tr, lt, t1, t2, t3, t4⟩, h14⟩ := h.1
  exact ⟨tr, lt, (hS.1 _ (fun h => by cases h)).trans t1, (hS.1 _ (fun h => by cases h)).trans t2, t3, t4⟩
/-- a fault behind a jump whose place is not yet told -/
theorem yB_J {a c f k l lo2 : Nat} {os : List Op} {sc : SCs} {at' : List Nat} {H H2 : List Nat} {qa qc qf qe qs qn : Nat} {S S1 S3 : cS} (h : yOK A n S0 z0 fb a0 s ab B a c f (k, os, sc, at') S) (hF : FrT [2307] [] [24] [] S S1) (h24 : ∀ i, i < a + wC os → sA S1 24 i = sA S 24 i) (g : yB A n S0 z0 fb l (a + wC os + 2) (c + cnN os) (f + fxM os) ab lo2 H2 qa qc qf qe qs qn S1 S3) (hlo : a + wC os + 4 ≤ lo2) (hH : ∀ p, p ∈ H → p + 2 ≤ a + wC os + 2 ∧ p ∉ bks a os ∨ p ∈ H2 ∧ a + wC os + 2 ≤ p) : yB A n S0 z0 fb l a c f ab (a + 2) H qa qc qf qe qs qn B S3 := by
  obtain ⟨h1, h2, h3, h4, h5, h6⟩ := h
  have hyF : yF fb (a + wC os) (c + cnN os) (f + fxM os) ab S S1 := ⟨hF.mono (by decide) (fun _ h => by cases h) (by decide) (fun _ h => by cases h), kQ_A h24 (fun i _ => by rw [hF.2.2.2.1 25 (fun h => by cases h), hF.2.2.2.1 26 (fun h => by cases h)]; exact ⟨rfl, rfl⟩) (fun i _ => by rw [hF.2.2.1 41 (by decide), hF.2.2.1 42 (by decide)]; exact ⟨rfl, rfl⟩) (fun i _ => by rw [hF.2.2.1 45 (by decide)]) (fun x hx i _ => by
    have : ∀ x, x ∈ [27, 28, 29, 30] → x ∉ [24] := by decide
    rw [hF.2.2.1 x (this x hx)]), cP_nK h1.1 (hF.1 _ (by decide)) (fun x _ => hF.2.2.2.1 x (fun h => by cases h))⟩
  have hm : ∀ p, p ∈ (bks a os).reverse → p + 2 ≤ a + wC os := fun p hp => bks_lt os a p (List.mem_reverse.mp hp)
  refine yB_base (lo := a + 2) (qs := (bks a os).reverse) (a2 := a + wC os + 2) (c2 := c + cnN os) (f2 := f + fxM os) (yF_trans h4 hyF (by omega) (by omega) (by omega) (Nat.le_refl _)) ?_ (chD_le _ _ _ (by omega) (show chD (a + 2) (a + wC os) (bks a os).reverse from h6)) (fun p hp => ?_) (by omega) (by omega) (by omega) (by omega) (by omega) (by omega) g
  · rw [hF.1 4310 (by decide)]
    exact chL_S _ _ (fun p hp => h24 _ (by have := hm p hp; omega)) h5
  · rcases hH p hp with ⟨u1, u2⟩ | u
    · exact Or.inl ⟨u1, fun hc => u2 (List.mem_reverse.mp hc)⟩
    · exact Or.inr u
end
