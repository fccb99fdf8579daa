/-! STATEMENTS OF THE REFERENCE: a class's statement (335) -/
theorem zq_00 {β : Nat → Nat} {n : Nat} : qK β n 0 ≠ 2 := by
  show (tq_ln β n 0 1 0).1 ≠ 2
  unfold tq_ln
  cases ht : tl β n (n + 1) 0 1 with
  | none => exact fun q => by cases q
  | some r =>
    obtain ⟨q, l2, i⟩ := r
    obtain ⟨a1, a2, a3, a4, a5, a6, a7, a8⟩ := tl_ok _ _ _ _ _ _ (Nat.zero_le _) ht
    show (tk β n q).1 ≠ 2
    intro h2
    have := tk_k2 (β := β) (n := n) (p := q) h2
    rcases this with h3 | h3 | h3
    all_goals first | exact a3 h3 | exact a4 h3 | omega
section
variable {β : Nat → Nat} {n : Nat} {E : Nat → Nat → Bool} {V : Nat → Int32} {T : Nat → Nat × Nat} {P : Nat → Int32 → Int32 × Int32} {A : Prop} {own0 : Nat → Nat × Nat} {m u k1 : Nat} {S0 S S1 S2 : cS} {H B0 W d c w t f b f1 j l s : Nat} {X : Nat → Nat} {o1 os2 : List Op}
theorem psDef_i {K L : Nat → Nat} {R : RsT} {dp ind s ca ra k : Nat} {sc : SCs} {at' : List Nat} {x : PT} (h : psDef K L E R dp ind s ca ra sc at' k = .inr x) : K (k + 1) = 3 ∧ x.2.2.2 = at' := by
  unfold psDef at h
  by_cases e : K (k + 1) = 3 ∧ K (k + 2) = 6
  · rw [if_pos e] at h
    refine ⟨e.1, ?_⟩
    cases hp : psPs K E sc.1.length (sc.1 ++ [(s, ca + 2, ra + 2, k + 1)], sc.2) (k + 3) with
    | none => rw [hp] at h; cases h
    | some y =>
      rw [hp] at h
      dsimp only at h
      cases hb : R 2 (dp + 1) ind sc.1.length none 0 (ca + 2) (ra + 2) y.2.1 at' y.1 with
      | inl l => rw [hb] at h; cases h
      | inr b =>
        rw [hb] at h
        have h2 : (.inr (b.1, (4, [], ((5 + wC b.2.1 : Nat) : Int), ((3 + wR K b.2.1 : Nat) : Int)) :: (b.2.1 ++ [(63, [], 0, 0), (8, [], 0, 0), (22, [sc.1.length - 1], 0, 0)]), b.2.2.1, at') : PSr) = .inr x := h
        injection h2 with h2
        rw [← h2]
  · rw [if_neg e] at h
    cases h
/-- a line of a class: its newline is behind -/
theorem zG_l1 {dp ind tr af k r : Nat} {opn : Nat → Nat} {lp : LpT} {sc : SCs} {at' at2 : List Nat} {os : List Op} (hX : zX β n V own0 m k1 S0) (h0 : zI0 β n E V T own0 m u k1 S0 H B0 W 1 opn dp ind s lp tr sc at' X af c w t b k S) (hI : qI β n k = ind) (hz : zO β n V (zPT (qK β n) (qI β n) V T) (agT T sc.1) own0 m u S0 H B0 X (X 2 - 1) S c w t (sc.1.length - 1) b (r + 1) os (sc.1.length - 1) S1) (hi : ∀ i, i ∈ [6117, 6122, 6123, 6126, 6127, 6134, 6137, 6140] → sI S1 i = sI S i) (hAt : zAt (qK β n) V af at2 S1) (hl1 : at'.length ≤ at2.length) (hl2 : at2.length ≤ at'.length + 1) (hdf : zDf (qK β n) (qI β n) V m sc.1 S1) (hn : n60 os) (hw : wR (qK β n) os + 2 ≤ 13 * (r - k + 1)) (hnw : nwN (qK β n) os ≤ r - k) (hnt : ntN (qK β n) os ≤ r - k) (htk : ∀ j, k ≤ j → j < r → 3 ≤ qK β n j) (hkr : k < r) (h2 : qK β n r = 2) : zG β n E V T own0 m u k1 S0 H B0 1 ind lp sc at' X af S c w t b k (r + 1, os, sc, at2) S1 ∧ wR (qK β n) os + 2 + 13 * rem β n (r + 1) ≤ 13 * rem β n k := by
  have h7 := h0.2.2.2.2.2.2.1
  have hrk := r_k1 hX h7 htk
  obtain ⟨y1, y2, y3, y4⟩ := rm_run (β := β) (n := n) (k := k) (k1 := r) (by omega) htk
  have hK1 : qK β n k ≠ 1 := by have := htk k (Nat.le_refl _) hkr; omega
  obtain ⟨q5, q6⟩ := rem_ge hK1
  have p5 : rem β n (r + 1) + 1 ≤ rm β n r := rm_nl (β := β) (n := n) (j := r) h2
  have hk2 := q_end hX hrk (by omega)
  have hq1 := qP_le (β := β) (n := n) (show k + 1 ≤ r + 1 by omega)
  have hqk : qP β n k + 1 ≤ qP β n (k + 1) := by
    obtain ⟨u1, -⟩ := rm_gt (β := β) (n := n) (k := k) (htk k (Nat.le_refl _) hkr)
    have a1 := (q_lt β n k).1
    have a2 := (q_lt β n (k + 1)).1
    unfold rm at u1
    omega
  refine ⟨⟨hz, hi, (fun q => by cases q), fun _ => ⟨hAt, by show at2.length + qP β n k ≤ at'.length + qP β n (r + 1); omega, hl1⟩, hdf, fun _ => hn, ?_, ?_, ?_, ?_, ?_, fun j j1 j2 => ?_, hk2, fun _ => h2, by show k ≤ r + 1; omega, scL_refl E sc⟩, by omega⟩
  · show wR (qK β n) os + 13 * rem β n (r + 1) ≤ 13 * rem β n k
    omega
  · show nwN (qK β n) os + rem β n (r + 1) ≤ rem β n k
    omega
  · show ntN (qK β n) os + rem β n (r + 1) ≤ rem β n k
    omega
  · show sc.1.length + rem β n (r + 1) ≤ sc.1.length + rem β n k
    omega
  · show (zbk (qK β n) c os).length + qP β n k ≤ qP β n (r + 1)
    rw [zbk_n _ _ _ hn]
    show 0 + _ ≤ _
    omega
  · rcases Nat.lt_or_ge j r with e1 | e1
    · obtain ⟨z1, z2, z3, z4⟩ := rm_run (β := β) (n := n) (k := k) (k1 := j) j1 (fun q a1 a2 => htk q a1 (by omega))
      have := htk j j1 e1
      exact ⟨by omega, by omega⟩
    · have j2' : j < r + 1 := j2
      obtain rfl : j = r := by omega
      exact ⟨by omega, by omega⟩
theorem ZS1_s {F : Nat} (hX : zX β n V own0 m k1 S0) (hE : eqV E (qK β n) V) (hB : ZB β n E V T own0 m u k1 S0 H B0 W F 0) : ZS β n E V T own0 m u k1 S0 H B0 W (F + 1) 1 := by
  intro opn dp ind s lp tr ca sc at' X af c w t b k S D h hK1 hI hF hD
  have hlv : lvZ dp = 260 + 4 * (12 - dp) := rfl
  obtain ⟨e, rfl⟩ : ∃ e, D = e + 13 := ⟨D - 13, by omega⟩
  have eP : ps (qK β n) (qL β n) (qI β n) E (F + 1) (umZ 1) dp ind s lp tr ca c sc at' k = stO (qL β n k) k (psC0 (qK β n) (qL β n) E (ps (qK β n) (qL β n) (qI β n) E F) dp ind s (ca + 2) (c + 2) sc at' k) := rfl
  rw [eP]
  show ∃ S1 v, Ans (e + 13) 335 [.ref 61] S (some (.int v)) S1 ∧ _
  have ml : ∀ {v' : Int32} {Sf : cS}, Bod (e + 12) 335 0 [(0, .ref 61)] [] S (some (.int v')) Sf → Ans (e + 13) 335 [.ref 61] S (some (.int v')) Sf := fun p => Ans.of (by rw [ml_335]; exact Nat.le_of_ble_eq_true rfl) p
  obtain ⟨S1, hA1, z1, kx1, h1⟩ := zIs_st (D := e + 12) hX (Or.inr rfl) h hK1 hI (by omega)
  obtain ⟨h00, -⟩ := h
  have hk1 := hX.2.1
  obtain ⟨g0, ⟨r1, r2, r3, r4⟩, hls, -, -, hx1, hx2, -⟩ := id h1
  obtain ⟨q1, q2, q3, q4, q5, q6, q7, q8, q9, q10, q11, q12, q13⟩ := id g0
  obtain ⟨-, -, -, -, -, -, -, ⟨c71, c72, c73, c74⟩, -, -, -⟩ := id q4
  obtain ⟨lpn, hx6, hAt0⟩ := q8 rfl
  have hs6 : sI S 6115 = nI k := h00.2.1
  obtain ⟨-, t2, -, -, -, -, -, -⟩ := z_tok hX h00.1 q7
  have hL : (qL β n k) < 2 ^ 20 := by have := (q_lt β n k).2.2.1; have := hX.1; omega
  have hiM := k_i (k := k) hX
  obtain ⟨u1, -, u3, -, u5, u6, u7, -⟩ := z_tok hX q1 q7
  have hn3 := hX.1
  have hqn := (q_lt β n k).1
  have hK2 : qK β n k ≠ 2 := by
    rcases hls with q | q
    · have := q_22 q
      rcases Nat.eq_zero_or_pos k with z | z
      · rw [z]
        exact zq_00
      · rw [show k - 1 + 1 = k by omega] at this
        exact this
    · rw [q]
      exact zq_00
  have e70 := u3 hK1 hK2
  rw [hI] at e70
  obtain ⟨w5, w6⟩ := rem_ge hK1
  -- what stands behind the first step
  have fin : ∀ {r : PSr} {v : Int32} {Sf : cS}, zOs β n E V T own0 m u k1 S0 H B0 W 1 opn (dp + 1) ind lp sc at' X af S1 (c + 2) w t b k r v Sf → zOu β n E V T own0 m u k1 S0 H B0 W 1 opn (dp + 1) ind lp sc at' X af S c w t b k (stO (qL β n k) k r) v Sf := fun g => zOu_st z1 kx1 g
  by_cases e51 : qK β n k = 51
  · have hP : psC0 (qK β n) (qL β n) E (ps (qK β n) (qL β n) (qI β n) E F) dp ind s (ca + 2) (c + 2) sc at' k = ln (qK β n) (qL β n k) (k + 1) [] sc at' := by
      unfold psC0
      rw [if_neg (by omega), if_pos e51]
    rw [hP]
    have c2 := z_wdT (d := e + 11) (K := 11) hX q1 q2 q7 (by decide) e51
    have hk2 := q_end hX q7 hK1
    have hEa : zE own0 m u S0 H B0 (c + 2) w t (sc.1.length - 1) b (wI 6115 (nI (k + 1)) S1) := zE_wI q1 (by decide)
    have htk : ∀ j, k ≤ j → j < k + 1 → 3 ≤ qK β n j := fun j j1 j2 => by
      obtain rfl : j = k := by omega
      omega
    by_cases e2 : qK β n (k + 1) = 2
    · have c3 := z_nlT (d := e + 3) hX hEa (rIe _ _ _) hk2 e2
      refine ⟨_, nI 1, ml (zCs_1 (d := e + 4) hs6 (by omega) t2 hL hA1 q2 (by omega) e70 (by omega) c2 q2 (by omega) c3), fin (Or.inr ⟨(k + 2, [], sc, at'), ?_, rfl, ?_⟩)⟩
      · unfold ln
        rw [if_pos e2]
      · have z0 : zO β n V (zPT (qK β n) (qI β n) V T) (agT T sc.1) own0 m u S0 H B0 X (X 2 - 1) S1 (c + 2) w t (sc.1.length - 1) b (k + 1 + 1) [] (sc.1.length - 1) (wI 6115 (nI (k + 1 + 1)) (wI 6115 (nI (k + 1)) S1)) := zO_pre (zO_nil (zE_wI hEa (by decide)) (rIe _ _ _) ((rIn _ _ (by decide)).trans ((rIn _ _ (by decide)).trans q3))) (kW_trans (kW_wI _ _ _ _ _) (kW_wI _ _ _ _ _) (Nat.le_refl _) (Nat.le_refl _) (Nat.le_refl _) (Nat.le_refl _) (Nat.le_refl _)) (kA_trans kA_wI kA_wI)
        exact zG_l1 (r := k + 1) hX g0 hI z0 (fun i hi => by
          simp only [List.mem_cons, List.not_mem_nil, or_false] at hi
          rw [rIn _ _ (by omega), rIn _ _ (by omega)]) ⟨by rw [rIn _ _ (by decide), rIn _ _ (by decide)]; exact hAt0.1, hAt0.2⟩ (Nat.le_refl _) (Nat.le_succ _) q5 (fun o ho => by cases ho) (by show 0 + 2 ≤ _; omega) (Nat.zero_le _) (Nat.zero_le _) htk (by omega) e2
    · obtain ⟨c3, b2⟩ := z_nlF (d := e + 3) (W := W) hX hEa (rIe _ _ _) ((rIn _ _ (by decide)).trans q3) hk2 e2 q9 q10 q11
      obtain ⟨p1, p2, p3, p4⟩ := rm_gt (β := β) (n := n) (k := k) (by omega)
      have ef : fl β n (k + 1) = flq (qL β n k) := by rw [← p3]; rfl
      rw [ef] at c3 b2
      refine ⟨_, nI 0, ml (zCs_2 (d := e + 4) hs6 (by omega) t2 hL hA1 q2 (by omega) e70 (by omega) c2 q2 (by omega) c3), fin (Or.inl ⟨_, ?_, rfl, b2⟩)⟩
      unfold ln
      rw [if_neg e2]
      exact zB_in (q := qL β n k) rfl
  have c2 := z_wdF (d := e + 11) (K := 11) hX q1 q2 q7 (by decide) (show qK β n k ≠ 40 + 11 from e51)
  by_cases e46 : qK β n k = 46
  · have c3 := z_wdT (d := e + 11) (K := 6) hX q1 q2 q7 (by decide) e46
    have hk2 := q_end hX q7 hK1
    obtain ⟨s1, -, -, -, s5, s6, -, -⟩ := z_tok hX q1 hk2
    have hlt := rkd_lt (qK β n (k + 1))
    have hP : psC0 (qK β n) (qL β n) E (ps (qK β n) (qL β n) (qI β n) E F) dp ind s (ca + 2) (c + 2) sc at' k = sb (dfR (qK β n) (qL β n) E (ps (qK β n) (qL β n) (qI β n) E F) 0 dp ind s (ca + 2) (c + 2) sc at' k) fun x => .inr (x.1, x.2.1 ++ gvO E at' (k + 1), x.2.2.1, gvA E at' (k + 1)) := by
      unfold psC0
      rw [if_pos e46]
      rfl
    obtain ⟨S4, v, hA4, hO⟩ := z_dfn (D := e + 12) (ca := ca + 2) (lb := 0) hX (Or.inr rfl) hE hB h1 e46 (by omega) (by omega) (by decide)
    rcases hO with ⟨l0, o1, o2, o3⟩ | ⟨x, o1, o2, o3, o4⟩
    · rw [o2] at hA4
      rw [hP]
      have hbd : zBd β n opn (dp + 1) (sb (dfR (qK β n) (qL β n) E (ps (qK β n) (qL β n) (qI β n) E F) 0 dp ind s (ca + 2) (c + 2) sc at' k) fun x => .inr (x.1, x.2.1 ++ gvO E at' (k + 1), x.2.2.1, gvA E at' (k + 1))) l0 := zBd_sb (fun x => ⟨_, rfl, rfl⟩) o1
      by_cases e3 : qK β n (k + 1) = 3
      · obtain ⟨r, hr, hV⟩ := s6 e3
        exact ⟨S4, nI 0, ml (zCs_6 (d := e + 4) hs6 (by omega) t2 hL hA1 q2 (by omega) e70 (by omega) c2 c3 q2 (by omega) s1 (by omega) (rkd_1.mpr e3) (s5.trans hV) (by omega) hA4), fin (Or.inl ⟨l0, hbd, rfl, o3⟩)⟩
      · exact ⟨S4, nI 0, ml (zCs_4 (d := e + 4) hs6 (by omega) t2 hL hA1 q2 (by omega) e70 (by omega) c2 c3 q2 (by omega) s1 (by omega) (fun q => e3 (rkd_1.mp q)) hA4), fin (Or.inl ⟨l0, hbd, rfl, o3⟩)⟩
    · rw [o2] at hA4
      obtain ⟨i1, i2⟩ := psDef_i o1
      obtain ⟨r, hr, hV⟩ := s6 i1
      obtain ⟨x1, x2⟩ := x
      obtain ⟨xo, xs, xa⟩ := x2
      have i2' : xa = at' := i2
      subst i2'
      obtain ⟨g1, g2, g3, g4, g5, g6, g7, g8, g9, g10, g11, g12, g13, g14, g15, g16⟩ := id o3
      obtain ⟨g41, g42, g43⟩ := g4 rfl
      have hN : c + 2 + wR (qK β n) xo + 2 ≤ H := by
        have : wR (qK β n) xo + 8 + 13 * rem β n x1 ≤ 13 * rem β n k := o4
        omega
      obtain ⟨S5, hA5, z5, a5, i5, d5, n5, w5', nw5, nt5, l5, l6⟩ := z_give (d := e + 3) (kk := k + 1) (at' := xa) hX hE g1 g41 ((g2 _ (by decide)).trans c73) i1 hV hr hN q12 (by omega) (by omega)
      rw [hP, o1]
      refine ⟨S5, nI 1, ml (zCs_5 (d := e + 4) hs6 (by omega) t2 hL hA1 q2 (by omega) e70 (by omega) c2 c3 q2 (by omega) s1 (by omega) (rkd_1.mpr i1) (s5.trans hV) (by omega) hA4 hA5), fin (Or.inr ⟨(x1, xo ++ gvO E xa (k + 1), xs, gvA E xa (k + 1)), rfl, rfl, ⟨z5, fun i hi => ?_, (fun q => by cases q), fun _ => ⟨a5, ?_, l5⟩, zDf_E g5 d5, fun hl => n60_app.mpr ⟨g6 hl, n5⟩, ?_, ?_, ?_, g10, ?_, g12, g13, g14, g15, g16⟩, ?_⟩)⟩
      · have hi' := hi
        simp only [List.mem_cons, List.not_mem_nil, or_false] at hi'
        exact (i5 i (by omega) (by omega) (by omega) (by omega) (by omega) (by omega)).trans (g2 i hi)
      · show (gvA E xa (k + 1)).length + qP β n k ≤ xa.length + qP β n x1
        have h3 : k + 1 ≤ x1 := by
          rcases Nat.lt_or_ge k x1 with q | q
          · exact q
          · have h9 : wR (qK β n) xo + 8 + 13 * rem β n x1 ≤ 13 * rem β n k := o4
            have : k = x1 := Nat.le_antisymm g15 q
            subst this
            omega
        have hq1 := qP_le (β := β) (n := n) h3
        obtain ⟨v1, -⟩ := rm_gt (β := β) (n := n) (k := k) (by omega)
        have a2 := (q_lt β n (k + 1)).1
        unfold rm at v1
        omega
      · show wR (qK β n) (xo ++ gvO E xa (k + 1)) + 13 * rem β n x1 ≤ 13 * rem β n k
        have h9 : wR (qK β n) xo + 8 + 13 * rem β n x1 ≤ 13 * rem β n k := o4
        rw [wR_app]
        omega
      · show nwN (qK β n) (xo ++ gvO E xa (k + 1)) + rem β n x1 ≤ rem β n k
        rw [nwN_app, nw5]
        exact g8
      · show ntN (qK β n) (xo ++ gvO E xa (k + 1)) + rem β n x1 ≤ rem β n k
        rw [ntN_app, nt5]
        exact g9
      · show (zbk (qK β n) (c + 2) (xo ++ gvO E xa (k + 1))).length + qP β n k ≤ qP β n x1
        rw [zbk_app, zbk_n _ (gvO E xa (k + 1)) _ n5, List.append_nil]
        exact g11
      · show wR (qK β n) (xo ++ gvO E xa (k + 1)) + 2 + 13 * rem β n x1 ≤ 13 * rem β n k
        have h9 : wR (qK β n) xo + 8 + 13 * rem β n x1 ≤ 13 * rem β n k := o4
        rw [wR_app]
        omega
  have c3 := z_wdF (d := e + 11) (K := 6) hX q1 q2 q7 (by decide) (show qK β n k ≠ 40 + 6 from e46)
  have hlt := rkd_lt (qK β n k)
  have hbadI : ¬(qK β n k = 3 ∧ qK β n (k + 1) = 19) → psC0 (qK β n) (qL β n) E (ps (qK β n) (qL β n) (qI β n) E F) dp ind s (ca + 2) (c + 2) sc at' k = .inl (qL β n k) := fun q => by
    unfold psC0
    rw [if_neg e46, if_neg e51, if_neg q]
  by_cases e3 : qK β n k = 3
  rotate_left
  · obtain ⟨b1, b2⟩ := z_bad (d := e + 10) (W := W) (j := k) hX q1 q2 q3 q7 q9 q10 q11
    refine ⟨_, nI 0, ml (zCs_11 (d := e + 4) hs6 (by omega) t2 hL hA1 q2 (by omega) e70 (by omega) c2 c3 q2 (by omega) u1 (by omega) (fun q => e3 (rkd_1.mp q)) b1), fin (Or.inl ⟨_, ?_, rfl, b2⟩)⟩
    rw [hbadI (fun q => e3 q.1)]
    exact zB_in (q := qL β n k) rfl
  obtain ⟨r, hr, hV⟩ := u6 e3
  have hk2 := q_end hX q7 hK1
  have hEa : zE own0 m u S0 H B0 (c + 2) w t (sc.1.length - 1) b (wI 6115 (nI (k + 1)) S1) := zE_wI q1 (by decide)
  obtain ⟨p1, p2, p3, p4⟩ := rm_gt (β := β) (n := n) (k := k) (by omega)
  by_cases e19 : qK β n (k + 1) = 19
  rotate_left
  · obtain ⟨b1, b2⟩ := z_tkF (d := e + 9) (W := W) (K := 19) hX hEa (rIe _ _ _) ((rIn _ _ (by decide)).trans q3) hk2 (by decide) e19 q9 q10 q11
    have ef : fl β n (k + 1) = flq (qL β n k) := by rw [← p3]; rfl
    rw [ef] at b1 b2
    refine ⟨_, nI 0, ml (zCs_10 (d := e + 4) hs6 (by omega) t2 hL hA1 q2 (by omega) e70 (by omega) c2 c3 q2 (by omega) u1 (by omega) (rkd_1.mpr e3) (u5.trans hV) (by omega) b1), fin (Or.inl ⟨_, ?_, rfl, b2⟩)⟩
    rw [hbadI (fun q => e19 q.2)]
    exact zB_in (q := qL β n k) rfl
  have c4 := z_tkT (d := e + 9) (K := 19) hX hEa (rIe _ _ _) hk2 (by decide) e19
  have hk3 : k + 2 ≤ k1 := q_end (k := k + 1) hX hk2 (by omega)
  have eW : wI 6115 (nI (k + 1 + 1)) (wI 6115 (nI (k + 1)) S1) = wI 6115 (nI (k + 2)) S1 := wI_wI _ _ _ _
  rw [eW] at c4
  have kxa : kX m S1 (wI 6115 (nI (k + 2)) S1) := kX_wI (Or.inl rfl)
  obtain ⟨p5, p6, p7, p8⟩ := rm_gt (β := β) (n := n) (k := k + 1) (by omega)
  obtain ⟨p9, p10⟩ := rem_ge (k := k + 1 + 1) p8
  have p5' : rm β n (k + 2) + 1 ≤ rm β n (k + 1) := p5
  have p10' : 1 ≤ rm β n (k + 2) := p10
  have hPx : psC0 (qK β n) (qL β n) E (ps (qK β n) (qL β n) (qI β n) E F) dp ind s (ca + 2) (c + 2) sc at' k = pb (qL β n k) (exs (qK β n) s (k + 2)) fun r => ln (qK β n) (qL β n k) r.1 (r.2.2 ++ gvO E at' k) sc (gvA E at' k) := by
    unfold psC0
    rw [if_neg e46, if_neg e51, if_pos ⟨e3, e19⟩]
  rw [hPx]
  obtain ⟨S5, v, hA5, x1, x2⟩ := zIs_x (q := k + 2) (D := e + 12) hX g0 kxa (zE_wI q1 (by decide)) (rIe _ _ _) ((rIn _ _ (by decide)).trans q3) hk3 (by omega) (by omega) (by omega) (by omega)
  have efk : fl β n (k + 2) = flq (qL β n k) := by
    have e2 : qL β n (k + 2) = qL β n k := p7.trans p3
    rw [← e2]
    rfl
  cases hex : exs (qK β n) s (k + 2) with
  | none =>
    obtain ⟨a1, a2⟩ := x1 hex
    rw [a1] at hA5
    rw [efk] at a2
    exact ⟨S5, nI 0, ml (zCs_9 (d := e + 4) hs6 (by omega) t2 hL hA1 q2 (by omega) e70 (by omega) c2 c3 q2 (by omega) u1 (by omega) (rkd_1.mpr e3) (u5.trans hV) (by omega) c4 hA5), fin (Or.inl ⟨_, zB_in (q := qL β n k) rfl, rfl, a2⟩)⟩
  | some rr =>
    obtain ⟨a1, a2, a30, a4, a5, a6⟩ := x2 rr hex
    have a3 := kX_trans kxa a30
    rw [a1] at hA5
    obtain ⟨y1, y2, y3, y4, y5⟩ := exs_3 hex
    have htk : ∀ j, k ≤ j → j < rr.1 → 3 ≤ qK β n j := fun j j1 j2 => by
      rcases Nat.lt_or_ge j (k + 2) with z | z
      · rcases (show j = k ∨ j = k + 1 by omega) with rfl | rfl <;> omega
      · exact y1 j z j2
    have hrk := r_k1 hX q7 htk
    obtain ⟨v1, v2, v3, v4⟩ := rm_run (β := β) (n := n) (k := k) (k1 := rr.1) (by omega) htk
    have zx := a2 X (X 2 - 1)
    have hEx := zx.1
    rw [zbk_n _ _ _ a4] at hEx
    by_cases e2 : qK β n rr.1 = 2
    · have c6 := z_nlT (d := e + 3) hX hEx zx.2.1 hrk e2
      have zn := zO_at zx (rr.1 + 1)
      have hAtx : zAt (qK β n) V af at' (wI 6115 (nI (rr.1 + 1)) S5) := ⟨(rIn _ _ (by decide)).trans ((kX_nx a3 (by decide)).trans hAt0.1), fun i k hi => by
        show sA S5 84 (af + i) = _ ∧ _
        rw [(a3.2.1 84 (by decide) (by decide) (by decide) (by decide)).1]
        exact hAt0.2 i k hi⟩
      obtain ⟨S7, hA7, z7, b7, i7, d7, n7, w7, nw7, nt7, l7, l8⟩ := z_give (d := e + 3) (kk := k) hX hE zn hAtx ((rIn _ _ (by decide)).trans ((kX_nx a3 (by decide)).trans c73)) e3 hV hr (by omega) q12 (by omega) (by omega)
      have hG := zG_l1 (r := rr.1) hX g0 hI (zO_pre z7 (kW_wI _ _ _ _ _) kA_wI) (fun i hi => by
        have hi' := hi
        simp only [List.mem_cons, List.not_mem_nil, or_false] at hi'
        rw [i7 i (by omega) (by omega) (by omega) (by omega) (by omega) (by omega), rIn _ _ (by omega)]
        exact kX_nx a3 (by
          simp only [List.mem_cons, List.not_mem_nil, or_false]
          omega)) b7 l7 l8 (zDf_E (zDf_X q5 a3) d7) (n60_app.mpr ⟨a4, n7⟩) (by rw [wR_app]; omega) (by rw [nwN_app, nw7]; omega) (by rw [ntN_app, nt7]; omega) htk (by omega) e2
      refine ⟨S7, nI 1, ml (zCs_7 (d := e + 4) hs6 (by omega) t2 hL hA1 q2 (by omega) e70 (by omega) c2 c3 q2 (by omega) u1 (by omega) (rkd_1.mpr e3) (u5.trans hV) (by omega) c4 hA5 c6 hA7), fin (Or.inr ⟨(rr.1 + 1, rr.2.2 ++ gvO E at' k, sc, gvA E at' k), ?_, rfl, hG⟩)⟩
      show ln (qK β n) (qL β n k) rr.1 (rr.2.2 ++ gvO E at' k) sc (gvA E at' k) = _
      unfold ln
      rw [if_pos e2]
    · obtain ⟨c6, b2⟩ := z_nlF (d := e + 3) (W := W) hX hEx zx.2.1 zx.2.2.1 hrk e2 (by omega) (by omega) (by omega)
      have ef : fl β n rr.1 = flq (qL β n k) := by rw [← v2]; rfl
      rw [ef] at c6 b2
      refine ⟨_, nI 0, ml (zCs_8 (d := e + 4) hs6 (by omega) t2 hL hA1 q2 (by omega) e70 (by omega) c2 c3 q2 (by omega) u1 (by omega) (rkd_1.mpr e3) (u5.trans hV) (by omega) c4 hA5 c6), fin (Or.inl ⟨_, ?_, rfl, b2⟩)⟩
      show zBd β n opn (dp + 1) (ln (qK β n) (qL β n k) rr.1 (rr.2.2 ++ gvO E at' k) sc (gvA E at' k)) _
      unfold ln
      rw [if_neg e2]
      exact zB_in (q := qL β n k) rfl
end
