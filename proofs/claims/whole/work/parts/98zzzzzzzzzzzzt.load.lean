/-! NAMES ON BOTH SIDES: where a name is, what is read there -/
/-- the words for a name's place: of the class, of the reference -/
def plO (F : Nat → Nat → Nat → Prop) (loc par : Nat → Nat → Nat) (m s q : Nat) (cu ci : Int32) (rn : Nat) (ru ri : Int32) : Prop := F q 0 rn ∧ ((cu = Int32.ofInt (-1) ∧ ru = Int32.ofInt (-1) ∧ ri = nI 0 ∧ ci = nI q) ∨ ∃ u sl, u < 600 ∧ cu = nI u ∧ ci = nI sl ∧ ru = nI u ∧ ri = nI sl ∧ (∀ i, i ≤ u → scPU par m i s ≠ 0) ∧ sl < loc m (scPU par m u s) ∧ sl < 2 ^ 18)
/-- the reference at a name: bound, or not -/
def rdR (d op rn : Nat) (ru ri : Int32) (S : cS) (kd : Int32) (a b : Int64) : Prop := (kd ≠ Int32.ofInt (-1) → ∀ W, Ans (d + 8) 352 [.ref 61, .int kd, .long a, .long b] S none W → Ans (d + 9) 354 [.ref 61, .int (nI op), .int (nI rn), .int ru, .int ri] S (some (.int 1)) W) ∧ (kd = Int32.ofInt (-1) → ∀ (e : Nat) W, e = 0 ∨ e = 1 → Ans (d + 8) 355 [.ref 61, .int (nI op), .int (nI rn)] S (some (.int (nI e))) W → Ans (d + 9) 354 [.ref 61, .int (nI op), .int (nI rn), .int ru, .int ri] S (some (.int (nI e))) W)
section
variable {P : Nat → Prop} {T : cS} {gT : Nat} {Q : Nat → Prop} {β β' : Nat → Nat} {F : Nat → Nat → Nat → Prop} {loc par : Nat → Nat → Nat} {ty : Nat → Nat × Nat} {G : Nat → Nat → Nat → Nat × Nat × LL → Prop} {D D' K : List Nat} {z nn g0 g1 g3 g4 g5 gn d n m p q q' pT k j f c u s ni fr sl dp op nm rn : Nat} {tq : Nat → Nat × Nat} {C r : List Lv} {x : Lv} {S S' Sf S0 S1 X W Sc Sr : cS} {w : Nat → Int32} {hi lo a b e : Int64} {cu ci ru ri kd : Int32} {v : Option Value}
theorem vr_0 (h : vrel β hi lo kd a b) : (c_kind hi = 0 ↔ kd = Int32.ofInt (-1)) ∧ ∃ i, i ≤ 5 ∧ c_kind hi = nI i := by
  by_cases c : c_kind hi = 0
  · refine ⟨⟨fun _ => ?_, fun _ => c⟩, 0, by omega, c⟩
    rcases h with ⟨_, _, h⟩ | ⟨h, _⟩ | ⟨h, _⟩ | ⟨_, n, f, hn, hf, h, _⟩ | ⟨k, _, _, h, _⟩ | ⟨q, _, h, _⟩
    · exact h
    · rw [h] at c; exact absurd c (by decide)
    · rw [h] at c; exact absurd c (by decide)
    · rw [h] at c; unfold c_kind at c; rw [e_kd (by assumption) (fun i hi => by have := hf i hi; omega)] at c; exact absurd c (by decide)
    · rw [h] at c; exact absurd c (by decide)
    · rw [h] at c; exact absurd c (by decide)
  · obtain ⟨e, e1, e2, e3⟩ := vr_k h c
    refine ⟨⟨fun c' => absurd c' c, fun c' => ?_⟩, e + 1, by omega, e3⟩
    rw [e2] at c'
    exact absurd c' (nI_nm1 (by omega))
theorem fr_n (hty : ∀ k, lv S k → tyO F loc par ty S k) (h : ftO ty S m s f) (h0 : s ≠ 0) : lv S f ∧ h_kd S f = 7 ∧ h_n S f = loc m s := by
  obtain ⟨a1, a2, a3, _⟩ := ft_up hty h h0
  refine ⟨a1, a2, ?_⟩
  unfold h_n
  rw [a2, if_neg (by decide), a3]
/-- what both find at a name's place -/
theorem load_C (h : CI F loc par ty G tq (x :: r) S) (hex : exX F tq (x :: r) S) (hpl : plO F loc par (vM x) (vL x).2 q cu ci rn ru ri) : ∃ hi lo, (∃ o, c_obj hi lo = nI o ∧ o ≤ 1500 ∧ (o = 0 ∨ lv S o)) ∧ c_kind hi ≠ nI 5 ∧ (∀ {S0 S1 : cS}, Ans (d + 11) 127 [.ref 52] S0 (some (.int cu)) S1 → Ans (d + 11) 127 [.ref 52] S1 (some (.int ci)) S → (c_kind hi ≠ 0 → ∀ S', Ans (d + 11) 153 [.ref 46, .long hi, .long lo] S none S' → Ans (d + 12) 166 [.ref 52] S0 (some (.int 1)) S') ∧ (c_kind hi = 0 → Ans (d + 12) 166 [.ref 52] S0 (some (.int 0)) S)) ∧ ∀ P T gT Q β D z nn g0 g1 g3 g4 g5 gn Sr, XR P T gT Q β F D z nn g0 g1 g3 g4 g5 gn tq (x :: r) S Sr → ∃ kd a b, vrel β hi lo kd a b ∧ rn < 2 ^ 18 ∧ ∀ op, op = 4 ∨ op = 5 → rdR (d + 3) op rn ru ri Sr kd a b := by
  have m166 := ml_166
  have m354 := ml_354
  obtain ⟨hF, hpl⟩ := hpl
  obtain ⟨P0, T0, gT0, Q0, β0, D0, z0, nn0, k0, k1, k3, k4, k5, kn, Sr0, hX0⟩ := hex
  have hty : ∀ k, lv S k → tyO F loc par ty S k := fun k hk => (h.2.2.2.1 k hk).1
  have hfr : sI S 5215 = nI (vF x) := h.2.2.2.2.2.2.1.2.2.1
  rcases hpl with ⟨e1, e2, e3, e4⟩ | ⟨u, sl, hu, e1, e2, e3, e4, h0, hsl, hsl2⟩
  · subst e1 e2 e3 e4
    have hz := hX0.2.1
    have hq : q < 4096 := by
      have := (hz.2.2.2.2 q rn hF).1
      have := hz.2.1
      omega
    obtain ⟨o, o1, o2, o3⟩ := h.1.2.2.2.2.2.1 q hq
    have rel : ∀ P T gT Q β D z nn g0 g1 g3 g4 g5 gn Sr, XR P T gT Q β F D z nn g0 g1 g3 g4 g5 gn tq (x :: r) S Sr → rn < nn ∧ vrel β (sL S 21 q) (sL S 22 q) (sA Sr g3 rn) (sL Sr g4 rn) (sL Sr g5 rn) := fun P T gT Q β D z nn g0 g1 g3 g4 g5 gn Sr hX => by
      obtain ⟨a1, a2, a3⟩ := hX.2.1.2.2.2.2 q rn hF
      exact ⟨a2, hX.2.1.1.2.2.1 rn q a2 a1 a3⟩
    obtain ⟨i, i5, hi⟩ := (vr_0 (rel _ _ _ _ _ _ _ _ _ _ _ _ _ _ _ hX0).2).2
    have k6 := kindOf_ev (d := d + 10) (S := S) (hi := sL S 21 q)
    rw [hi] at k6
    refine ⟨sL S 21 q, sL S 22 q, ⟨o, o2, o1, o3⟩, h.2.2.2.2.2.2.2.2 q hq, fun {S0 S1} r1 r2 => ⟨fun hk S' hA => ?_, fun hk => ?_⟩, fun P T gT Q β D z nn g0 g1 g3 g4 g5 gn Sr hX => ?_⟩
    · exact Ans.of (by rw [m166]; exact Nat.le_of_ble_eq_true rfl) (Bod.lv (by rfl) (mLd_7 (d := d + 3) r1 r2 ((fupM_C (d := d + 2) hfr).up (by omega)) (by decide) ((nHiOf_T (d := d + 9) hq).up (by omega)) ((nLoOf_T (d := d + 9) hq).up (by omega)) (by omega) k6 (fun c => by rw [hi, c] at hk; exact hk rfl) hA))
    · exact Ans.of (by rw [m166]; exact Nat.le_of_ble_eq_true rfl) (Bod.lv (by rfl) (mLd_8 (d := d + 3) r1 r2 ((fupM_C (d := d + 2) hfr).up (by omega)) (by decide) ((nHiOf_T (d := d + 9) hq).up (by omega)) ((nLoOf_T (d := d + 9) hq).up (by omega)) (by omega) k6 (by rw [hi] at hk; exact nI_j (by omega) (by omega) hk)))
    · obtain ⟨a1, a2⟩ := rel P T gT Q β D z nn g0 g1 g3 g4 g5 gn Sr hX
      obtain ⟨_, ⟨_, _, v3, v4, v5⟩, ⟨_, _, w3, w4, w5⟩, n1, n2, n3, _⟩ := hX.2.2.1
      refine ⟨_, _, _, a2, by omega, fun op hop => ⟨fun hk W hA => ?_, fun hk e W he hA => ?_⟩⟩
      · obtain ⟨y, y1, y2, _⟩ := vr_k a2 (fun c => hk ((vr_0 a2).1.mp c))
        rw [y2] at hA
        exact Ans.of (by rw [m354]; exact Nat.le_of_ble_eq_true rfl) (Bod.lv (by rfl) (rNg_1 (d := d + 3) (by omega) (by omega) (by omega) (by omega) v3 w3 (by omega) (by omega) y2 (by omega) (by omega) v4 w4 (by omega) (by omega) v5 w5 (by omega) (by omega) hA))
      · rcases he with c | c
        · subst c
          exact Ans.of (by rw [m354]; exact Nat.le_of_ble_eq_true rfl) (Bod.lv (by rfl) (rNg_4 (d := d + 3) (by omega) (by omega) (by omega) (by omega) v3 w3 (by omega) (by omega) hk hA))
        · subst c
          exact Ans.of (by rw [m354]; exact Nat.le_of_ble_eq_true rfl) (Bod.lv (by rfl) (rNg_3 (d := d + 3) (by omega) (by omega) (by omega) (by omega) v3 w3 (by omega) (by omega) hk hA))
  · subst e1 e2 e3 e4
    have h00 : (vL x).2 ≠ 0 := h0 0 (Nat.zero_le _)
    obtain ⟨_, hlvOk, _⟩ := h.2.2.2.2.2.1
    have hf0 : vF x ≠ 0 := fun c => h00 (h.2.2.2.2.2.1.1 c)
    obtain ⟨f1, f2, f3, f4⟩ := hlvOk hf0
    have hft : ftO ty S (vM x) (vL x).2 (vF x) := ⟨fun c => absurd c h00, fun _ => ⟨f1, f2, f4⟩⟩
    have hft2 := fup_t hty hft h0
    have h0u := h0 u (Nat.le_refl _)
    obtain ⟨g1', g2', g3'⟩ := fr_n hty hft2 h0u
    have hok := mHS_ok h.1 _ g1'.1 g1'.2.1
    rw [← g3'] at hsl
    obtain ⟨o, o1, o2, o3⟩ := ent_o (i := sl) hok (mHS_cl h.1) g1' hsl
    obtain ⟨n1, n2⟩ := ent_C (d := d + 8) (i := sl) g1' hok hsl
    have rel : ∀ P T gT Q β D z nn g0 g1 g3 g4 g5 gn Sr, XR P T gT Q β F D z nn g0 g1 g3 g4 g5 gn tq (x :: r) S Sr → ∃ t v2 v3 v4 v5 v6 v7 n m, tRef Sr (β (frI S u (vF x))) t v2 v3 v4 v5 v6 v7 n m ∧ β (frI S u (vF x)) < 1500 ∧ sl < n ∧ vrel β (h_hi S (frI S u (vF x)) sl) (h_lo S (frI S u (vF x)) sl) (sA Sr v2 sl) (sL Sr v4 sl) (sL Sr v5 sl) := fun P T gT Q β D z nn g0 g1 g3 g4 g5 gn Sr hX => by
      obtain ⟨b1, b2, t, v2, v3, v4, v5, v6, v7, n, m, c1, c2, c3, c4, c5, _⟩ := hX.1.ob g1'
      exact ⟨t, v2, v3, v4, v5, v6, v7, n, m, c1, b1, by omega, c5 sl hsl⟩
    obtain ⟨_, _, _, _, _, _, _, _, _, _, _, _, q0⟩ := rel _ _ _ _ _ _ _ _ _ _ _ _ _ _ _ hX0
    obtain ⟨i, i5, hi⟩ := (vr_0 q0).2
    have k6 := kindOf_ev (d := d + 10) (S := S) (hi := h_hi S (frI S u (vF x)) sl)
    rw [hi] at k6
    have w4 : sm_c1 .ge (nI u) true false = true := k1_ge_T u rfl (by omega)
    refine ⟨_, _, ⟨o, o2, o1, o3⟩, ((h.2.2.2.1 _ g1').2.1 sl hsl).1, fun {S0 S1} r1 r2 => ⟨fun hk S' hA => ?_, fun hk => ?_⟩, fun P T gT Q β D z nn g0 g1 g3 g4 g5 gn Sr hX => ?_⟩
    · exact Ans.of (by rw [m166]; exact Nat.le_of_ble_eq_true rfl) (Bod.lv (by rfl) (mLd_1 (d := d + 3) r1 r2 ((fup_C (d := d + 2) hty hft h0 (by omega) hfr).up (by omega)) w4 (n1.up (by omega)) (n2.up (by omega)) (by omega) k6 (fun c => by rw [hi, c] at hk; exact hk rfl) hA))
    · exact Ans.of (by rw [m166]; exact Nat.le_of_ble_eq_true rfl) (Bod.lv (by rfl) (mLd_2 (d := d + 3) r1 r2 ((fup_C (d := d + 2) hty hft h0 (by omega) hfr).up (by omega)) w4 (n1.up (by omega)) (n2.up (by omega)) (by omega) k6 (by rw [hi] at hk; exact nI_j (by omega) (by omega) hk)))
    · obtain ⟨t, v2, v3, v4, v5, v6, v7, n, m, t1, t2, t3, a2⟩ := rel P T gT Q β D z nn g0 g1 g3 g4 g5 gn Sr hX
      obtain ⟨u1, u2, ⟨NS, u3⟩, u4, _, u6, u7, _, _, y2, _, y4, y5, _, _, y8, _⟩ := t1
      have hrn : rn < 2 ^ 18 := by
        have := (hX.2.1.2.2.2.2 q rn hF).2.1
        obtain ⟨_, _, _, n1, n2, n3, _⟩ := hX.2.2.1
        omega
      obtain ⟨⟨d1, d2, d3, _⟩, _⟩ := hX.2.2.2.2.1
      have e59 : sI Sr 6159 = nI (r.length + 1) := hX.2.2.2.2.2.1.2.1
      have hr30 : r.length ≤ 30 := h.2.2.2.2.2.2.1.2.2.2
      have e96 : sA Sr 96 (r.length + 1 - 1) = nI (β (vF x)) := by
        show sA Sr 96 r.length = _
        rw [d3, if_neg hf0]
      have hb := hX.1.b f1
      refine ⟨_, _, _, a2, hrn, fun op hop => ⟨fun hk W hA => ?_, fun hk e W he hA => ?_⟩⟩
      · obtain ⟨y, y1, y2', _⟩ := vr_k a2 (fun c => hk ((vr_0 a2).1.mp c))
        rw [y2'] at hA
        exact Ans.of (by rw [m354]; exact Nat.le_of_ble_eq_true rfl) (Bod.lv (by rfl) (rNl_1 (d := d + 3) (by omega) (by omega) (by omega) (by omega) e59 (by omega) (by omega) e96 (by omega) (fun lv0 p0 p1 p2 p3 p4 p5 p6 => fupL_R (d := d + 3) hty hX.1 (by omega) (by omega) (by omega) (ni := 0) hft h0 (by omega) (fun lv1 q0 q1 q2 q3 q4 q5 q6 => rNlL_1 (d := d + 3) q0 q1 q2 q3 q4 q5 q6 (by omega) (by omega) (by omega) (by omega) (by omega) (by omega) (Nat.le_refl _) t2 u2 u1 (by omega) u3 u4 y2 y8 t3 y2' (by omega) (by omega) u6 y4 y8 t3 u7 y5 y8 t3 hA) lv0 p0 p1 p2 (by rw [Nat.zero_add]; exact p3) p4 p5 p6)))
      · rcases he with c | c
        · subst c
          exact Ans.of (by rw [m354]; exact Nat.le_of_ble_eq_true rfl) (Bod.lv (by rfl) (rNl_1 (d := d + 3) (by omega) (by omega) (by omega) (by omega) e59 (by omega) (by omega) e96 (by omega) (fun lv0 p0 p1 p2 p3 p4 p5 p6 => fupL_R (d := d + 3) hty hX.1 (by omega) (by omega) (by omega) (ni := 0) hft h0 (by omega) (fun lv1 q0 q1 q2 q3 q4 q5 q6 => rNlL_4 (d := d + 3) q0 q1 q2 q3 q4 q5 q6 (by omega) (by omega) (by omega) (by omega) (by omega) (by omega) (Nat.le_refl _) t2 u2 u1 (by omega) u3 u4 y2 y8 t3 hk hA) lv0 p0 p1 p2 (by rw [Nat.zero_add]; exact p3) p4 p5 p6)))
        · subst c
          exact Ans.of (by rw [m354]; exact Nat.le_of_ble_eq_true rfl) (Bod.lv (by rfl) (rNl_1 (d := d + 3) (by omega) (by omega) (by omega) (by omega) e59 (by omega) (by omega) e96 (by omega) (fun lv0 p0 p1 p2 p3 p4 p5 p6 => fupL_R (d := d + 3) hty hX.1 (by omega) (by omega) (by omega) (ni := 0) hft h0 (by omega) (fun lv1 q0 q1 q2 q3 q4 q5 q6 => rNlL_3 (d := d + 3) q0 q1 q2 q3 q4 q5 q6 (by omega) (by omega) (by omega) (by omega) (by omega) (by omega) (Nat.le_refl _) t2 u2 u1 (by omega) u3 u4 y2 y8 t3 hk hA) lv0 p0 p1 p2 (by rw [Nat.zero_add]; exact p3) p4 p5 p6)))
end
