/-! NAMES ON BOTH SIDES: frames around -/
def frI (S : cS) : Nat → Nat → Nat
  | 0, f => f
  | u + 1, f => frI S u (gN (sA S 7 f))
def scPU (par : Nat → Nat → Nat) (m : Nat) : Nat → Nat → Nat
  | 0, s => s
  | u + 1, s => scPU par m u (par m s)
section
variable {P : Nat → Prop} {T : cS} {gT : Nat} {Q : Nat → Prop} {β β' : Nat → Nat} {F : Nat → Nat → Nat → Prop} {loc par : Nat → Nat → Nat} {ty : Nat → Nat × Nat} {G : Nat → Nat → Nat → Nat × Nat × LL → Prop} {D D' K : List Nat} {z nn g0 g1 g3 g4 g5 gn d n m p q q' pT k j f c u s ni fr sl dp op nm : Nat} {tq : Nat → Nat × Nat} {C r : List Lv} {x : Lv} {S S' Sf S0 S1 X W Sc Sr : cS} {w : Nat → Int32} {hi lo a b e : Int64} {ei : Int32} {v : Option Value}
theorem mFu_M (hfr : sI S 5215 = nI fr) : Bod (d + 8) 167 0 [(0, .ref 52), (1, .int (Int32.ofInt (-1)))] [] S (some (.int (nI fr))) S := by
  refine Bod.go dc_167_0 rfl ?_
  refine Bod.get dc_167_1 fr_167_78 (mk_52 _) rfl ?_
  refine Bod.eqI (nI fr) hfr ?_
  refine Bod.istn dc_167_4 (by rw [ml_167]; exact Nat.le_of_ble_eq_true rfl) ?_
  refine Bod.ic 0 (by decide) dc_167_5 ?_
  refine Bod.istn dc_167_6 (by rw [ml_167]; exact Nat.le_of_ble_eq_true rfl) ?_
  refine Bod.ildnG dc_167_7 (by repeat (first | exact rfl | exact sm_get_p1 | exact sm_get_p2e | refine sm_get_p1m (by decide) (by decide) ?_ | refine sm_get_p1n (by decide) rfl ?_ | refine sm_get_p2n (by decide) (by decide) rfl ?_)) ?_
  refine Bod.ildnG dc_167_8 (by repeat (first | exact rfl | exact sm_get_p1 | exact sm_get_p2e | refine sm_get_p1m (by decide) (by decide) ?_ | refine sm_get_p1n (by decide) rfl ?_ | refine sm_get_p2n (by decide) (by decide) rfl ?_)) ?_
  refine Bod.icT dc_167_9 rfl (by decide) ?_
  refine Bod.ildnG dc_167_31 (by repeat (first | exact rfl | exact sm_get_p1 | exact sm_get_p2e | refine sm_get_p1m (by decide) (by decide) ?_ | refine sm_get_p1n (by decide) rfl ?_ | refine sm_get_p2n (by decide) (by decide) rfl ?_)) ?_
  exact Bod.retI dc_167_32 rt_167
theorem fupM_C (hfr : sI S 5215 = nI fr) : Ans (d + 9) 167 [.ref 52, .int (Int32.ofInt (-1))] S (some (.int (nI fr))) S := Ans.of (by rw [ml_167]; exact Nat.le_of_ble_eq_true rfl) (Bod.lv (by rfl) (mFu_M hfr))
/-- a frame's next one around -/
theorem ft_up (hty : ∀ k, lv S k → tyO F loc par ty S k) (h : ftO ty S m s f) (h0 : s ≠ 0) : lv S f ∧ h_kd S f = 7 ∧ h_z S f = loc m s ∧ sA S 7 f = nI (gN (sA S 7 f)) ∧ ftO ty S m (par m s) (gN (sA S 7 f)) := by
  obtain ⟨a1, a2, a3⟩ := h.2 h0
  obtain ⟨b1, a, b2, b3, b4, b5⟩ := (hty f a1).2.2.2.2.2 a2
  rw [a3] at b3 b4 b5
  have ha : a < 2 ^ 31 := by
    by_cases c : par m s = 0
    · rw [b5.1 c]; omega
    · have := (b5.2 c).1.2.1; omega
  have e : gN (sA S 7 f) = a := by rw [b2, gN_nI ha]
  exact ⟨a1, kd_of a2 (by omega), b4, by rw [e]; exact b2, by rw [e]; exact b5⟩
theorem fup_t (hty : ∀ k, lv S k → tyO F loc par ty S k) : ∀ {u s f : Nat}, ftO ty S m s f → (∀ i, i ≤ u → scPU par m i s ≠ 0) → ftO ty S m (scPU par m u s) (frI S u f) := by
  intro u
  induction u with
  | zero => intro s f h _; exact h
  | succ u ih =>
    intro s f h h0
    obtain ⟨_, _, _, _, a5⟩ := ft_up hty h (h0 0 (Nat.zero_le _))
    exact ih a5 (fun i hi => h0 (i + 1) (by omega))
theorem fupL_C (hty : ∀ k, lv S k → tyO F loc par ty S k) : ∀ {u s f ni : Nat} {lv1 : sm_L}, ftO ty S m s f → (∀ i, i ≤ u → scPU par m i s ≠ 0) → ni + u < 2 ^ 20 → sm_get lv1 0 = some (.ref 52) → sm_get lv1 1 = some (.int (nI (ni + u))) → sm_get lv1 2 = some (.int (nI f)) → sm_get lv1 3 = some (.int (nI ni)) → Bod (d + 8) 167 7 lv1 [] S (some (.int (nI (frI S u f)))) S := by
  intro u
  induction u with
  | zero =>
    intro s f ni lv1 h h0 hn q0 q1 q2 q3
    have hf := (h.2 (h0 0 (Nat.le_refl _))).1.2.1
    exact mFuL_1 (id := f) q0 q1 q2 q3 hn (by omega) (by omega) (by omega)
  | succ u ih =>
    intro s f ni lv1 h h0 hn q0 q1 q2 q3
    obtain ⟨a1, _, _, a4, a5⟩ := ft_up hty h (h0 0 (Nat.zero_le _))
    have c1 := firstAt_T (d := d + 6) (S := S) a1.1 a1.2.1
    rw [a4] at c1
    have hl : gN (sA S 7 f) < 2 ^ 20 := by
      have := (a5.2 (h0 1 (by omega))).1.2.1
      omega
    have h1 := a1.1
    have h2 := a1.2.1
    exact mFuL_3 q0 q1 q2 q3 hn (by omega) (by omega) (by omega) (by omega) hl c1 (fun lv2 p0 p1 p2 p3 => ih a5 (fun i hi => h0 (i + 1) (by omega)) (by omega) p0 (by rw [p1]; exact congrArg _ (congrArg _ (congrArg _ (by omega)))) p2 p3)
theorem fup_C (hty : ∀ k, lv S k → tyO F loc par ty S k) (h : ftO ty S m s f) (h0 : ∀ i, i ≤ u → scPU par m i s ≠ 0) (hu : u < 2 ^ 20) (hfr : sI S 5215 = nI f) : Ans (d + 9) 167 [.ref 52, .int (nI u)] S (some (.int (nI (frI S u f)))) S := by
  have hf := (h.2 (h0 0 (Nat.zero_le _))).1.2.1
  exact Ans.of (by rw [ml_167]; exact Nat.le_of_ble_eq_true rfl) (Bod.lv (by rfl) (mFu_1 hu hfr (by omega) (fun lv1 p0 p1 p2 p3 => fupL_C hty h h0 (ni := 0) (by omega) p0 (by rw [p1, Nat.zero_add]) p2 p3)))
theorem fupL_R (hty : ∀ k, lv S k → tyO F loc par ty S k) (hX : HR Q β F D S Sr g0 g1 nn) (mop : op < 2 ^ 20) (mnm : nm < 2 ^ 20) (msl : sl < 2 ^ 20) : ∀ {u s f ni : Nat}, ftO ty S m s f → (∀ i, i ≤ u → scPU par m i s ≠ 0) → ni + u < 2 ^ 20 → (∀ lv1, sm_get lv1 0 = some (.ref 61) → sm_get lv1 1 = some (.int (nI op)) → sm_get lv1 2 = some (.int (nI nm)) → sm_get lv1 3 = some (.int (nI (ni + u))) → sm_get lv1 4 = some (.int (nI sl)) → sm_get lv1 5 = some (.int (nI (β (frI S u f)))) → sm_get lv1 6 = some (.int (nI (ni + u))) → Bod (d + 8) 354 140 lv1 [] Sr v Sf) → ∀ lv1, sm_get lv1 0 = some (.ref 61) → sm_get lv1 1 = some (.int (nI op)) → sm_get lv1 2 = some (.int (nI nm)) → sm_get lv1 3 = some (.int (nI (ni + u))) → sm_get lv1 4 = some (.int (nI sl)) → sm_get lv1 5 = some (.int (nI (β f))) → sm_get lv1 6 = some (.int (nI ni)) → Bod (d + 8) 354 140 lv1 [] Sr v Sf := by
  intro u
  induction u with
  | zero =>
    intro s f ni h h0 hn hc lv1 q0 q1 q2 q3 q4 q5 q6
    exact hc lv1 q0 q1 q2 q3 q4 q5 q6
  | succ u ih =>
    intro s f ni h h0 hn hc lv1 q0 q1 q2 q3 q4 q5 q6
    obtain ⟨a1, _, _, a4, a5⟩ := ft_up hty h (h0 0 (Nat.zero_le _))
    obtain ⟨b1, b2, t, v2, v3, v4, v5, v6, v7, n1, m1, c1, c2, c3, c4, c5, c6, c7, c8, c9⟩ := hX.ob a1
    have hl := (a5.2 (h0 1 (by omega))).1
    rw [a4] at c7
    have e11 : sI Sr (100 * t + 11) = nI (β (gN (sA S 7 f))) := by
      rcases c7 with ⟨c, _⟩ | ⟨k, k1, k2, k3, k4⟩
      · have h1 := hl.1
        have h2 := hl.2.1
        exact absurd (nI_j (j := 0) (by omega) (by omega) c) (by omega)
      · have h2 := hl.2.1
        rw [k4, nI_j (by omega) (by omega) k3]
    have hb := hX.b hl
    exact rNlL_6 q0 q1 q2 q3 q4 q5 q6 mop mnm (by omega) msl (by omega) (by omega) (by omega) b1 c1.2.1 c1.1 c1.2.2.1.choose_spec e11 (by omega) (fun lv2 p0 p1 p2 p3 p4 p5 p6 => ih a5 (fun i hi => h0 (i + 1) (by omega)) (by omega) (fun lv3 s0 s1 s2 s3 s4 s5 s6 => hc lv3 s0 s1 s2 (by rw [s3]; exact congrArg _ (congrArg _ (congrArg _ (by omega)))) s4 s5 (by rw [s6]; exact congrArg _ (congrArg _ (congrArg _ (by omega))))) lv2 p0 p1 p2 (by rw [p3]; exact congrArg _ (congrArg _ (congrArg _ (by omega)))) p4 p5 p6)
end
