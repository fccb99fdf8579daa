/-! NAMES ON BOTH SIDES: LOAD (18 | 4), CALLEE (21 | 5) -/
section
variable {P : Nat → Prop} {T : cS} {gT : Nat} {Q : Nat → Prop} {β β' : Nat → Nat} {F : Nat → Nat → Nat → Prop} {loc par : Nat → Nat → Nat} {ty : Nat → Nat × Nat} {G : Nat → Nat → Nat → Nat × Nat × LL → Prop} {D D' K : List Nat} {z nn g0 g1 g3 g4 g5 gn d n m p q q' pT k j f c u s ni fr sl dp op nm rn bi : Nat} {tq : Nat → Nat × Nat} {C r : List Lv} {x : Lv} {S S' Sf S0 S1 X W Sc Sr : cS} {w : Nat → Int32} {St : (Nat → Prop) → cS → Prop} {ok : List Lv → Prop} {hi lo a b e : Int64} {cu ci ru ri kd : Int32} {v : Option Value}
theorem exX_opd (h : exX F tq (x :: r) S) (hS1 : S1 = wI 5216 (nI p) S) (hq : q < 2 ^ 20) (p' : Nat) : exX F tq (vAt x p' q (vS x) :: r) S1 := by
  obtain ⟨P, T, gT, Q, β, D, z, nn, g0, g1, g3, g4, g5, gn, Sr, hX⟩ := h
  exact ⟨P, T, gT, Q, β, D, z, nn, g0, g1, g3, g4, g5, gn, _, XR_opd hX hS1 hq p'⟩
/-- the reference's words of a name -/
def nmW (P : Nat → Prop) (T : cS) (m q op rn : Nat) (ru ri : Int32) : Prop := rwT P T m q (nI op) ∧ rwT P T m (q + 1) (nI rn) ∧ rwT P T m (q + 2) ru ∧ rwT P T m (q + 3) ri
theorem rw_nm (hX : XR P T gT Q β F D z nn g0 g1 g3 g4 g5 gn tq C S Sr) (hw : nmW P T m q op rn ru ri) : ∃ a N zm, 108 ≤ m ∧ (sS Sr)[m - 108]? = some (12, zm) ∧ sV Sr (100 * m + 0) = .ref a ∧ isK Sr a 0 N ∧ N < 2 ^ 20 ∧ q + 3 < N ∧ sA Sr a q = nI op ∧ ∀ (n : Nat) (k : Int32), sA (wA 95 n k Sr) a (q + 1) = nI rn ∧ sA (wA 95 n k Sr) a (q + 2) = ru ∧ sA (wA 95 n k Sr) a (q + 3) = ri := by
  obtain ⟨w1, w2, w3, w4⟩ := hw
  obtain ⟨a0, N0, zm0, _, _, x3, _, _, x6, _, x8⟩ := rw_of hX w1
  obtain ⟨a1, N1, zm1, _, _, y3, _, _, _, _, y8⟩ := rw_of hX w2
  obtain ⟨a2, N2, zm2, _, _, z3, _, _, _, _, z8⟩ := rw_of hX w3
  obtain ⟨a, N, zm, h1, h2, h3, h4, hN, h6, h7, h8⟩ := rw_of hX w4
  have e0 : a0 = a := Value.ref.inj (x3.symm.trans h3)
  have e1 : a1 = a := Value.ref.inj (y3.symm.trans h3)
  have e2 : a2 = a := Value.ref.inj (z3.symm.trans h3)
  rw [e0] at x8
  rw [e1] at y8
  rw [e2] at z8
  refine ⟨_, N, zm, h1, h2, h3, h4, hN, h7, x8, fun n k => ?_⟩
  have e : ∀ i, sA (wA 95 n k Sr) a i = sA Sr a i := fun i => by
    show (if a = 95 then _ else sA Sr a) i = _
    rw [if_neg (by omega)]
  exact ⟨(e _).trans y8, (e _).trans z8, (e _).trans h8⟩
/-- once at a name -/
theorem once_nm (hX : XR P T gT Q β F D z nn g0 g1 g3 g4 g5 gn tq (x :: r) S Sr) (hr30 : r.length ≤ 30) (hw : nmW P T (vM x) (vQ x) op rn ru ri) (hop : 4 ≤ op ∧ op ≤ 7) {e : Nat} (he : e = 0 ∨ e = 1) (hA : Ans (d + 8) 354 [.ref 61, .int (nI op), .int (nI rn), .int ru, .int ri] (wA 95 r.length (nI (vQ x + 4)) Sr) (some (.int (nI e))) W) : ∃ n, rRn (d + 9) n Sr (nI e) W := by
  have m350 := ml_350
  obtain ⟨t1, t2, t3, t4⟩ := XR_top hX
  obtain ⟨a, N, zm, g1, g2, g3, g4, gN', g7, g8, g9⟩ := rw_nm hX hw
  have hf := ftR_of (XR_top hX) hr30 (rw_of hX hw.1) (by omega) (by omega)
  obtain ⟨u1, u2, u3⟩ := g9 r.length (nI (vQ x + 4))
  have hA' : Ans (d + 8) 354 [.ref 61, .int (nI op), .int (sA (wA 95 (r.length + 1 - 1) (nI (vQ x + 4)) Sr) a (vQ x + 1)), .int (sA (wA 95 (r.length + 1 - 1) (nI (vQ x + 4)) Sr) a (vQ x + 2)), .int (sA (wA 95 (r.length + 1 - 1) (nI (vQ x + 4)) Sr) a (vQ x + 3))] (wA 95 (r.length + 1 - 1) (nI (vQ x + 4)) Sr) (some (.int (nI e))) W := by
    show Ans (d + 8) 354 [.ref 61, .int (nI op), .int (sA (wA 95 r.length (nI (vQ x + 4)) Sr) a (vQ x + 1)), .int (sA (wA 95 r.length (nI (vQ x + 4)) Sr) a (vQ x + 2)), .int (sA (wA 95 r.length (nI (vQ x + 4)) Sr) a (vQ x + 3))] (wA 95 r.length (nI (vQ x + 4)) Sr) (some (.int (nI e))) W
    rw [u1, u2, u3]
    exact hA
  refine rRn_1 hf (by rcases he with c | c <;> (subst c; first | exact Or.inl rfl | exact Or.inr rfl)) (Ans.of (by rw [m350]; exact Nat.le_of_ble_eq_true rfl) (Bod.lv (by rfl) ?_))
  have h4567 : op = 4 ∨ op = 5 ∨ op = 6 ∨ op = 7 := by omega
  rcases h4567 with c | c | c | c
  · rcases he with c' | c'
    · subst c'
      exact rOn_7 (d := d) t1 (by omega) (by omega) t2 t3 g1 t4 g2 g3 g4 gN' (by omega) g8 (by omega) c (by omega) (by omega) (by omega) hA'
    · subst c'
      exact rOn_6 (d := d) t1 (by omega) (by omega) t2 t3 g1 t4 g2 g3 g4 gN' (by omega) g8 (by omega) c (by omega) (by omega) (by omega) hA'
  · rcases he with c' | c'
    · subst c'
      exact rOn_9 (d := d) t1 (by omega) (by omega) t2 t3 g1 t4 g2 g3 g4 gN' (by omega) g8 (by omega) c (by omega) (by omega) (by omega) hA'
    · subst c'
      exact rOn_8 (d := d) t1 (by omega) (by omega) t2 t3 g1 t4 g2 g3 g4 gN' (by omega) g8 (by omega) c (by omega) (by omega) (by omega) hA'
  · rcases he with c' | c'
    · subst c'
      exact rOn_11 (d := d) t1 (by omega) (by omega) t2 t3 g1 t4 g2 g3 g4 gN' (by omega) g8 (by omega) c (by omega) (by omega) (by omega) hA'
    · subst c'
      exact rOn_10 (d := d) t1 (by omega) (by omega) t2 t3 g1 t4 g2 g3 g4 gN' (by omega) g8 (by omega) c (by omega) (by omega) (by omega) hA'
  · rcases he with c' | c'
    · subst c'
      exact rOn_13 (d := d) t1 (by omega) (by omega) t2 t3 g1 t4 g2 g3 g4 gN' (by omega) g8 (by omega) c (by omega) (by omega) (by omega) hA'
    · subst c'
      exact rOn_12 (d := d) t1 (by omega) (by omega) t2 t3 g1 t4 g2 g3 g4 gN' (by omega) g8 (by omega) c (by omega) (by omega) (by omega) hA'
theorem load_S (h : CI F loc par ty G tq (x :: r) S) (hpc : PC w pT S) (hck : clk S) (h5 : sI S 5216 = nI (vP x)) (hp : vP x + 2 < pT) (hw0 : w (vP x) = nI 18) (hw1 : w (vP x + 1) = cu) (hw2 : w (vP x + 2) = ci) (hex : exX F tq (x :: r) S) (h6 : vH x + 1 ≤ 600) (hq : vQ x + 4 < 2 ^ 20) (hpl : plO F loc par (vM x) (vL x).2 q cu ci rn ru ri) (hr : ∀ P T, St P T → nmW P T (vM x) (vQ x) 4 rn ru ri) (hok : ok (vAt x (vP x + 3) (vQ x + 4) (vH x + 1, vU x, vL x) :: r)) : stp St F loc par G tq w pT (d + 21) (x :: r) S ok := by
  have m161 := ml_161
  have m355 := ml_355
  have hr30 : r.length ≤ 30 := h.2.2.2.2.2.2.1.2.2.2
  have hr1 := rd_T (d := d + 19) hpc h5 (by omega)
  rw [hw0] at hr1
  have hr2 := rd_T (d := d + 17) (PC_I (i := 5216) (k := nI (vP x + 1)) hpc (by decide)) (rIe _ _ _) (by omega)
  rw [hw1, wI_wI] at hr2
  have hr3 := rd_T (d := d + 17) (PC_I (i := 5216) (k := nI (vP x + 1 + 1)) hpc (by decide)) (rIe _ _ _) hp
  rw [hw2, wI_wI] at hr3
  obtain ⟨S1, hS1⟩ : ∃ S1, S1 = wI 5216 (nI (vP x + 3)) S := ⟨_, rfl⟩
  have hr3' : Ans (d + 19) 127 [.ref 52] (wI 5216 (nI (vP x + 1 + 1)) S) (some (.int ci)) S1 := by rw [hS1]; exact hr3
  have h1 := CI_opd h hS1 (vP x + 3) (vQ x + 4)
  have hex1 := exX_opd hex hS1 hq (vP x + 3)
  obtain ⟨hi, lo, ⟨o, o1, o2, o3⟩, k5, hC, hR⟩ := load_C (d := d + 8) h1 hex1 hpl
  obtain ⟨c1, c2⟩ := hC hr2 hr3'
  have ol : o = 0 ∨ lv S o := by rw [hS1] at o3; exact o3
  by_cases k0 : c_kind hi = 0
  · -- there is none
    have ha := c2 k0
    have hb : Ans (d + 21) 161 [.ref 52, .int (nI 18)] (wI 5216 (nI (vP x + 1)) S) (some (.int (nI 1))) S1 := Ans.of (by rw [m161]; exact Nat.le_of_ble_eq_true rfl) (Bod.lv (by rfl) (mNm_4 (d := d + 12) (op := 18) (by omega) rfl ha))
    have ht : tnE' (d + 21) S S1 1 := by
      have he : 1 ≤ 1 ∧ 1 ≤ 100 := by omega
      have hoc : 16 ≤ 18 ∧ 18 ≤ 24 := by omega
      intro tn v Sf S4 b
      exact flw_NE (d := d + 13) hr1 hoc he hb
    refine Or.inr ⟨1, ty, _, r, S1, by omega, ht, h1, ⟨by rw [hS1]; exact PC_I hpc (by decide), by rw [hS1]; exact clk_I hck (by decide) (by decide), by rw [hS1]; exact CFw_I (by decide)⟩, fun P T gT Q β D z nn g0 g1 g3 g4 g5 gn Sr hS hX => ?_⟩
    have hX1 := XR_opd hX hS1 hq (vP x + 3)
    obtain ⟨kd, a, b, hv, hrn, hrd⟩ := hR P T gT Q β D z nn g0 g1 g3 g4 g5 gn _ hX1
    have hA := (hrd 4 (Or.inl rfl)).2 ((vr_0 hv).1.mp k0) 0 _ (Or.inl rfl) (Ans.of (by rw [m355]; exact Nat.le_of_ble_eq_true rfl) (Bod.lv (by rfl) (rNb_1 (d := d + 10) (op := 4) (nm := rn) (by omega) (by omega) (by omega) (rfail_T (d := d + 9) 1 (by omega) (wA 95 r.length (nI (vQ x + 4)) Sr)))))
    exact ⟨Q, β, D, nn, g0, g1, g3, g4, g5, gn, _, once_nm (d := d + 13) hX hr30 (hr P T hS) (by omega) (Or.inl rfl) (hA.up (by omega)), rIe _ _ _, XRe_I (XR_XRe hX1 (CI_lob h1)) (Or.inl rfl)⟩
  · refine psh_S (p0 := vP x + 3) (p := vP x + 3) (q := vQ x + 4) (o := o) (S0 := wI 5216 (nI (vP x + 1)) S) (S1 := S1) h hpc hck (by omega) hr1 hS1 (fun S' _ h52 hA => ?_) o1 o2 ol k0 (Or.inl ⟨rfl, k5⟩) h6 hq (fun P T gT Q β D z nn g0 g1 g3 g4 g5 gn Sr hS hX => ?_) hok
    · rw [wI_id h52]
      have ha := c1 k0 S' (hA.up (by omega))
      exact Ans.of (by rw [m161]; exact Nat.le_of_ble_eq_true rfl) (Bod.lv (by rfl) (mNm_3 (d := d + 12) (op := 18) (by omega) rfl ha))
    · have hX1 := XR_opd hX hS1 hq (vP x + 3)
      obtain ⟨kd, a, b, hv, hrn, hrd⟩ := hR P T gT Q β D z nn g0 g1 g3 g4 g5 gn _ hX1
      refine ⟨kd, a, b, hv, fun W hA => ?_⟩
      have hA2 := (hrd 4 (Or.inl rfl)).1 (fun c => k0 ((vr_0 hv).1.mpr c)) W (hA.up (by omega))
      exact once_nm (d := d + 13) (e := 1) hX hr30 (hr P T hS) (by omega) (Or.inr rfl) (hA2.up (by omega))
end
