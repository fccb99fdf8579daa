/-! FLOW ON BOTH SIDES: a statement begins (1, 2 | 0), a line (3 | 42) -/
section
variable {P : Nat → Prop} {T : cS} {gT : Nat} {Q : Nat → Prop} {β β' : Nat → Nat} {F : Nat → Nat → Nat → Prop} {loc par : Nat → Nat → Nat} {ty : Nat → Nat × Nat} {G : Nat → Nat → Nat → Nat × Nat × LL → Prop} {D D' K : List Nat} {z nn g0 g1 g3 g4 g5 gn d d' v n m p q p' q' pT k e e1 oc ln : Nat} {tq : Nat → Nat × Nat} {C r : List Lv} {x : Lv} {S S' S1 X W Sc Sr : cS} {w : Nat → Int32} {s' : Nat × Nat × LL} {St : (Nat → Prop) → cS → Prop} {ok : List Lv → Prop} {a1 a2 : Int32}
/-- two words of the reference's code -/
theorem rw_two (hX : XR P T gT Q β F D z nn g0 g1 g3 g4 g5 gn tq C S Sr) (hw : rwT P T m q a1) (hw2 : rwT P T m (q + 1) a2) : ∃ a N zm, 108 ≤ m ∧ (sS Sr)[m - 108]? = some (12, zm) ∧ sV Sr (100 * m + 0) = .ref a ∧ isK Sr a 0 N ∧ N < 2 ^ 20 ∧ (a < 62 ∨ 106 < a) ∧ q < N ∧ sA Sr a q = a1 ∧ q + 1 < N ∧ sA Sr a (q + 1) = a2 ∧ ∀ (n : Nat) (k : Int32), sA (wA 95 n k Sr) a (q + 1) = a2 := by
  obtain ⟨a0, N0, zm0, h1', h2', h3', h4', h5', h6', h7', h8'⟩ := rw_of hX hw
  obtain ⟨a, N, zm, h1, h2, h3, h4, hN, h6, h7, h8⟩ := rw_of hX hw2
  have ea : a0 = a := Value.ref.inj (h3'.symm.trans h3)
  subst ea
  refine ⟨a0, N, zm, h1, h2, h3, h4, hN, h6, by omega, h8', h7, h8, fun n k => ?_⟩
  show (if a0 = 95 then _ else sA Sr a0) (q + 1) = a2
  rw [if_neg (by omega)]
  exact h8
/-- the class reads an operand -/
theorem opd_1 (hpc : PC w pT S) (hp : vP x + 1 < pT) : sI (wI 5216 (nI (vP x + 1)) S) 2307 = nI pT ∧ sA (wI 5216 (nI (vP x + 1)) S) 24 (vP x + 1) = w (vP x + 1) := ⟨by rw [rI, if_neg (by decide : (2307 : Nat) ≠ 5216)]; exact hpc.2.1, by rw [← hpc.1]; rfl⟩
theorem line_S (h : CI F loc par ty G tq (x :: r) S) (hpc : PC w pT S) (hck : clk S) (h5 : sI S 5216 = nI (vP x)) (hp : vP x + 1 < pT) (hw0 : w (vP x) = nI 3) (hw1 : w (vP x + 1) = nI ln) (hln : ln < 2 ^ 20) (hq' : vQ x + 2 < 2 ^ 20) (hr : ∀ P T, St P T → rwT P T (vM x) (vQ x) (nI 42) ∧ rwT P T (vM x) (vQ x + 1) (nI ln)) (hok : ok (vAt x (vP x + 2) (vQ x + 2) (vS x) :: r)) : stp St F loc par G tq w pT (d + 8) (x :: r) S ok := by
  have m350 := ml_350
  have hr1 := rd_T (d := d + 6) hpc h5 (by omega)
  rw [hw0] at hr1
  have hr30 : r.length ≤ 30 := h.2.2.2.2.2.2.1.2.2.2
  obtain ⟨o1, o2⟩ := opd_1 hpc hp
  have hj := flow_line (d := d + 5) (S := wI 5216 (nI (vP x + 1)) S) (q := vP x + 1) (p := pT) (x := ln) (rIe _ _ _) o1 hp hpc.2.2 (o2.trans hw1)
  refine Or.inl ⟨ty, tq, _, _, hok, flw_C hr1 (by omega) hj, CI_fI (CI_pl (CI_pl (CI_at h (vP x + 2) (vQ x + 2)))) (Or.inl rfl), ⟨by rw [rI, if_neg (by decide : (5216 : Nat) ≠ 5217), rIe]; rfl, PC_I (PC_I (PC_I hpc (by decide)) (by decide)) (by decide), clk_I (clk_I (clk_I hck (by decide) (by decide)) (by decide) (by decide)) (by decide) (by decide), ((CFw_I (by decide)).trans (CFw_I (by decide))).trans (CFw_I (by decide))⟩, fun P T gT Q β D z nn g0 g1 g3 g4 g5 gn Sr hS hX => ?_⟩
  obtain ⟨hw, hw2⟩ := hr P T hS
  obtain ⟨t1, t2, t3, t4⟩ := XR_top hX
  obtain ⟨a, N, zm, h1, h2, h3, h4, hN, h6, h7, h8, h9, h10, h11⟩ := rw_two hX hw hw2
  exact ⟨Q, β, D, nn, g0, g1, g3, g4, g5, gn, _, rRn_1 (ftR_of ⟨t1, t2, t3, t4⟩ hr30 (rw_of hX hw) (by omega) (by omega)) (Or.inr rfl) (Ans.of (by rw [m350]; exact Nat.le_of_ble_eq_true rfl) (Bod.lv (by rfl) (rOn_33 (d := d) t1 (by omega) (by omega) t2 t3 h1 t4 h2 h3 h4 hN (by omega) h8 (by omega) rfl h9 (h11 _ _) (by omega)))), XR_ln (XR_pl (XR_pl (XR_at hX hq' (vP x + 2)))) hln⟩
theorem statement_S (h : CI F loc par ty G tq (x :: r) S) (hpc : PC w pT S) (hck : clk S) (h5 : sI S 5216 = nI (vP x)) (hp : vP x + 1 < pT) (ho : oc = 1 ∨ oc = 2) (hw0 : w (vP x) = nI oc) (hw1 : w (vP x + 1) = nI ln) (hln : ln < 2 ^ 20) (hq' : vQ x + 2 < 2 ^ 20) (hr : ∀ P T, St P T → rwT P T (vM x) (vQ x) (nI 0) ∧ rwT P T (vM x) (vQ x + 1) (nI ln)) (hok : ok (vAt x (vP x + 2) (vQ x + 2) (vS x) :: r)) : stps St F loc par G tq w pT (d + 9) (x :: r) S ok := by
  have m350 := ml_350
  have hr1 := rd_T (d := d + 7) hpc h5 (by omega)
  rw [hw0] at hr1
  have hr30 : r.length ≤ 30 := h.2.2.2.2.2.2.1.2.2.2
  obtain ⟨o1, o2⟩ := opd_1 hpc hp
  obtain ⟨s, f, k1, k2, k3, k4⟩ := hck
  have e8 : sI (wI 5216 (nI (vP x + 1)) S) 5218 = nI s := by rw [rI, if_neg (by decide : (5218 : Nat) ≠ 5216)]; exact k1
  have e9 : sI (wI 5216 (nI (vP x + 1)) S) 5219 = nI f := by rw [rI, if_neg (by decide : (5219 : Nat) ≠ 5216)]; exact k2
  have hck : clk S := ⟨s, f, k1, k2, k3, k4⟩
  have hC : CI F loc par ty G tq (vAt x (vP x + 2) (vQ x + 2) (vS x) :: r) (wI 5217 (nI ln) (wI 5216 (nI (vP x + 2)) (wI 5216 (nI (vP x + 1)) S))) := CI_fI (CI_pl (CI_pl (CI_at h (vP x + 2) (vQ x + 2)))) (Or.inl rfl)
  have hP1 : PC w pT (wI 5217 (nI ln) (wI 5216 (nI (vP x + 2)) (wI 5216 (nI (vP x + 1)) S))) := PC_I (PC_I (PC_I hpc (by decide)) (by decide)) (by decide)
  have hK1 : clk (wI 5217 (nI ln) (wI 5216 (nI (vP x + 2)) (wI 5216 (nI (vP x + 1)) S))) := clk_I (clk_I (clk_I hck (by decide) (by decide)) (by decide) (by decide)) (by decide) (by decide)
  have hF1 : CFw S (wI 5217 (nI ln) (wI 5216 (nI (vP x + 2)) (wI 5216 (nI (vP x + 1)) S))) := ((CFw_I (by decide)).trans (CFw_I (by decide))).trans (CFw_I (by decide))
  have ref : ∀ {P T gT Q β D z nn g0 g1 g3 g4 g5 gn Sr}, St P T → XR P T gT Q β F D z nn g0 g1 g3 g4 g5 gn tq (x :: r) S Sr → XR P T gT Q β F D z nn g0 g1 g3 g4 g5 gn tq (vAt x (vP x + 2) (vQ x + 2) (vS x) :: r) (wI 5217 (nI ln) (wI 5216 (nI (vP x + 2)) (wI 5216 (nI (vP x + 1)) S))) (wA 98 r.length (nI ln) (wA 95 r.length (nI (vQ x + 2)) Sr)) ∧ sI (wA 98 r.length (nI ln) (wA 95 r.length (nI (vQ x + 2)) Sr)) 6166 = nI s ∧ sI (wA 98 r.length (nI ln) (wA 95 r.length (nI (vQ x + 2)) Sr)) 6165 = nI f := fun {P T gT Q β D z nn g0 g1 g3 g4 g5 gn Sr} hS hX => by
    have hm := hX.2.2.2.2.2.2.2.2.1.1
    exact ⟨XR_ln (XR_pl (XR_pl (XR_at hX hq' (vP x + 2)))) hln, hm.1.trans k1, hm.2.trans k2⟩
  by_cases c : s < f
  · have hj : Ans (d + 8) 128 [.ref 52, .int (nI oc)] (wI 5216 (nI (vP x + 1)) S) (some (.int (nI 0))) (wI 5218 (nI (s + 1)) (wI 5217 (nI ln) (wI 5216 (nI (vP x + 1 + 1)) (wI 5216 (nI (vP x + 1)) S)))) := by
      rcases ho with c' | c'
      · subst c'
        exact flow_statement (d := d + 5) (rIe _ _ _) o1 hp hpc.2.2 (o2.trans hw1) e8 e9 c k4
      · subst c'
        exact flow_back (d := d + 5) (rIe _ _ _) o1 hp hpc.2.2 (o2.trans hw1) e8 e9 c k4
    refine Or.inl ⟨ty, tq, _, _, hok, flw_C (d := d + 1) hr1 (by omega) (hj.up (by omega)), CI_fI hC (Or.inr rfl), ⟨by rw [rI, if_neg (by decide : (5216 : Nat) ≠ 5218), rI, if_neg (by decide : (5216 : Nat) ≠ 5217), rIe]; rfl, PC_I hP1 (by decide), ⟨s + 1, f, rIe _ _ _, by rw [rI, if_neg (by decide : (5219 : Nat) ≠ 5218), rI, if_neg (by decide : (5219 : Nat) ≠ 5217), rI, if_neg (by decide : (5219 : Nat) ≠ 5216)]; exact e9, c, k4⟩, s, k1, CFw_ck hF1⟩, fun P T gT Q β D z nn g0 g1 g3 g4 g5 gn Sr hS hX => ?_⟩
    obtain ⟨hw, hw2⟩ := hr P T hS
    obtain ⟨t1, t2, t3, t4⟩ := XR_top hX
    obtain ⟨a, N, zm, h1, h2, h3, h4, hN, h6, h7, h8, h9, h10, h11⟩ := rw_two hX hw hw2
    obtain ⟨hX1, f1, f2⟩ := ref hS hX
    have ee : sI (wA 98 (r.length + 1 - 1) (nI ln) (wA 95 (r.length + 1 - 1) (nI (vQ x + 2)) Sr)) 6166 + nI 1 = nI (s + 1) := by
      rw [show r.length + 1 - 1 = r.length from rfl, f1]
      exact nI_suc s
    refine ⟨Q, β, D, nn, g0, g1, g3, g4, g5, gn, _, rRn_1 (ftR_of ⟨t1, t2, t3, t4⟩ hr30 (rw_of hX hw) (by omega) (by omega)) (Or.inr rfl) (Ans.of (by rw [m350]; exact Nat.le_of_ble_eq_true rfl) (Bod.lv (by rfl) (rOn_2 (d := d + 1) t1 (by omega) (by omega) t2 t3 h1 t4 h2 h3 h4 hN (by omega) h8 (by omega) rfl h9 (h11 _ _) (by omega) (by rw [show r.length + 1 - 1 = r.length from rfl, f1, f2]; exact nI_ne (by omega) (by omega) (by omega))))), ?_⟩
    rw [ee]
    exact XR_ck hX1
  · have hj : Ans (d + 8) 128 [.ref 52, .int (nI oc)] (wI 5216 (nI (vP x + 1)) S) (some (.int (nI 100))) (wI 5217 (nI ln) (wI 5216 (nI (vP x + 1 + 1)) (wI 5216 (nI (vP x + 1)) S))) := by
      rcases ho with c' | c'
      · subst c'
        exact flow_statement_no (d := d + 5) (rIe _ _ _) o1 hp hpc.2.2 (o2.trans hw1) e8 e9 (by omega) (by omega)
      · subst c'
        exact flow_back_no (d := d + 5) (rIe _ _ _) o1 hp hpc.2.2 (o2.trans hw1) e8 e9 (by omega) (by omega)
    refine Or.inr ⟨100, ty, _, r, _, by omega, flw_E (d := d + 1) hr1 (by omega) (by omega) (hj.up (by omega)), hC, ⟨hP1, hK1, hF1⟩, fun P T gT Q β D z nn g0 g1 g3 g4 g5 gn Sr hS hX => ?_⟩
    obtain ⟨hw, hw2⟩ := hr P T hS
    obtain ⟨t1, t2, t3, t4⟩ := XR_top hX
    obtain ⟨a, N, zm, h1, h2, h3, h4, hN, h6, h7, h8, h9, h10, h11⟩ := rw_two hX hw hw2
    obtain ⟨hX1, f1, f2⟩ := ref hS hX
    have es : s = f := by omega
    exact ⟨Q, β, D, nn, g0, g1, g3, g4, g5, gn, _, rRn_1 (ftR_of ⟨t1, t2, t3, t4⟩ hr30 (rw_of hX hw) (by omega) (by omega)) (Or.inl rfl) (Ans.of (by rw [m350]; exact Nat.le_of_ble_eq_true rfl) (Bod.lv (by rfl) (rOn_1 (d := d + 1) t1 (by omega) (by omega) t2 t3 h1 t4 h2 h3 h4 hN (by omega) h8 (by omega) rfl h9 (h11 _ _) (by omega) (by rw [show r.length + 1 - 1 = r.length from rfl, f1, f2, es]) (rfail_T (d := d) 100 (by omega) _)))), rIe _ _ _, XRe_I (XR_XRe hX1 (CI_lob hC)) (Or.inl rfl)⟩
end
