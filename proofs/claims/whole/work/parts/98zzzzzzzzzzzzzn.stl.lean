/-! CALLS: the statement behind the beginning of a call tells the line on both sides -/
/-- a step of both behind the beginning of a call -/
def stpn (St : (Nat → Prop) → cS → Prop) (F : Nat → Nat → Nat → Prop) (loc par : Nat → Nat → Nat) (G : Nat → Nat → Nat → Nat × Nat × LL → Prop) (tq : Nat → Nat × Nat) (w : Nat → Int32) (pT d : Nat) (C : List Lv) (S : cS) (ok : List Lv → Prop) : Prop :=
  (∃ (ty' : Nat → Nat × Nat) (tq' : Nat → Nat × Nat) (C' : List Lv) (S' : cS), ok C' ∧ tnC d S S' ∧ CI F loc par ty' G tq' C' S' ∧ (sI S' 5216 = nI (hP C') ∧ PC w pT S' ∧ clk S' ∧ ∃ s, sI S 5218 = nI s ∧ CFw (wI 5218 (nI (s + 1)) S) S') ∧ ∀ P T gT Q β D z nn g0 g1 g3 g4 g5 gn Sr, St P T → (∀ e, e < 2 ^ 20 → XR P T gT Q β F D z nn g0 g1 g3 g4 g5 gn tq C (wI 5217 (nI e) S) (wA 98 (C.length - 1) (nI e) Sr)) → ∃ Q' β' D' nn' h0 h1 h3 h4 h5 hn W, (∃ n, rRn (d + 1) n Sr 1 W) ∧ XR P T gT Q' β' F D' z nn' h0 h1 h3 h4 h5 hn tq' C' S' W) ∨ ∃ (e : Nat) (ty' : Nat → Nat × Nat) (x' : Lv) (r' : List Lv) (S' : cS), e = 100 ∧ tnE' d S S' e ∧ CI F loc par ty' G tq (x' :: r') S' ∧ (PC w pT S' ∧ clk S' ∧ CFw S S') ∧ ∀ P T gT Q β D z nn g0 g1 g3 g4 g5 gn Sr, St P T → (∀ e, e < 2 ^ 20 → XR P T gT Q β F D z nn g0 g1 g3 g4 g5 gn tq C (wI 5217 (nI e) S) (wA 98 (C.length - 1) (nI e) Sr)) → ∃ Q' β' D' nn' h0 h1 h3 h4 h5 hn W, (∃ n, rRn (d + 1) n Sr 0 W) ∧ sI W 6164 = nI e ∧ XRe P T gT Q' β' F D' z nn' h0 h1 h3 h4 h5 hn tq x' r' S' W
theorem wA_cm {a b i j : Nat} {x y : Int32} {S : cS} (h : a ≠ b) : wA a i x (wA b j y S) = wA b j y (wA a i x S) := by
  have h' : ∀ c : Nat, (if c = a then upd (sA (wA b j y S) a) i x else sA (wA b j y S) c) = (if c = b then upd (sA (wA a i x S) b) j y else sA (wA a i x S) c) := fun c => by
    have e1 : sA (wA b j y S) a = sA S a := if_neg h
    have e2 : sA (wA a i x S) b = sA S b := if_neg (fun c => h c.symm)
    rw [e1, e2]
    show (if c = a then upd (sA S a) i x else (if c = b then upd (sA S b) j y else sA S c)) = (if c = b then upd (sA S b) j y else (if c = a then upd (sA S a) i x else sA S c))
    by_cases h1 : c = a
    · rw [if_pos h1, if_neg (fun c2 => h (h1 ▸ c2)), if_pos h1]
    · rw [if_neg h1]
      by_cases h2 : c = b
      · rw [if_pos h2, if_pos h2]
      · rw [if_neg h2, if_neg h2, if_neg h1]
  unfold wA
  exact congrArg (fun f => (S.1, S.2.1, f, S.2.2.2)) (funext h')
section
variable {P : Nat → Prop} {T : cS} {gT : Nat} {Q : Nat → Prop} {β β' : Nat → Nat} {F : Nat → Nat → Nat → Prop} {loc par : Nat → Nat → Nat} {ty : Nat → Nat × Nat} {G : Nat → Nat → Nat → Nat × Nat × LL → Prop} {D D' K : List Nat} {z nn g0 g1 g3 g4 g5 gn d d' v n m p q p' q' pT k e e1 oc ln : Nat} {tq : Nat → Nat × Nat} {C r : List Lv} {x : Lv} {S S' S1 X W Sc Sr : cS} {w : Nat → Int32} {s' : Nat × Nat × LL} {St : (Nat → Prop) → cS → Prop} {ok : List Lv → Prop}
theorem rwS_98 {k e : Int32} (h : rwS (wA 98 n k S) m q e) : rwS S m q e := by
  obtain ⟨a, N, zm, h1, h2, h3, h4, h5, h6, h7, h8⟩ := h
  have : sA (wA 98 n k S) a = sA S a := if_neg (by omega)
  rw [this] at h8
  exact ⟨a, N, zm, h1, h2, h3, h4, h5, h6, h7, h8⟩
theorem stat_L (h : CI F loc par ty G tq (x :: r) S) (hpc : PC w pT S) (hck : clk S) (h5 : sI S 5216 = nI (vP x)) (hp : vP x + 1 < pT) (hw0 : w (vP x) = nI 1) (hw1 : w (vP x + 1) = nI ln) (hln : ln < 2 ^ 20) (hq' : vQ x + 2 < 2 ^ 20) (hr : ∀ P T, St P T → rwT P T (vM x) (vQ x) (nI 0) ∧ rwT P T (vM x) (vQ x + 1) (nI ln)) (hok : ok (vAt x (vP x + 2) (vQ x + 2) (vS x) :: r)) : stpn St F loc par G tq w pT (d + 9) (x :: r) S ok := by
  have m350 := ml_350
  have hr1 := rd_T (d := d + 7) hpc h5 (by omega)
  rw [hw0] at hr1
  have hr30 : r.length ≤ 30 := h.2.2.2.2.2.2.1.2.2.2
  obtain ⟨o1, o2⟩ := opd_1 hpc hp
  obtain ⟨s, f, k1, k2, k3, k4⟩ := hck
  have e8 : sI (wI 5216 (nI (vP x + 1)) S) 5218 = nI s := by rw [rI, if_neg (by decide : (5218 : Nat) ≠ 5216)]; exact k1
  have e9 : sI (wI 5216 (nI (vP x + 1)) S) 5219 = nI f := by rw [rI, if_neg (by decide : (5219 : Nat) ≠ 5216)]; exact k2
  have hck : clk S := ⟨s, f, k1, k2, k3, k4⟩
  have hC : CI F loc par ty G tq (vAt x (vP x + 2) (vQ x + 2) (vS x) :: r) (wI 5217 (nI ln) (wI 5216 (nI (vP x + 2)) (wI 5216 (nI (vP x + 1)) S))) := CI_fI (CI_pl (CI_pl (CI_at h (vP x + 2) (vQ x + 2)))) (Or.inl rfl)
  have hP1 : PC w pT (wI 5217 (nI ln) (wI 5216 (nI (vP x + 2)) (wI 5216 (nI (vP x + 1)) S))) := PC_I (PC_I (PC_I hpc (by decide)) (by decide)) (by decide)
  have hK1 : clk (wI 5217 (nI ln) (wI 5216 (nI (vP x + 2)) (wI 5216 (nI (vP x + 1)) S))) := clk_I (clk_I (clk_I hck (by decide) (by decide)) (by decide) (by decide)) (by decide) (by decide)
  have hF1 : CFw S (wI 5217 (nI ln) (wI 5216 (nI (vP x + 2)) (wI 5216 (nI (vP x + 1)) S))) := ((CFw_I (by decide)).trans (CFw_I (by decide))).trans (CFw_I (by decide))
  have ref : ∀ {P T gT Q β D z nn g0 g1 g3 g4 g5 gn Sr}, St P T → (∀ e, e < 2 ^ 20 → XR P T gT Q β F D z nn g0 g1 g3 g4 g5 gn tq (x :: r) (wI 5217 (nI e) S) (wA 98 ((x :: r).length - 1) (nI e) Sr)) → XR P T gT Q β F D z nn g0 g1 g3 g4 g5 gn tq (vAt x (vP x + 2) (vQ x + 2) (vS x) :: r) (wI 5217 (nI ln) (wI 5216 (nI (vP x + 2)) (wI 5216 (nI (vP x + 1)) S))) (wA 98 r.length (nI ln) (wA 95 r.length (nI (vQ x + 2)) Sr)) ∧ sI (wA 98 r.length (nI ln) (wA 95 r.length (nI (vQ x + 2)) Sr)) 6166 = nI s ∧ sI (wA 98 r.length (nI ln) (wA 95 r.length (nI (vQ x + 2)) Sr)) 6165 = nI f ∧ tpS Sr r.length (vM x) (vQ x) ∧ rwS Sr (vM x) (vQ x) (nI 0) ∧ rwS Sr (vM x) (vQ x + 1) (nI ln) := fun {P T gT Q β D z nn g0 g1 g3 g4 g5 gn Sr} hS hX => by
    have hX0 := hX ln hln
    have hm := hX0.2.2.2.2.2.2.2.2.1.1
    have a1 := XR_ln (ln := ln) (XR_pl (k := nI (vP x + 2)) (XR_pl (k := nI (vP x + 1)) (XR_at hX0 hq' (vP x + 2)))) hln
    rw [wI_comm _ _ _ (by decide : (5216 : Nat) ≠ 5217), wI_comm _ _ _ (by decide : (5216 : Nat) ≠ 5217), wI_wI, wA_cm (by decide : (95 : Nat) ≠ 98)] at a1
    have e0 : (x :: r).length - 1 = r.length := rfl
    rw [e0, wA_wA'] at a1
    refine ⟨a1, Eq.trans ?_ k1, Eq.trans ?_ k2, ?_, rwS_98 (rw_of hX0 (hr P T hS).1), rwS_98 (rw_of hX0 (hr P T hS).2)⟩
    · have := hm.1
      exact this
    · have := hm.2
      exact this
    · have := XR_top hX0
      exact this
  have wr : ∀ {Sr : cS}, rwS Sr (vM x) (vQ x) (nI 0) → rwS Sr (vM x) (vQ x + 1) (nI ln) → ∃ a N zm, 108 ≤ vM x ∧ (sS Sr)[vM x - 108]? = some (12, zm) ∧ sV Sr (100 * vM x + 0) = .ref a ∧ isK Sr a 0 N ∧ N < 2 ^ 20 ∧ vQ x < N ∧ sA Sr a (vQ x) = nI 0 ∧ vQ x + 1 < N ∧ sA (wA 95 (r.length + 1 - 1) (nI (vQ x + 2)) Sr) a (vQ x + 1) = nI ln := fun {Sr} hw hw2 => by
    obtain ⟨a0, N0, zm0, _, _, h3', _, _, _, _, h8'⟩ := hw
    obtain ⟨a, N, zm, h1, h2, h3, h4, h5, h6, h7, h8⟩ := hw2
    have ea : a0 = a := Value.ref.inj (h3'.symm.trans h3)
    subst ea
    refine ⟨a0, N, zm, h1, h2, h3, h4, h5, by omega, h8', h7, ?_⟩
    show (if a0 = 95 then _ else sA Sr a0) (vQ x + 1) = _
    rw [if_neg (by omega)]
    exact h8
  by_cases c : s < f
  · have hj : Ans (d + 8) 128 [.ref 52, .int (nI 1)] (wI 5216 (nI (vP x + 1)) S) (some (.int (nI 0))) (wI 5218 (nI (s + 1)) (wI 5217 (nI ln) (wI 5216 (nI (vP x + 1 + 1)) (wI 5216 (nI (vP x + 1)) S)))) := flow_statement (d := d + 5) (rIe _ _ _) o1 hp hpc.2.2 (o2.trans hw1) e8 e9 c k4
    refine Or.inl ⟨ty, tq, _, _, hok, flw_C (d := d + 1) hr1 (by omega) (hj.up (by omega)), CI_fI hC (Or.inr rfl), ⟨by rw [rI, if_neg (by decide : (5216 : Nat) ≠ 5218), rI, if_neg (by decide : (5216 : Nat) ≠ 5217), rIe]; rfl, PC_I hP1 (by decide), ⟨s + 1, f, rIe _ _ _, by rw [rI, if_neg (by decide : (5219 : Nat) ≠ 5218), rI, if_neg (by decide : (5219 : Nat) ≠ 5217), rI, if_neg (by decide : (5219 : Nat) ≠ 5216)]; exact e9, c, k4⟩, s, k1, CFw_ck hF1⟩, fun P T gT Q β D z nn g0 g1 g3 g4 g5 gn Sr hS hX => ?_⟩
    obtain ⟨hX1, f1, f2, ⟨t1, t2, t3, t4⟩, hw, hw2⟩ := ref hS hX
    obtain ⟨a, N, zm, h1, h2, h3, h4, hN, h7, h8, h9, h11⟩ := wr hw hw2
    have ee : sI (wA 98 (r.length + 1 - 1) (nI ln) (wA 95 (r.length + 1 - 1) (nI (vQ x + 2)) Sr)) 6166 + nI 1 = nI (s + 1) := by
      rw [show r.length + 1 - 1 = r.length from rfl, f1]
      exact nI_suc s
    refine ⟨Q, β, D, nn, g0, g1, g3, g4, g5, gn, _, rRn_1 (ftR_of ⟨t1, t2, t3, t4⟩ hr30 hw (by omega) (by omega)) (Or.inr rfl) (Ans.of (by rw [m350]; exact Nat.le_of_ble_eq_true rfl) (Bod.lv (by rfl) (rOn_2 (d := d + 1) t1 (by omega) (by omega) t2 t3 h1 t4 h2 h3 h4 hN (by omega) h8 (by omega) rfl h9 h11 (by omega) (by rw [show r.length + 1 - 1 = r.length from rfl, f1, f2]; exact nI_ne (by omega) (by omega) (by omega))))), ?_⟩
    rw [ee]
    exact XR_ck hX1
  · have hj : Ans (d + 8) 128 [.ref 52, .int (nI 1)] (wI 5216 (nI (vP x + 1)) S) (some (.int (nI 100))) (wI 5217 (nI ln) (wI 5216 (nI (vP x + 1 + 1)) (wI 5216 (nI (vP x + 1)) S))) := flow_statement_no (d := d + 5) (rIe _ _ _) o1 hp hpc.2.2 (o2.trans hw1) e8 e9 (by omega) (by omega)
    refine Or.inr ⟨100, ty, _, r, _, by omega, flw_E (d := d + 1) hr1 (by omega) (by omega) (hj.up (by omega)), hC, ⟨hP1, hK1, hF1⟩, fun P T gT Q β D z nn g0 g1 g3 g4 g5 gn Sr hS hX => ?_⟩
    obtain ⟨hX1, f1, f2, ⟨t1, t2, t3, t4⟩, hw, hw2⟩ := ref hS hX
    obtain ⟨a, N, zm, h1, h2, h3, h4, hN, h7, h8, h9, h11⟩ := wr hw hw2
    have es : s = f := by omega
    exact ⟨Q, β, D, nn, g0, g1, g3, g4, g5, gn, _, rRn_1 (ftR_of ⟨t1, t2, t3, t4⟩ hr30 hw (by omega) (by omega)) (Or.inl rfl) (Ans.of (by rw [m350]; exact Nat.le_of_ble_eq_true rfl) (Bod.lv (by rfl) (rOn_1 (d := d + 1) t1 (by omega) (by omega) t2 t3 h1 t4 h2 h3 h4 hN (by omega) h8 (by omega) rfl h9 h11 (by omega) (by rw [show r.length + 1 - 1 = r.length from rfl, f1, f2, es]) (rfail_T (d := d) 100 (by omega) _)))), rIe _ _ _, XRe_I (XR_XRe hX1 (CI_lob hC)) (Or.inl rfl)⟩
end
