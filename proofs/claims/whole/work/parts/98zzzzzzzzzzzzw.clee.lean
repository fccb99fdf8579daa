/-! NAMES ON BOTH SIDES: what is to be called (21 | 5) -/
section
variable {P : Nat → Prop} {T : cS} {gT : Nat} {Q : Nat → Prop} {β β' : Nat → Nat} {F : Nat → Nat → Nat → Prop} {loc par : Nat → Nat → Nat} {ty : Nat → Nat × Nat} {G : Nat → Nat → Nat → Nat × Nat × LL → Prop} {D D' K : List Nat} {z nn g0 g1 g3 g4 g5 gn d n m p q q' pT k j f c u s ni fr sl dp op nm rn bi : Nat} {tq : Nat → Nat × Nat} {C r : List Lv} {x : Lv} {S S' Sf S0 S1 X W Sc Sr : cS} {w : Nat → Int32} {St : (Nat → Prop) → cS → Prop} {ok : List Lv → Prop} {hi lo a b e : Int64} {cu ci ru ri kd : Int32} {v : Option Value}
/-- the reference looks whether a name is built in -/
theorem built_R (hX : XR P T gT Q β F D z nn g0 g1 g3 g4 g5 gn tq C S Sr) (hF : F q 0 rn) (hW : Wb S) (h35 : 35 ≤ z) : Ans (d + 10) 356 [.ref 61, .int (nI rn)] Sr (some (.int (if btO q = 0 then Int32.ofInt (-1) else nI (btO q - 1)))) Sr := by
  obtain ⟨⟨n1, n2, n3, n4, n5, n6⟩, z1, ⟨z2, z3⟩, z4, z5⟩ := hX.2.1
  obtain ⟨a1, a2, a3⟩ := z5 q rn hF
  obtain ⟨_, ⟨v0, v1, _⟩, ⟨w0, w1, _⟩, g1', g2', g3', _⟩ := hX.2.2.1
  refine builtOf_T v0 w0 (by omega) v1 w1 (by omega) (by omega) (by omega) (by omega) (n1 rn a2) (fun i hi => ?_)
  refine rNmT_q (n1 rn a2) a3 (z := z) (fun i k hi hk e1 e2 => z4.1 i k hi hk (by rw [← z2]; exact e1) (by rw [← z3]; exact e2)) a1 h35 ?_ hi
  obtain ⟨b1, b2⟩ := hW
  unfold c_is at b1 b2
  exact ⟨fun i hi => by unfold c_is; rw [z2, z3]; exact b1 i hi, by unfold c_is; rw [z2, z3]; exact b2⟩
theorem callee_S (h : CI F loc par ty G tq (x :: r) S) (hpc : PC w pT S) (hck : clk S) (h5 : sI S 5216 = nI (vP x)) (hp : vP x + 3 < pT) (hw0 : w (vP x) = nI 21) (hw1 : w (vP x + 1) = cu) (hw2 : w (vP x + 2) = ci) (hw3 : w (vP x + 3) = nI (btO q)) (hex : exX F tq (x :: r) S) (h6 : vH x + 1 ≤ 600) (hq : vQ x + 4 < 2 ^ 20) (hpl : plO F loc par (vM x) (vL x).2 q cu ci rn ru ri) (hW : Wb S) (h35 : ∀ P T gT Q β D z nn g0 g1 g3 g4 g5 gn Sr, St P T → XR P T gT Q β F D z nn g0 g1 g3 g4 g5 gn tq (x :: r) S Sr → 35 ≤ z) (hr : ∀ P T, St P T → nmW P T (vM x) (vQ x) 5 rn ru ri) (hok : ok (vAt x (vP x + 4) (vQ x + 4) (vH x + 1, vU x, lcl (vH x) (vL x)) :: r)) : stp St F loc par G tq w pT (d + 21) (x :: r) S ok := by
  have m161 := ml_161
  have m176 := ml_176
  have m355 := ml_355
  have hr30 : r.length ≤ 30 := h.2.2.2.2.2.2.1.2.2.2
  have hbt : btO q ≤ 10 := by unfold btO; split <;> omega
  have hr1 := rd_T (d := d + 19) hpc h5 (by omega)
  rw [hw0] at hr1
  have hr2 := rd_T (d := d + 16) (PC_I (i := 5216) (k := nI (vP x + 1)) hpc (by decide)) (rIe _ _ _) (by omega)
  rw [hw1, wI_wI] at hr2
  have hr3 := rd_T (d := d + 16) (PC_I (i := 5216) (k := nI (vP x + 1 + 1)) hpc (by decide)) (rIe _ _ _) (by omega)
  rw [hw2, wI_wI] at hr3
  obtain ⟨S1, hS1⟩ : ∃ S1, S1 = wI 5216 (nI (vP x + 3)) S := ⟨_, rfl⟩
  have hr3' : Ans (d + 18) 127 [.ref 52] (wI 5216 (nI (vP x + 1 + 1)) S) (some (.int ci)) S1 := by rw [hS1]; exact hr3
  have h1 := CI_opd h hS1 (vP x + 3) (vQ x + 4)
  have hex1 := exX_opd hex hS1 hq (vP x + 3)
  have hp1 : PC w pT S1 := by rw [hS1]; exact PC_I hpc (by decide)
  obtain ⟨S2, hS2⟩ : ∃ S2, S2 = wI 5216 (nI (vP x + 4)) S := ⟨_, rfl⟩
  have hr4 := rd_T (d := d + 17) hp1 (by rw [hS1]; exact rIe _ _ _) (by omega)
  have e12 : wI 5216 (nI (vP x + 3 + 1)) S1 = S2 := by rw [hS1, hS2, wI_wI]
  rw [hw3, e12] at hr4
  have h2 := CI_opd h hS2 (vP x + 4) (vQ x + 4)
  obtain ⟨hi, lo, ⟨o, o1, o2, o3⟩, k5, hC, hR⟩ := load_C (d := d + 7) h1 hex1 hpl
  obtain ⟨c1, c2⟩ := hC hr2 hr3'
  have ol : o = 0 ∨ lv S o := by rw [hS1] at o3; exact o3
  have hrb : ∀ {P T gT Q β D z nn g0 g1 g3 g4 g5 gn Sr}, St P T → XR P T gT Q β F D z nn g0 g1 g3 g4 g5 gn tq (x :: r) S Sr → Ans (d + 17) 356 [.ref 61, .int (nI rn)] (wA 95 r.length (nI (vQ x + 4)) Sr) (some (.int (if btO q = 0 then Int32.ofInt (-1) else nI (btO q - 1)))) (wA 95 r.length (nI (vQ x + 4)) Sr) := fun {P T gT Q β D z nn g0 g1 g3 g4 g5 gn Sr} hS hX => built_R (d := d + 7) (XR_opd hX hS1 hq (vP x + 3)) hpl.1 (by rw [hS1]; exact hW) (h35 _ _ _ _ _ _ _ _ _ _ _ _ _ _ _ hS hX)
  by_cases k0 : c_kind hi = 0
  · have ha := c2 k0
    by_cases b0 : btO q = 0
    · -- there is none
      rw [b0] at hr4
      have hce : Ans (d + 20) 176 [.ref 52] (wI 5216 (nI (vP x + 1)) S) (some (.int (nI 1))) S2 := Ans.of (by rw [m176]; exact Nat.le_of_ble_eq_true rfl) (Bod.lv (by rfl) (mCe_3 (d := d + 11) ha (hr4.up (by omega)) (by decide)))
      have hb : Ans (d + 21) 161 [.ref 52, .int (nI 21)] (wI 5216 (nI (vP x + 1)) S) (some (.int (nI 1))) S2 := Ans.of (by rw [m161]; exact Nat.le_of_ble_eq_true rfl) (Bod.lv (by rfl) (mNm_7 (d := d + 12) (op := 21) (by omega) rfl (by omega) hce))
      have ht : tnE' (d + 21) S S2 1 := by
        have he : 1 ≤ 1 ∧ 1 ≤ 100 := by omega
        have hoc : 16 ≤ 21 ∧ 21 ≤ 24 := by omega
        intro tn v Sf S4 b
        exact flw_NE (d := d + 13) hr1 hoc he hb
      refine Or.inr ⟨1, ty, _, r, S2, by omega, ht, h2, ⟨by rw [hS2]; exact PC_I hpc (by decide), by rw [hS2]; exact clk_I hck (by decide) (by decide), by rw [hS2]; exact CFw_I (by decide)⟩, fun P T gT Q β D z nn g0 g1 g3 g4 g5 gn Sr hS hX => ?_⟩
      have hX1 := XR_opd hX hS1 hq (vP x + 3)
      have hX2 := XR_opd hX hS2 hq (vP x + 4)
      obtain ⟨kd, a, b, hv, hrn, hrd⟩ := hR P T gT Q β D z nn g0 g1 g3 g4 g5 gn _ hX1
      have hrb' := hrb hS hX
      rw [b0, if_pos rfl] at hrb'
      have hA := (hrd 5 (Or.inr rfl)).2 ((vr_0 hv).1.mp k0) 0 _ (Or.inl rfl) ((Ans.of (by rw [m355]; exact Nat.le_of_ble_eq_true rfl) (Bod.lv (by rfl) (rNb_3 (d := d + 9) (op := 5) (nm := rn) (by omega) (by omega) rfl hrb' (rfail_T (d := d + 8) 1 (by omega) (wA 95 r.length (nI (vQ x + 4)) Sr))))))
      exact ⟨Q, β, D, nn, g0, g1, g3, g4, g5, gn, _, once_nm (d := d + 13) hX hr30 (hr P T hS) (by omega) (Or.inl rfl) (hA.up (by omega)), rIe _ _ _, XRe_I (XR_XRe hX2 (CI_lob h2)) (Or.inl rfl)⟩
    · -- a built-in name
      refine psh_S (p0 := vP x + 4) (p := vP x + 4) (q := vQ x + 4) (o := 0) (hi := 5764607523034234880) (lo := (nI (btO q)).toInt64) (S0 := wI 5216 (nI (vP x + 1)) S) (S1 := S2) h hpc hck (by omega) hr1 hS2 (fun S' _ h52 hA => ?_) (ob_0 (by decide)) (by omega) (Or.inl rfl) (by decide) (Or.inr rfl) h6 hq (fun P T gT Q β D z nn g0 g1 g3 g4 g5 gn Sr hS hX => ?_) hok
      · rw [wI_id h52]
        have hce : Ans (d + 20) 176 [.ref 52] (wI 5216 (nI (vP x + 1)) S) (some (.int (nI 0))) S' := Ans.of (by rw [m176]; exact Nat.le_of_ble_eq_true rfl) (Bod.lv (by rfl) (mCe_2 (d := d + 11) ha (hr4.up (by omega)) (by
          show (if nI (btO q) = 0 then false else true) = true
          exact if_neg (nI_ne (b := 0) (by omega) (by omega) b0 : nI (btO q) ≠ nI 0)) (hA.up (by omega))))
        exact Ans.of (by rw [m161]; exact Nat.le_of_ble_eq_true rfl) (Bod.lv (by rfl) (mNm_7 (d := d + 12) (op := 21) (by omega) rfl (by omega) hce))
      · have hX1 := XR_opd hX hS1 hq (vP x + 3)
        obtain ⟨kd, a, b, hv, hrn, hrd⟩ := hR P T gT Q β D z nn g0 g1 g3 g4 g5 gn _ hX1
        have hrb' := hrb hS hX
        rw [if_neg b0] at hrb'
        refine ⟨nI 4, (nI (btO q - 1)).toInt64, 0, Or.inr (Or.inr (Or.inr (Or.inr (Or.inr ⟨btO q - 1, by omega, rfl, ?_, rfl, nI_ll (by omega)⟩)))), fun W hA => ?_⟩
        · rw [nI_ll (by omega), show btO q - 1 + 1 = btO q by omega]
        · have hA2 := (hrd 5 (Or.inr rfl)).2 ((vr_0 hv).1.mp k0) 1 W (Or.inr rfl) (Ans.of (by rw [m355]; exact Nat.le_of_ble_eq_true rfl) (Bod.lv (by rfl) (rNb_2 (d := d + 9) (op := 5) (nm := rn) (by omega) (by omega) rfl (by omega) hrb' (hA.up (by omega)))))
          exact once_nm (d := d + 13) (e := 1) hX hr30 (hr P T hS) (by omega) (Or.inr rfl) (hA2.up (by omega))
  · refine psh_S (p0 := vP x + 3) (p := vP x + 4) (q := vQ x + 4) (o := o) (S0 := wI 5216 (nI (vP x + 1)) S) (S1 := S1) h hpc hck (by omega) hr1 hS1 (fun S' hp2 h52 hA => ?_) o1 o2 ol k0 (Or.inr rfl) h6 hq (fun P T gT Q β D z nn g0 g1 g3 g4 g5 gn Sr hS hX => ?_) hok
    · have ha := c1 k0 S' (hA.up (by omega))
      have hr5 := rd_T (d := d + 17) hp2 h52 (by omega)
      have hce : Ans (d + 20) 176 [.ref 52] (wI 5216 (nI (vP x + 1)) S) (some (.int (nI 0))) (wI 5216 (nI (vP x + 4)) S') := Ans.of (by rw [m176]; exact Nat.le_of_ble_eq_true rfl) (Bod.lv (by rfl) (mCe_1 (d := d + 11) ha hr5))
      exact Ans.of (by rw [m161]; exact Nat.le_of_ble_eq_true rfl) (Bod.lv (by rfl) (mNm_7 (d := d + 12) (op := 21) (by omega) rfl (by omega) hce))
    · have hX1 := XR_opd hX hS1 hq (vP x + 3)
      obtain ⟨kd, a, b, hv, hrn, hrd⟩ := hR P T gT Q β D z nn g0 g1 g3 g4 g5 gn _ hX1
      refine ⟨kd, a, b, hv, fun W hA => ?_⟩
      have hA2 := (hrd 5 (Or.inr rfl)).1 (fun c => k0 ((vr_0 hv).1.mpr c)) W (hA.up (by omega))
      exact once_nm (d := d + 13) (e := 1) hX hr30 (hr P T hS) (by omega) (Or.inr rfl) (hA2.up (by omega))
end
