/-! DEEDS ON BOTH SIDES: the minus sign, not -/
section
variable {P : Nat → Prop} {T : cS} {gT : Nat} {Q : Nat → Prop} {β : Nat → Nat} {F : Nat → Nat → Nat → Prop} {loc par : Nat → Nat → Nat} {ty : Nat → Nat × Nat} {G : Nat → Nat → Nat → Nat × Nat × LL → Prop} {D K : List Nat} {z nn g0 g1 g3 g4 g5 gn d v o : Nat} {tq : Nat → Nat × Nat} {C r : List Lv} {x : Lv} {Sc Sr S S' W : cS} {hi lo a b : Int64} {kd : Int32}
/-- what a value is, by its kind in the class -/
theorem vr_int (h : vrel β hi lo kd a b) : (c_kind hi = nI 2 ↔ kd = nI 1) ∧ (c_kind hi = nI 2 → hi = 2305843009213693952 ∧ a = lo) := by
  refine ⟨(vrel_kind h).2.1, fun c => ?_⟩
  have k1 := (vrel_kind h).2.1.mp c
  rcases h with ⟨_, _, h3⟩ | ⟨_, _, h3⟩ | ⟨h1, h3, h4⟩ | ⟨h3, _⟩ | ⟨_, _, _, _, _, h3, _⟩ | ⟨_, _, _, _, h3, _⟩
  · rw [h3] at k1; exact absurd k1 (by decide)
  · rw [h3] at k1; exact absurd k1 (by decide)
  · exact ⟨h1, h4⟩
  · rw [h3] at k1; exact absurd k1 (by decide)
  · rw [h3] at k1; exact absurd k1 (by decide)
  · rw [h3] at k1; exact absurd k1 (by decide)
/-- kinds in the reference are small numbers -/
theorem vr_e (h : vrel β hi lo kd a b) (h0 : c_kind hi ≠ 0) : ∃ e, e ≤ 4 ∧ kd = nI e := by
  rcases h with ⟨h1, _, h3⟩ | ⟨_, _, h3⟩ | ⟨h1, h3, h4⟩ | ⟨h3, _⟩ | ⟨_, _, _, _, _, h3, _⟩ | ⟨_, _, _, _, h3, _⟩
  · rw [h1] at h0; exact absurd (by decide) h0
  · exact ⟨0, by omega, h3⟩
  · exact ⟨1, by omega, h3⟩
  · exact ⟨2, by omega, h3⟩
  · exact ⟨3, by omega, h3⟩
  · exact ⟨4, by omega, h3⟩
theorem int_o (lo : Int64) : c_obj 2305843009213693952 lo = nI 0 ∧ c_kind 2305843009213693952 ≠ 0 ∧ c_kind 2305843009213693952 ≠ nI 5 := ⟨if_neg (by decide), by decide, by decide⟩
theorem vr_mk (lo : Int64) : vrel β 2305843009213693952 lo (nI 1) lo b := Or.inr (Or.inr (Or.inl ⟨rfl, rfl, rfl⟩))
/-- the top level's values, of the class and of the reference -/
theorem CI_k (h : CI F loc par ty G tq (x :: r) S) {i : Nat} (hi : i < vH x) : c_kind (sL S 47 (topC (x :: r) - 1 - i)) ≠ 0 := by
  have := (h.2.2.1.1.1 (vH x - 1 - i) (by omega)).1
  have e : topC (x :: r) = vB x + vH x := rfl
  rw [show vB x + (vH x - 1 - i) = topC (x :: r) - 1 - i by omega] at this
  exact this
theorem XR_51 (h : XR P T gT Q β F D z nn g0 g1 g3 g4 g5 gn tq (x :: r) Sc Sr) : sI Sr 6151 = nI (topC (x :: r) + offC (x :: r)) := h.2.2.2.2.2.1.1
theorem CI_T (h : CI F loc par ty G tq (x :: r) S) : topC (x :: r) + offC (x :: r) ≤ 18700 := by
  have h1 := CI_len h
  have h2 := offC_le (C := x :: r)
  rw [List.length_cons] at h2
  omega
theorem rfail_T (e : Nat) (he : e < 2 ^ 20) (S : cS) : Ans (d + 9) 351 [.ref 61, .int (nI e)] S (some (.int (nI 0))) (wI 6164 (nI e) S) := Ans.of (by rw [ml_351]; exact Nat.le_of_ble_eq_true rfl) (Bod.lv (by rfl) (rFa_1 he))
/-- the minus sign -/
theorem ng_R (x0 : Nat) (hx0 : x0 < 2 ^ 20) (h : CI F loc par ty G tq (x :: r) S) (hl : lob (vL x) + 1 ≤ vH x) : opR F loc par ty G tq (d + 11) 190 [.ref 53] 400 [.ref 61, .int (nI 9), .int (nI x0)] x r (vH x, vU x, vL x) S := by
  obtain ⟨l1, l2, l3, l4, l5⟩ := CI_len h
  have hT := CI_T h
  have k0 := CI_k h (i := 0) (by omega)
  have c1 := lo_ev (d := d + 8) (b := 0) l3 (by omega) (by omega)
  have c2 := hi_ev (d := d + 8) (b := 0) l3 (by omega) (by omega)
  have c3 := kindOf_ev (d := d + 9) (S := S) (hi := sL S 47 (topC (x :: r) - 1 - 0))
  by_cases hk : c_kind (sL S 47 (topC (x :: r) - 1 - 0)) = nI 2
  · by_cases hm : sL S 48 (topC (x :: r) - 1 - 0) = -9223372036854775808
    · refine opR_err h (e := 6) (by omega) (Ans.of (by rw [ml_190]; exact Nat.le_of_ble_eq_true rfl) (Bod.lv (by rfl) (mNg_2 (d := d + 2) c1 c2 c3 hk (by rw [hm]; exact lgne_F)))) (fun P T gT Q β D z nn g0 g1 g3 g4 g5 gn Sr hX => ?_)
      have hv := XR_v hX (i := 0) (by omega)
      obtain ⟨v1, v2⟩ := vr_int hv
      refine Ans.of (by rw [ml_400]; exact Nat.le_of_ble_eq_true rfl) (Bod.lv (by rfl) (rPl_4 (d := d + 2) (e91 := 1) (by omega) hx0 rfl (XR_51 hX) (by omega) (by omega) (v1.mp hk) (by omega) rfl ?_ (rfail_T (d := d + 1) 6 (by omega) Sr)))
      have e := (v2 hk).2
      rw [show topC (x :: r) + offC (x :: r) - 1 - 0 = topC (x :: r) + offC (x :: r) - 1 by omega] at e
      rw [e, hm]
      exact lgne_F
    · have he : (vH x, vU x, vL x) = (vH x - 1 + 1, vU x, vL x) := by rw [show vH x - 1 + 1 = vH x by omega]
      rw [he]
      refine opR_give (dg := d + 1) (v := 1) (o := 0) h hl (by omega) (int_o _).1 (by omega) (Or.inl rfl) (int_o (-(sL S 48 (topC (x :: r) - 1 - 0)))).2 (fun S' hg => Ans.of (by rw [ml_190]; exact Nat.le_of_ble_eq_true rfl) (Bod.lv (by rfl) (mNg_1 (d := d + 2) c1 c2 c3 hk (lgne_T hm) hg))) (fun P T gT Q β D z nn g0 g1 g3 g4 g5 gn Sr hX => ?_)
      have hv := XR_v hX (i := 0) (by omega)
      obtain ⟨v1, v2⟩ := vr_int hv
      have e := (v2 hk).2
      rw [show topC (x :: r) + offC (x :: r) - 1 - 0 = topC (x :: r) + offC (x :: r) - 1 by omega] at e v1
      have et : topC (x :: r) - 1 + offC (x :: r) = topC (x :: r) + offC (x :: r) - 1 := by omega
      refine ⟨wL 92 (topC (x :: r) + offC (x :: r) - 1) (-(sL Sr 92 (topC (x :: r) + offC (x :: r) - 1))) Sr, Ans.of (by rw [ml_400]; exact Nat.le_of_ble_eq_true rfl) (Bod.lv (by rfl) (rPl_3 (d := d + 2) (e91 := 1) (by omega) hx0 rfl (XR_51 hX) (by omega) (by omega) (v1.mp hk) (by omega) rfl (by rw [e]; exact lgne_T hm))), ?_, ?_, ?_⟩
      · rw [et]
        exact ⟨rfl, rfl, rfl, rfl, rfl, fun _ _ => rfl, fun _ _ _ _ => rfl, fun a h2 _ => by rw [rL, if_neg h2], fun i hi => ⟨rfl, by rw [rL, if_pos rfl]; exact if_neg (by omega), by rw [rL, if_neg (by decide)]⟩⟩
      · rw [et]
        show sI Sr 6151 = _
        rw [XR_51 hX]
        congr 1
        omega
      · rw [et, rL, if_pos rfl, e]
        have e3 : vp_updL (sL Sr 92) (topC (x :: r) + offC (x :: r) - 1) (-(sL S 48 (topC (x :: r) - 1 - 0))) (topC (x :: r) + offC (x :: r) - 1) = -(sL S 48 (topC (x :: r) - 1 - 0)) := if_pos rfl
        rw [e3]
        show vrel β _ _ (sA Sr 91 _) _ _
        rw [v1.mp hk]
        exact vr_mk _
  · refine opR_err h (e := 2) (by omega) (Ans.of (by rw [ml_190]; exact Nat.le_of_ble_eq_true rfl) (Bod.lv (by rfl) (mNg_3 (d := d + 2) c1 c2 c3 hk))) (fun P T gT Q β D z nn g0 g1 g3 g4 g5 gn Sr hX => ?_)
    have hv := XR_v hX (i := 0) (by omega)
    obtain ⟨v1, _⟩ := vr_int hv
    obtain ⟨e, e1, e2⟩ := vr_e hv k0
    rw [show topC (x :: r) + offC (x :: r) - 1 - 0 = topC (x :: r) + offC (x :: r) - 1 by omega] at e2 v1
    exact Ans.of (by rw [ml_400]; exact Nat.le_of_ble_eq_true rfl) (Bod.lv (by rfl) (rPl_5 (d := d + 2) (e91 := e) (by omega) hx0 rfl (XR_51 hX) (by omega) (by omega) e2 (by omega) (fun c => hk (v1.mpr (by rw [e2, c]))) (rfail_T (d := d + 1) 2 (by omega) Sr)))
end
