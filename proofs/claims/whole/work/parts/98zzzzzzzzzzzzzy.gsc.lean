/-! CALLS OF CLASSES: both sides with the instance put in -/
section
variable {P : Nat → Prop} {T : cS} {gT : Nat} {Q : Nat → Prop} {β β' : Nat → Nat} {F : Nat → Nat → Nat → Prop} {loc par : Nat → Nat → Nat} {ty : Nat → Nat × Nat} {G : Nat → Nat → Nat → Nat × Nat × LL → Prop} {D D' K : List Nat} {z nn g0 g1 g3 g4 g5 gn d n m p q k i s t b gv ba u0 : Nat} {g : Nat → Nat} {tq : Nat → Nat × Nat} {C r : List Lv} {x : Lv} {S S' S1 X W Sr V : cS} {l' : List (Nat × Nat)} {v : Option Value} {Sf : cS}
theorem mkOk_gst (hm : mkOk X b (i + 1 + gv) ((i, 1) :: l', s)) (hs : srt ((i, 1) :: l')) (hl : ∀ o, lv S o ↔ lv X o) (h3 : ∀ o, sA S 3 o = sA X 3 o) (e47 : ∀ p, sL S 47 p = gsF (b + i + 1) 4611686018427387904 (sL X 47) p) (e48 : ∀ p, sL S 48 p = gsF (b + i + 1) (lN k) (sL X 48) p) : mkOk S b (i + 1 + gv + 1) ((i, 1) :: l', s) := by
  have low := lob_low ((i, 1) :: l') s hs
  have hlow : lob ((i, 1) :: l', s) = i + 1 := rfl
  have below : ∀ p, p < b + i + 1 → sL S 47 p = sL X 47 p ∧ sL S 48 p = sL X 48 p := fun p hp => by
    rw [e47, e48]
    unfold gsF
    rw [if_pos hp, if_pos hp]
    exact ⟨rfl, rfl⟩
  refine ⟨fun p hp => ?_, fun y hy => ?_⟩
  · by_cases c : p < i + 1
    · rw [(below (b + p) (by omega)).1]
      exact hm.1 p (by omega)
    · by_cases c2 : p = i + 1
      · have e : sL S 47 (b + p) = 4611686018427387904 := by
          rw [e47]
          unfold gsF
          rw [if_neg (by omega), if_pos (by omega)]
        rw [e]
        exact ⟨by decide, fun c => absurd c (by decide)⟩
      · have e : sL S 47 (b + p) = sL X 47 (b + (p - 1)) := by
          rw [e47]
          unfold gsF
          rw [if_neg (by omega), if_neg (by omega), show b + p - 1 = b + (p - 1) by omega]
        rw [e]
        obtain ⟨a1, a2⟩ := hm.1 (p - 1) (by omega)
        refine ⟨a1, fun c3 => ?_⟩
        have := low _ _ (a2 c3)
        omega
  · have hlt := low y 2 hy
    obtain ⟨⟨o, o1, o2, o3, o4⟩, j, j1, j2, j3⟩ := hm.2 y hy
    refine ⟨⟨o, (hl o).mpr o1, by rw [h3]; exact o2, ?_, ?_⟩, j, j1, ?_, ?_⟩
    · rw [(below (b + y) (by omega)).1]
      exact o3
    · rw [(below (b + y) (by omega)).2]
      exact o4
    · rw [(below (b + (y + 1)) (by omega)).1]
      exact j2
    · rw [(below (b + (y + 1)) (by omega)).2]
      exact j3
theorem KX_gst : KX [] X (gst b t k X) := KX_fr ((gst_f b t k X).1.mono (by decide) (by decide) (by decide))
theorem CI_gst (h : CIg 0 (fun q => gC (x :: r) q + dl k q) F loc par ty G tq (x :: r) X) (hx : vL x = ((i, 1) :: l', s)) (hi : vH x = i + 1 + gv) (h6 : vH x + 1 ≤ 600) (hk : lv X k) (p q : Nat) : CI F loc par ty G tq (vAt x p q (vH x + 1, vU x, vL x) :: r) (gst (vB x + i + 1) (topC (x :: r)) k X) := by
  obtain ⟨hF, e47, e48, e46⟩ := gst_f (vB x + i + 1) (topC (x :: r)) k X
  have et : topC (x :: r) = vB x + vH x := rfl
  have eA : sA (gst (vB x + i + 1) (topC (x :: r)) k X) = sA X := funext fun a => hF.A (fun c => by cases c)
  have elv : ∀ o, lv (gst (vB x + i + 1) (topC (x :: r)) k X) o ↔ lv X o := fun o => by unfold lv; rw [eA]
  have hr30 : r.length ≤ 30 := h.2.2.2.2.2.2.1.2.2.2
  have hcb := cCal_b h.2.2.2.2.1 h.2.2.1
  have hm := mHS_gst (b := vB x + i + 1) h.1 (by omega) (by omega) hk
  obtain ⟨m1, m2, m3⟩ := h.2.2.1
  obtain ⟨b1, b2, b3, b4, b5⟩ := m2
  have hs : srt (vL x).1 := b2
  have hmk : mkOk (gst (vB x + i + 1) (topC (x :: r)) k X) (vB x) (vH x + 1) (vL x) := by
    rw [hi, hx] at m1
    rw [hx] at hs
    rw [hi, hx]
    exact mkOk_gst m1 hs elv (fun o => by rw [eA]) e47 e48
  obtain ⟨r1, r2, r3, r4⟩ := h.2.2.2.2.2.2.1
  refine CI_lvg (L := []) (xm := 0) (g := fun q => gC (x :: r) q + dl k q) h (fun o ho => ⟨(elv o).mp ho, obE_KX KX_gst (mHS_ok h.1 o ho.1 ho.2.1) (fun c => by cases c)⟩) (rwL_FrL hF h.2.1) (by rw [show vB x + (vH x + 1) = topC (x :: r) + 1 by omega]; exact hm) (fun a _ => by rw [eA]) (hF.2.1 21 (by decide)) (fun j hj => ?_) hmk ⟨b1, b2, by have b3 : lob (vL x) ≤ vH x := b3; show lob (vL x) ≤ vH x + 1; omega, h6, b5⟩ rfl (fun e y l'' hz => ⟨e, hz⟩) ⟨by rw [hF.I (by decide)]; exact r1, by rw [hF.I (by decide)]; exact r2, by rw [hF.I (by decide)]; exact r3⟩ p q
  rw [e47, e48]
  unfold gsF
  rw [if_pos (by omega), if_pos (by omega)]
  exact ⟨rfl, rfl⟩
/-- the reference with the instance put in -/
theorem XR_gst (hX : XR P T gT Q β F D z nn g0 g1 g3 g4 g5 gn tq (x :: r) X Sr) (hm : mHS 0 g (topC (x :: r)) X) (hcal : cCal X (x :: r)) (hi : vH x = i + 1 + gv) (hk : 1 ≤ k ∧ k ≤ 1500) (hW : sFr (vB x + i + 1 + offC (x :: r)) Sr W) (h51 : sI W 6151 = nI (topC (x :: r) + 1 + offC (x :: r))) (h1 : sA W 91 (vB x + i + 1 + offC (x :: r)) = nI 3 ∧ sL W 92 (vB x + i + 1 + offC (x :: r)) = lN (β k)) (h2 : ∀ j, vB x + i + 1 + offC (x :: r) < j → j ≤ topC (x :: r) + offC (x :: r) → sA W 91 j = sA Sr 91 (j - 1) ∧ sL W 92 j = sL Sr 92 (j - 1) ∧ sL W 93 j = sL Sr 93 (j - 1)) : XR P T gT Q β F D z nn g0 g1 g3 g4 g5 gn tq (vAt x (vP x) (vQ x) (vH x + 1, vU x, vL x) :: r) (gst (vB x + i + 1) (topC (x :: r)) k X) W := by
  obtain ⟨hF, e47, e48, e46⟩ := gst_f (vB x + i + 1) (topC (x :: r)) k X
  have et : topC (x :: r) = vB x + vH x := rfl
  have hmono : sFr (vB x + offC (x :: r)) Sr W := by
    obtain ⟨a1, a2, a3, a4, a5, a6, a7, a8, a9⟩ := hW
    exact ⟨a1, a2, a3, a4, a5, a6, a7, a8, fun j hj => a9 j (by omega)⟩
  have hg := XR_K (K := []) (h' := vH x + 1) hX (mHS_cl hm) (mHS_ok hm) hcal KX_gst (fun j hj => by
    rw [e47, e48]
    unfold gsF
    rw [if_pos (by omega), if_pos (by omega)]
    exact ⟨rfl, rfl⟩) hmono (by rw [h51]; congr 1) (fun j hj => by
    rw [e47, e48]
    unfold gsF
    by_cases c : vB x + j < vB x + i + 1
    · rw [if_pos c, if_pos c]
      obtain ⟨d1, d2, d3⟩ := hW.2.2.2.2.2.2.2.2 (vB x + j + offC (x :: r)) (by omega)
      rw [d1, d2, d3]
      exact hX.2.2.2.1.1 j (by omega)
    · rw [if_neg c, if_neg c]
      by_cases c2 : vB x + j = vB x + i + 1
      · rw [if_pos c2, if_pos c2, c2]
        exact Or.inr (Or.inr (Or.inr (Or.inr (Or.inl ⟨k, hk.1, hk.2, rfl, rfl, h1.1, h1.2⟩))))
      · rw [if_neg c2, if_neg c2]
        obtain ⟨d1, d2, d3⟩ := h2 (vB x + j + offC (x :: r)) (by omega) (by omega)
        rw [d1, d2, d3]
        have hv := hX.2.2.2.1.1 (j - 1) (by omega)
        rw [show vB x + j - 1 = vB x + (j - 1) by omega, show vB x + j + offC (x :: r) - 1 = vB x + (j - 1) + offC (x :: r) by omega]
        exact hv)
  rw [List.map_nil, List.append_nil] at hg
  exact hg
/-- the reference's values make room -/
theorem shift_R {nn io : Nat} : ∀ (k : Nat) {X : cS}, u0 + k ≤ 20479 → (∀ j, u0 ≤ j → j < u0 + k → ∃ e, e < 2 ^ 20 ∧ sA X 91 j = nI e) → (∀ W, sFr u0 X W → sI W 6151 = sI X 6151 → (∀ j, u0 < j → j ≤ u0 + k → sA W 91 j = sA X 91 (j - 1) ∧ sL W 92 j = sL X 92 (j - 1) ∧ sL W 93 j = sL X 93 (j - 1)) → (∀ j, u0 + k < j → sA W 91 j = sA X 91 j ∧ sL W 92 j = sL X 92 j ∧ sL W 93 j = sL X 93 j) → ∀ lv1, sm_get lv1 0 = some (.ref 61) → sm_get lv1 1 = some (.int (nI ba)) → sm_get lv1 2 = some (.int (nI nn)) → sm_get lv1 3 = some (.int (nI io)) → Bod (d + 9) 397 58 lv1 [] W v Sf) → ba + 1 = u0 → nn < 2 ^ 20 → io < 2 ^ 20 → ∀ lv, sm_get lv 0 = some (.ref 61) → sm_get lv 1 = some (.int (nI ba)) → sm_get lv 2 = some (.int (nI nn)) → sm_get lv 3 = some (.int (nI io)) → sm_get lv 4 = some (.int (nI (u0 + k))) → Bod (d + 9) 397 34 lv [] X v Sf := by
  intro k
  induction k with
  | zero =>
    intro X h0 he hB hb hn hi lv q0 q1 q2 q3 q4
    subst hb
    exact rMkA_1 (d := d + 1) q0 q1 q2 q3 q4 (by omega) (by omega) (by omega) (by omega) (by omega) (fun lv1 p0 p1 p2 p3 => hB X (sFr.refl _ _) rfl (fun j h1 h2 => by omega) (fun j hj => ⟨rfl, rfl, rfl⟩) lv1 p0 p1 p2 p3)
  | succ k ih =>
    intro X h0 he hB hb hn hi lv q0 q1 q2 q3 q4
    obtain ⟨e, e1, e2⟩ := he (u0 + k) (by omega) (by omega)
    obtain ⟨W1, A1, w1, w2, w3, w4, w5, w6⟩ := cpy_T (d := d) (Sr := X) (k := u0 + k) (to := u0 + k + 1) (by omega) (by omega) e2 e1 (by omega)
    have hf1 := w1 u0 (by omega)
    refine rMkA_2 (d := d + 1) (ni := u0 + k) q0 q1 q2 q3 q4 (by omega) (by omega) (by omega) (by omega) (by omega) (by omega) A1 (fun lv1 p0 p1 p2 p3 p4 => ih (X := W1) (by omega) (fun j j1 j2 => ?_) (fun W hw hw51 hs1 hs2 => hB W (hf1.trans hw) (hw51.trans w2) (fun j j1 j2 => ?_) (fun j hj => ?_)) hb hn hi lv1 p0 p1 p2 p3 p4)
    · rw [(w3 j (by omega)).1]
      exact he j j1 (by omega)
    · by_cases c : j = u0 + k + 1
      · obtain ⟨d1, d2, d3⟩ := hs2 j (by omega)
        rw [d1, d2, d3, c, w4, w5, w6]
        exact ⟨rfl, rfl, rfl⟩
      · obtain ⟨d1, d2, d3⟩ := hs1 j j1 (by omega)
        obtain ⟨f1, f2, f3⟩ := w3 (j - 1) (by omega)
        rw [d1, d2, d3, f1, f2, f3]
        exact ⟨rfl, rfl, rfl⟩
    · obtain ⟨d1, d2, d3⟩ := hs2 j (by omega)
      obtain ⟨f1, f2, f3⟩ := w3 j (by omega)
      rw [d1, d2, d3, f1, f2, f3]
      exact ⟨rfl, rfl, rfl⟩
end
