/-! BUILTINS ON BOTH SIDES: what nothing holds goes on the reference's side too; how many are alive: 9 | 8 -/
section
variable {P : Nat → Prop} {T : cS} {gT : Nat} {Q : Nat → Prop} {β β' : Nat → Nat} {F : Nat → Nat → Nat → Prop} {loc par : Nat → Nat → Nat} {ty : Nat → Nat × Nat} {G : Nat → Nat → Nat → Nat × Nat × LL → Prop} {D D' K : List Nat} {z nn g0 g1 g3 g4 g5 gn d d' dg n m p q i k e jc jr o v : Nat} {ac ar : List Value} {tq : Nat → Nat × Nat} {C r : List Lv} {x : Lv} {S S' S1 X W W1 Sc Sr : cS} {hi lo : Int64} {l' : List (Nat × Nat)} {s : Nat}
/-- the reference lets go what nothing holds -/
theorem settle_R (h : CI F loc par ty G tq (x :: r) S) (hX : XR P T gT Q β F D z nn g0 g1 g3 g4 g5 gn tq (x :: r) S Sr) : ∃ W, Ans (d + 4) 366 [.ref 61] Sr none W ∧ XR P T gT Q β F [] z nn g0 g1 g3 g4 g5 gn tq (x :: r) S W ∧ Fr [] [87, 89, 90] Sr W := by
  obtain ⟨r1, r2, r3, r4, r5⟩ := XR_root h hX
  have hm := h.1
  have H1 := hX.1
  have rW : r_W Sr := ⟨fun p hp h0 => (H1.2.2.2.2.2.2.2.1 p hp h0).1, r2, r3⟩
  have rS : rSm Sr := ⟨fun p hp h0 => (H1.2.2.2.2.2.2.2.1 p hp h0).2, r5⟩
  obtain ⟨W2, c2, f2, e87⟩ := settle_ev (d := d) rW (HR_dead H1 hm.1 (fun k hk => by have := hm.2.1 k hk (by have := hk.1; omega); omega) r1) rS
  have f2' : FrL [6147] [87, 89, 90] [] Sr W2 := (FrL_Fr f2).mono (fun _ c => by cases c) (fun _ c => c) (fun _ c => c)
  have H2 : HR Q β F [] S W2 g0 g1 nn := HR_L (fun a ha => ha) f2' H1 (Or.inr ⟨rfl, e87⟩)
  obtain ⟨_, _, u, u1, u2⟩ := hX.2.2.2.2.2.2.2.2.1
  exact ⟨W2, c2, XR_hp hX H2 (hpF_L (fun a ha => ha) f2') ⟨u, u1, by rw [f2.I List.not_mem_nil]; exact u2⟩, f2⟩
theorem XR_live (h : CI F loc par ty G tq (x :: r) S) (hX : XR P T gT Q β F [] z nn g0 g1 g3 g4 g5 gn tq (x :: r) S Sr) : sumN (fun p => if sA Sr 87 p ≠ 0 then 1 else 0) 1500 = nLive S := by
  have h0 : sA S 3 0 = 0 := by
    obtain ⟨_, _, _, _, _, _, _, _, _, _, q⟩ := h.1.1.2.1
    exact q
  rw [HR_live hX.1 h0]
  refine sumN_congr (fun p _ => ?_)
  by_cases c : sA Sr 87 p = 0
  · rw [if_neg (fun c' => c' c), if_neg (fun c' => c'.1 c)]
  · rw [if_pos c, if_pos ⟨c, List.not_mem_nil⟩]
theorem sumN_le1 {f : Nat → Nat} (hf : ∀ i, f i ≤ 1) : ∀ n, sumN f n ≤ n := by
  intro n
  induction n with
  | zero => exact Nat.le_refl _
  | succ n ih =>
    show sumN f n + f n ≤ n + 1
    have := hf n
    omega
theorem alive_loop (h87 : ∀ p, p < 1500 → sA Sr 87 p = 0 ∨ sA Sr 87 p = nI 1) : ∀ (j ni : Nat) (lv : sm_L), ni + j = 1500 → sm_get lv 0 = some (.ref 61) → sm_get lv 1 = some (.int (nI (sumN (fun p => if sA Sr 87 p ≠ 0 then 1 else 0) ni))) → sm_get lv 2 = some (.ref 87) → sm_get lv 3 = some (.int (nI 1500)) → sm_get lv 4 = some (.int (nI ni)) → Bod (d + 8) 392 17 lv [] Sr (some (.int (nI (sumN (fun p => if sA Sr 87 p ≠ 0 then 1 else 0) 1500)))) Sr := by
  intro j
  induction j with
  | zero =>
    intro ni lv hn q0 q1 q2 q3 q4
    have e : ni = 1500 := by omega
    subst e
    have := sumN_le1 (f := fun p => if sA Sr 87 p ≠ 0 then 1 else 0) (fun i => by show (if _ then 1 else 0) ≤ 1; split <;> omega) 1500
    exact rAlL_1 q0 q1 q2 q3 q4 (by omega) (by omega) (Nat.le_refl _)
  | succ j ih =>
    intro ni lv hn q0 q1 q2 q3 q4
    have hs := sumN_le1 (f := fun p => if sA Sr 87 p ≠ 0 then 1 else 0) (fun i => by show (if _ then 1 else 0) ≤ 1; split <;> omega) ni
    rcases h87 ni (by omega) with c | c
    · refine rAlL_2 (e87 := 0) q0 q1 q2 q3 q4 (by omega) (by omega) (by omega) c (by omega) rfl (fun lv1 p0 p1 p2 p3 p4 => ?_)
      refine ih (ni + 1) lv1 (by omega) p0 ?_ p2 p3 p4
      rw [p1]
      show _ = some (Value.int (nI (sumN (fun p => if sA Sr 87 p ≠ 0 then 1 else 0) ni + (if sA Sr 87 ni ≠ 0 then 1 else 0))))
      rw [if_neg (fun c' => c' c)]
      rfl
    · have c0 : sA Sr 87 ni ≠ 0 := by rw [c]; decide
      refine rAlL_3 (e87 := 1) q0 q1 q2 q3 q4 (by omega) (by omega) (by omega) c (by omega) (by decide) (fun lv1 p0 p1 p2 p3 p4 => ?_)
      refine ih (ni + 1) lv1 (by omega) p0 ?_ p2 p3 p4
      rw [p1]
      show _ = some (Value.int (nI (sumN (fun p => if sA Sr 87 p ≠ 0 then 1 else 0) ni + (if sA Sr 87 ni ≠ 0 then 1 else 0))))
      rw [if_pos c0]
/-- an int given, the reference having let go before -/
theorem opR_intS {dg jc jr : Nat} {ac ar : List Value} (w : Int64) (h : CI F loc par ty G tq (x :: r) S) (hv : v ≤ vH x) (hx : vL x = ((i, 1) :: l', s)) (hi' : vH x - v ≤ i) (hl : lob (l', s) + v ≤ vH x) (h6 : vH x - v + 1 ≤ 600) (hc : ∀ S', Ans (dg + 9) 148 [.ref 46, .int (nI v), .long 2305843009213693952, .long w] S (some (.int (nI 0))) S' → Ans d jc ac S (some (.int (nI 0))) S') (hr : ∀ P T gT Q β D z nn g0 g1 g3 g4 g5 gn Sr, XR P T gT Q β F D z nn g0 g1 g3 g4 g5 gn tq (x :: r) S Sr → ∃ D1 S1, XR P T gT Q β F D1 z nn g0 g1 g3 g4 g5 gn tq (x :: r) S S1 ∧ Ans d jr ar Sr (some (.int 1)) (pshW (topC (x :: r) + offC (x :: r) - v) (nI 1) w 0 S1)) : opR F loc par ty G tq d jc ac jr ar x r (vH x - v + 1, vU x, (l', s)) S := by
  obtain ⟨c1, c2, c3, c4, c5⟩ := CI_len h
  obtain ⟨S', K, b1, b2, b3, b4, b5, b6, b7, b8⟩ := mgive_T (d := dg) (v := v) (hi := 2305843009213693952) (lo := w) h.1 (show v ≤ topC (x :: r) by omega) (by omega) (int_o w).1 (by omega) (Or.inl rfl) (Or.inl rfl) (fun k => by have := gC_le (C := x :: r) k; rw [List.length_cons] at this; omega)
  refine Or.inl ⟨S', hc S' b1, fun p q => CI_giveM h b3 hv b2 b4 b5 hx hi' hl h6 (int_o w).2 p q, CFr_KX b3, fun P T gT Q β D z nn g0 g1 g3 g4 g5 gn Sr hX => ?_⟩
  obtain ⟨D1, S1, hX1, hA⟩ := hr P T gT Q β D z nn g0 g1 g3 g4 g5 gn Sr hX
  have et : topC (x :: r) - v + offC (x :: r) = topC (x :: r) + offC (x :: r) - v := by omega
  obtain ⟨p1, p2, p3, p4, p5⟩ := pshW_s (tp := topC (x :: r) + offC (x :: r) - v) (kd := nI 1) (xa := w) (xb := 0) (S := S1)
  have := XR_give hX1 (mHS_cl h.1) (mHS_ok h.1) h.2.2.2.2.1 b3 hv b4 b5 b6 et.symm p1 p2 (by rw [p3, p4, p5]; exact vr_mk w)
  rw [hx] at this
  exact ⟨Q, β, _, nn, g0, g1, g3, g4, g5, gn, _, hA, XR_drop this⟩
theorem alive_R (h : CI F loc par ty G tq (x :: r) S) (hv : 1 ≤ vH x) (hx : vL x = ((i, 1) :: l', s)) (hi' : vH x - 1 ≤ i) (hl : lob (l', s) + 1 ≤ vH x) : opR F loc par ty G tq (d + 20) 227 [.ref 49, .int (nI 9), .int (nI 0)] 380 [.ref 61, .int (nI 8), .int (nI (topC (x :: r) + offC (x :: r) - 1)), .int (nI 0)] x r (vH x - 1 + 1, vU x, (l', s)) S := by
  have m227 := ml_227
  have m380 := ml_380
  have m392 := ml_392
  obtain ⟨l1, l2, l3, l4, l5⟩ := CI_len h
  have hT := CI_T h
  have ho := offC_le (C := x :: r)
  have hal : sI S 213 = nI (nLive S) := by
    obtain ⟨p, f, q1, _⟩ := h.1.1.2.1
    exact q1
  have hnl : nLive S ≤ 1500 := by
    obtain ⟨p, f, _, _, _, q4, q5, _⟩ := h.1.1.2.1
    omega
  refine opR_intS (dg := d + 10) (nI (nLive S)).toInt64 h hv hx hi' hl (by omega) (fun S' hg => ?_) (fun P T gT Q β D z nn g0 g1 g3 g4 g5 gn Sr hX => ?_)
  · have ha := alive_ev (d := d + 18) (S := S)
    rw [hal] at ha
    exact Ans.of (by rw [m227]; exact Nat.le_of_ble_eq_true rfl) (Bod.lv (by rfl) (mBa9_1 (d := d + 11) (by omega) rfl (by omega) ha hg))
  · obtain ⟨W, a1, a2, a3⟩ := settle_R (d := d + 13) h hX
    have hb := alive_loop (d := d + 9) (Sr := W) (fun p hp => a2.1.2.2.2.2.2.2.2.2.2.2 p hp) 1500 0
    rw [XR_live h a2] at hb
    have hA : Ans (d + 18) 392 [.ref 61] Sr (some (.int (nI (nLive S)))) W := Ans.of (by rw [m392]; exact Nat.le_of_ble_eq_true rfl) (Bod.lv (by rfl) (rAl_1 (d := d + 9) a1 (fun lv1 p0 p1 p2 p3 p4 => hb lv1 (by omega) p0 p1 p2 p3 p4)))
    exact ⟨[], W, a2, Ans.of (by rw [m380]; exact Nat.le_of_ble_eq_true rfl) (Bod.lv (by rfl) (rBt8_1 (d := d + 11) (by omega) (by omega) rfl (by omega) (hA.up (by omega)) (rpshI_T (d := d + 9) (by omega))))⟩
end
