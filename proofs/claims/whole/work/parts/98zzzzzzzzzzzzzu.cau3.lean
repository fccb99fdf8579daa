/-! AN ERROR IS CAUGHT, on both sides -/
/-- the places where errors are caught -/
def catOK (St : (Nat → Prop) → cS → Prop) (G : Nat → Nat → Nat → Nat × Nat × LL → Prop) : Prop := ∀ m p q y t l, G m p q (y + 1000, t, l) → y + 1 ≤ 600 ∧ q + 1 < 2 ^ 20 ∧ G m p (q + 1) (y + 1, t, l) ∧ ∀ P T, St P T → rwT P T m q (nI 36)
section
variable {P : Nat → Prop} {T : cS} {gT : Nat} {Q : Nat → Prop} {β β' : Nat → Nat} {F : Nat → Nat → Nat → Prop} {loc par : Nat → Nat → Nat} {ty : Nat → Nat × Nat} {G : Nat → Nat → Nat → Nat × Nat × LL → Prop} {D D' K : List Nat} {z nn g0 g1 g3 g4 g5 gn d n m p q p' q' pT k e e1 oc ln tp h' u' i s t b h2 y er n' : Nat} {l : LL} {l2 : LL} {l' e0 : List (Nat × Nat)} {tq : Nat → Nat × Nat} {C r r0 L : List Lv} {x x0 : Lv} {S S' S1 X W Sc Sr : cS} {w : Nat → Int32} {St : (Nat → Prop) → cS → Prop} {ok : List Lv → Prop} {hi lo : Int64}
theorem rw_XC {e : Int32} (hX : XC P T gT Q β F D z nn g0 g1 g3 g4 g5 gn S Sr) (hw : rwT P T m q e) : rwS Sr m q e := by
  obtain ⟨a, N, zm, h1, h2, h3, h4, h5, h6, h7, h8⟩ := hw
  obtain ⟨_, _, _, ⟨l, b4⟩, b5, _, b7, _⟩ := hX.2.2.2.2.1
  have hlt := (List.getElem?_eq_some_iff.mp h2).1
  have h11 := hX.2.2.2.2.2.1 a h6
  have h105 := isK_105 h4
  exact ⟨a, N, zm, h1, by rw [b4, List.getElem?_append_left hlt]; exact h2, by rw [(b7 m zm h1 h2 0 (by omega)).2]; exact h3, isK_A b4 h4, h5, by omega, h7, by rw [(b5 a h6).1]; exact h8⟩
theorem caught_S (h : CI F loc par ty G tq (x0 :: r0) S) (h55 : ∀ i, i + 1 < (x0 :: r0).length → ∃ e, sA S 55 i = nI e) (her : er ≠ 100) (her2 : er < 2 ^ 20) (hp : 0 < vT x0 + vU x0) (hcat : catOK St G) (hok : ∀ L x r e0 y l' q, x0 :: r0 = L ++ x :: r → (vL x).1 = e0 ++ (y, 0) :: l' → q = (tq (vT x + tms l')).2 → G (vM x) (tq (vT x + tms l')).1 (q + 1) (y + 1, tms l', (l', (vL x).2)) → ok (vAt x (tq (vT x + tms l')).1 (q + 1) (y + 1, tms l', (l', (vL x).2)) :: r)) : ∃ C' S' K, Ans (d + 17) 266 [.ref 52, .int (nI er)] S (some (.int (nI 1))) S' ∧ CI F loc par ty G tq C' S' ∧ ok C' ∧ sI S' 5216 = nI (hP C') ∧ KXr K S S' ∧ ∀ P T gT Q β D z nn g0 g1 g3 g4 g5 gn W, St P T → XRe P T gT Q β F D z nn g0 g1 g3 g4 g5 gn tq x0 r0 S W → sI W 6164 = nI er → ∀ n S0, rRn (d + 22) n S0 0 W → ∃ D' W', rGo (d + 22) S0 W' ∧ XR P T gT Q β F D' z nn g0 g1 g3 g4 g5 gn tq C' S' W' := by
  have m400 := ml_400
  have m350 := ml_350
  obtain ⟨L, x, r, e0, y, l', hw, hx, ht, hy0, hb, hy⟩ := find_try h.2.2.2.2.1 h.2.2.1 hp
  obtain ⟨t1, t2, t3, t4, t5, t6⟩ := (triC_dr (hw ▸ h.2.2.2.2.2.2.2.1) : triC G tq S (x :: r)).1 e0 y l' hx
  obtain ⟨q, hq⟩ : ∃ q, q = (tq (vT x + tms l')).2 := ⟨_, rfl⟩
  rw [← hq] at t2 t6
  obtain ⟨c1, c2, c3, c4⟩ := hcat _ _ _ _ _ _ t6
  obtain ⟨S', K, hA, hCI, hK, lo1, v1, v2, i16, i17⟩ := caught_C (d := d) h hw hx ht hy0 hb hy c1 h55 her her2 (q + 1)
  have hr30 : r.length ≤ 30 := by
    have h1 : r0.length ≤ 30 := h.2.2.2.2.2.2.1.2.2.2
    have e1 : (x0 :: r0).length = (L ++ x :: r).length := by rw [hw]
    rw [List.length_append, List.length_cons (a := x), List.length_cons] at e1
    omega
  have hlr : r.length ≤ r0.length ∧ (L ≠ [] → r.length < r0.length) := by
    have e1 : (x0 :: r0).length = (L ++ x :: r).length := by rw [hw]
    rw [List.length_append, List.length_cons (a := x), List.length_cons] at e1
    refine ⟨by omega, fun hL => ?_⟩
    have := List.length_pos_iff.mpr hL
    omega
  refine ⟨_, S', K, hA, hCI, hok L x r e0 y l' q hw hx hq c3, i16, hK, fun P T gT Q β D z nn g0 g1 g3 g4 g5 gn W hS hX h64 n S0 hrn => ?_⟩
  obtain ⟨a1, a2, a3, a4, a5, ⟨a59, a63⟩, a7, ⟨a8, a8t⟩, a9⟩ := hX
  have hXC := XRe_XC (⟨a1, a2, a3, a4, a5, ⟨a59, a63⟩, a7, ⟨a8, a8t⟩, a9⟩ : XRe P T gT Q β F D z nn g0 g1 g3 g4 g5 gn tq x0 r0 S W)
  have hcal := (cCal_dr (hw ▸ h.2.2.2.2.1) : cCal S (x :: r))
  have h5 : rCal β W (x :: r) := rCal_dr (hw ▸ a5)
  have h7 : triX tq W (x :: r) := triX_dr (hw ▸ a7)
  obtain ⟨b1, b2, b3⟩ := h7.1 e0 y l' hx
  rw [← hq] at b2
  obtain ⟨hx', hy', h4⟩ : ∃ hx', y ≤ hx' ∧ stkR β S W (vAt x (vP x) (vQ x) (hx', vU x, vL x) :: r) := by
    cases L with
    | nil =>
      rw [List.nil_append] at hw
      injection hw with e1 e2
      subst e1 e2
      refine ⟨lob (vL x0), ?_, a4⟩
      have := lob_low (vL x0).1 (vL x0).2 hb.2.1 y 0 (by rw [hx]; exact List.mem_append_right _ List.mem_cons_self)
      exact this
    | cons a L =>
      rw [List.cons_append] at hw
      injection hw with e1 e2
      subst e1
      exact ⟨vH x, hy, stkR_dr (L := L) (e2 ▸ a4.2.2)⟩
  obtain ⟨j, hj⟩ : ∃ j, j = vT x + tms l' := ⟨_, rfl⟩
  rw [← hj] at b1 b2 b3
  have htri := CI_tri h
  have hoff := CI_T h
  have hob : offC (x :: r) ≤ r.length + 1 := by
    have : ∀ C : List Lv, offC C ≤ C.length := fun C => by
      induction C with
      | nil => exact Nat.le_refl _
      | cons a C ih =>
        have e : offC (a :: C) = mkb a + offC C := rfl
        have hm : mkb a ≤ 1 := by unfold mkb; split <;> omega
        rw [e, List.length_cons]
        omega
    exact this (x :: r)
  obtain ⟨l1, l2, l3, l4, l5⟩ := CI_len h
  have etop : topC (x0 :: r0) = vB x0 + vH x0 := rfl
  obtain ⟨tp, htp⟩ : ∃ tp, tp = vB x + y + offC (x :: r) := ⟨_, rfl⟩
  rw [← htp] at b3
  have hct : rGo (d + 22) S0 (wI 6167 (nI er) (wA 95 r.length (nI q) (wI 6151 (nI tp) (wI 6159 (nI (r.length + 1)) (wI 6163 (nI j) W))))) := rGo_ct (d := d + 14) n hrn h64 her2 her (t := j) (by rw [a63]; congr 1; omega) (by omega) b1 (by omega) b3 (by omega) b2 (by omega)
  obtain ⟨W1, hW1⟩ : ∃ W1, W1 = wI 6167 (nI er) (wA 95 r.length (nI q) (wI 6151 (nI tp) (wI 6159 (nI (r.length + 1)) (wI 6163 (nI j) W)))) := ⟨_, rfl⟩
  rw [← hW1] at hct
  have hXC1 : XC P T gT Q β F D z nn g0 g1 g3 g4 g5 gn S W1 := by
    rw [hW1]
    exact XC_I (XC_A (XC_I (XC_I (XC_I hXC (by decide)) (by decide)) (by decide)) (Or.inl rfl)) (by decide)
  obtain ⟨⟨n1, n2, n3, n4, n5, n6, n7⟩, ny⟩ := h5
  have i59 : sI W1 6159 = nI (r.length + 1) := by rw [hW1]; rfl
  have i63 : sI W1 6163 = nI j := by rw [hW1]; rfl
  have a95 : sA W1 95 r.length = nI q := by
    rw [hW1]
    show (if r.length = r.length then nI q else sA W 95 r.length) = nI q
    exact if_pos rfl
  have q94 : sQ W1 94 = sQ W 94 := by rw [hW1]; rfl
  have htps : tpS W1 r.length (vM x) q := ⟨i59, a95, by omega, by rw [q94]; exact n1⟩
  have hw36 := rw_XC hXC1 (c4 P T hS)
  obtain ⟨W2, hW2⟩ : ∃ W2, W2 = wA 95 r.length (nI (q + 1)) W1 := ⟨_, rfl⟩
  have i51 : sI W2 6151 = nI tp := by rw [hW2, hW1]; rfl
  have i67 : sI W2 6167 = nI er := by rw [hW2, hW1]; rfl
  have hA400 : Ans (d + 21) 400 [.ref 61, .int (nI 36), .int (nI 0)] W2 (some (.int 1)) (pshW tp (nI 1) (nI er).toInt64 0 W2) := by
    have q1 := rpshI_T (d := d + 10) (tp := tp) (xa := (nI er).toInt64) (S := W2) (by omega)
    rw [wI_id i51] at q1
    exact Ans.of (by rw [m400]; exact Nat.le_of_ble_eq_true rfl) (Bod.lv (by rfl) (rPl_40 (d := d + 12) (by omega) (by omega) rfl i67 her2 q1))
  rw [hW2] at hA400
  have hgo2 : rGo (d + 22) W1 (pshW tp (nI 1) (nI er).toInt64 0 W2) := rGo_x (d := d + 14) (hon_n (d := d + 13) htps hr30 hw36 (by omega) (by omega) (by decide) (by decide) (Or.inr rfl) (by rw [hW2]; exact hA400))
  obtain ⟨p1, p2, p3, p4, p5⟩ := pshW_s (tp := tp) (kd := nI 1) (xa := (nI er).toInt64) (xb := 0) (S := W2)
  obtain ⟨V, hV⟩ : ∃ V, V = pshW tp (nI 1) (nI er).toInt64 0 W2 := ⟨_, rfl⟩
  rw [← hV] at hgo2 p1 p2 p3 p4 p5
  have hXCV : XC P T gT Q β F (D ++ K.map β) z nn g0 g1 g3 g4 g5 gn S' V := by
    refine XC_K (XC_s ?_ p1) (mHS_cl h.1) (mHS_ok h.1) hK
    rw [hW2]
    exact XC_A hXC1 (Or.inl rfl)
  have vA' : ∀ a, a ≠ 91 → a ≠ 104 → a ≠ 105 → a ≠ 95 → sA V a = sA W a := fun a h1 h2 h3 h4 => by
    rw [p1.2.2.2.2.2.2.1 a h1 h2 h2, hW2, hW1]
    show (if a = 95 then _ else (if a = 95 then _ else sA W a)) = _
    rw [if_neg h4, if_neg h4]
  have v95 : ∀ i, sA V 95 i = if i = r.length then nI (q + 1) else sA W 95 i := fun i => by
    rw [p1.2.2.2.2.2.2.1 95 (by decide) (by decide) (by decide), hW2, hW1]
    show (if i = r.length then nI (q + 1) else (if i = r.length then nI q else sA W 95 i)) = _
    by_cases c : i = r.length
    · rw [if_pos c, if_pos c]
    · rw [if_neg c, if_neg c, if_neg c]
  have vI' : ∀ i, i ≠ 6151 → sI V i = sI W1 i := fun i hi => by
    rw [p1.2.2.2.2.2.1 i hi, hW2]
    rfl
  have q91 : sA W2 91 = sA W 91 ∧ sL W2 92 = sL W 92 ∧ sL W2 93 = sL W 93 := by rw [hW2, hW1]; exact ⟨rfl, rfl, rfl⟩
  have hlow : ∀ i, i < tp → sA V 91 i = sA W 91 i ∧ sL V 92 i = sL W 92 i ∧ sL V 93 i = sL W 93 i := fun i hi => by
    rw [← q91.1, ← q91.2.1, ← q91.2.2]
    exact p1.2.2.2.2.2.2.2.2 i hi
  refine ⟨_, V, rGo_t hct hgo2, XR_lv (x := vAt x (vP x) (vQ x) (hx', vU x, vL x)) (Sc := S) (Sr := W) (q := q + 1) (h' := y + 1) (u' := tms l') (l2 := (l', (vL x).2)) hXCV h4 ⟨⟨n1, n2, n3, n4, n5, n6, n7⟩, ny⟩ h7 (by cases r with | nil => exact hcal | cons y r => exact hcal) (fun i hi => ?_) ?_ (fun i hi => lo1 i (by have hi : i < vB x := hi; omega)) (fun i hi => hlow i (by have hi : i < vB x + offC (x :: r) := hi; omega)) (by rw [p1.2.1, hW2, hW1]; rfl) (fun a ha => vA' a ?_ ?_ ?_ ?_) ⟨fun i hi => by rw [v95, if_neg hi], by rw [v95, if_pos rfl]⟩ c2 (fun i hi => ?_) ⟨?_, ?_, ?_⟩ (fun e z l'' hz => ⟨e0 ++ (y, 0) :: e, by show (vL x).1 = _; rw [hx]; have hz : l' = e ++ (z, 0) :: l'' := hz; rw [hz]; simp⟩) _⟩
  · obtain ⟨e, d1, d2, d3⟩ := a8 i (by omega)
    exact ⟨e, d1, by rw [KXr_A hK (by decide)]; exact d2, by rw [vA' 98 (by decide) (by decide) (by decide) (by decide)]; exact d3⟩
  · by_cases c : L = []
    · subst c
      rw [List.nil_append] at hw
      injection hw with e1 e2
      subst e1 e2
      rw [if_pos rfl] at i17
      obtain ⟨e, d1, d2, d3⟩ := a8t
      exact ⟨e, d1, by rw [i17]; exact d2, by rw [vA' 98 (by decide) (by decide) (by decide) (by decide)]; exact d3⟩
    · rw [if_neg c] at i17
      obtain ⟨e, d1, d2, d3⟩ := a8 r.length (hlr.2 c)
      exact ⟨e, d1, by rw [i17]; exact d2, by rw [vA' 98 (by decide) (by decide) (by decide) (by decide)]; exact d3⟩
  · simp only [List.mem_cons, List.not_mem_nil, or_false] at ha; omega
  · simp only [List.mem_cons, List.not_mem_nil, or_false] at ha; omega
  · simp only [List.mem_cons, List.not_mem_nil, or_false] at ha; omega
  · simp only [List.mem_cons, List.not_mem_nil, or_false] at ha; omega
  · show vrel β (sL S' 47 (vB x + i)) (sL S' 48 (vB x + i)) (sA V 91 (vB x + i + offC (x :: r))) (sL V 92 (vB x + i + offC (x :: r))) (sL V 93 (vB x + i + offC (x :: r)))
    by_cases c : i = y
    · subst c
      rw [v1, v2, ← htp, p3, p4, p5]
      exact vr_mk _
    · obtain ⟨d1, d2⟩ := lo1 (vB x + i) (by omega)
      obtain ⟨d3, d4, d5⟩ := hlow (vB x + i + offC (x :: r)) (by omega)
      rw [d1, d2, d3, d4, d5]
      have hv := h4.1 i (by show i < hx'; omega)
      exact hv
  · rw [p2, htp]
    show nI _ = nI (vB x + (y + 1) + offC (x :: r))
    congr 1
    omega
  · rw [vI' _ (by decide)]
    exact i59
  · rw [vI' _ (by decide), i63, hj]
    rfl
end
