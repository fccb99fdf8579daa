/-! DEEDS ON BOTH SIDES: what was to be called is gone -/
section
variable {P : Nat → Prop} {T : cS} {gT : Nat} {Q : Nat → Prop} {β : Nat → Nat} {F : Nat → Nat → Nat → Prop} {loc par : Nat → Nat → Nat} {ty : Nat → Nat × Nat} {G : Nat → Nat → Nat → Nat × Nat × LL → Prop} {D K : List Nat} {z nn g0 g1 g3 g4 g5 gn d v o i : Nat} {tq : Nat → Nat × Nat} {r : List Lv} {x : Lv} {S S' Sc Sr : cS} {hi lo : Int64} {l' : List (Nat × Nat)} {s : Nat}
/-- a value in the place of v, the topmost mark among them -/
theorem CI_giveM (h : CI F loc par ty G tq (x :: r) S) (hK : KX K S S') (hv : v ≤ vH x) (hm : mHS 0 (gC (x :: r)) (topC (x :: r) - v + 1) S') (e : ∀ i, i < topC (x :: r) - v → sL S' 47 i = sL S 47 i ∧ sL S' 48 i = sL S 48 i) (e1 : sL S' 47 (topC (x :: r) - v) = hi) (hx : vL x = ((i, 1) :: l', s)) (hi' : vH x - v ≤ i) (hl : lob (l', s) + v ≤ vH x) (h6 : vH x - v + 1 ≤ 600) (h0 : c_kind hi ≠ 0 ∧ c_kind hi ≠ nI 5) (p q : Nat) : CI F loc par ty G tq (vAt x p q (vH x - v + 1, vU x, (l', s)) :: r) S' := by
  obtain ⟨a1, a2, a3, a4, a5, a6, a7, a8, a9⟩ := h
  have hlk := lv_KX hK
  have hE : ∀ o, lv S' o → obE S S' o := fun o ho => obE_KX hK (mHS_ok a1 o ho.1 ho.2.1) ((hlk o).mp ho).2
  have hk : ∀ o, lv S' o → sA S' 3 o = sA S 3 o := fun o ho => (hE o ho).1
  have hcl := mHS_cl hm
  have ht : topC (x :: r) = vB x + vH x := rfl
  have eA : ∀ a, a ∉ kxA → sA S' a = sA S a := fun a ha => hK.1.A ha
  have eI : ∀ i, i ∉ kxI → sI S' i = sI S i := fun i hi => hK.1.I hi
  have hsv : stLv (topC (x :: r) - v) S' := fun i hi => hm.2.2.2.2.1 i (by omega)
  obtain ⟨m1, m2, m3⟩ := a3
  obtain ⟨l1, l2, l3, l4, l5⟩ := m2
  have hxS : (vS x).2.2 = ((i, 1) :: l', s) := hx
  have l1' : vU x = tms l' := by
    have : (vS x).2.1 = tms (vS x).2.2.1 := l1
    rw [hxS] at this
    have e2 : tms ((i, 1) :: l') = (if (i, 1).2 = 0 then 1 else 0) + tms l' := rfl
    rw [e2, if_neg (show ¬ (1 : Nat) = 0 by omega), Nat.zero_add] at this
    exact this
  have l2' : srt l' := by
    have : srt (vS x).2.2.1 := l2
    rw [hxS] at this
    exact this.2
  rw [hx] at m1
  refine ⟨?_, rwL_KX a2 hK, ?_, fun k hk' => ?_, ?_, ?_, ?_, ?_, fun q hq => ?_⟩
  · have e2 : topC (vAt x p q (vH x - v + 1, vU x, (l', s)) :: r) = topC (x :: r) - v + 1 := by
      show vB x + (vH x - v + 1) = vB x + vH x - v + 1
      omega
    rw [e2]
    exact hm
  · refine ⟨?_, ⟨l1', l2', by show lob (l', s) ≤ vH x - v + 1; omega, h6, l5⟩, stkC_K (n := topC (x :: r) - v) m3 (fun y hy => by have := cCal_lo a5 y hy; omega) e hsv hk⟩
    have hlow := mkOk_K (S' := S') (h := vH x - v) (n := topC (x :: r) - v) (l := (l', s)) (b := vB x) ⟨fun j hj => ⟨(m1.1 j (by omega)).1, fun c => by
      have := (m1.1 j (by omega)).2 c
      rcases List.mem_cons.mp this with c2 | c2
      · injection c2 with c2 _
        omega
      · exact c2⟩, fun y hy => m1.2 y (List.mem_cons_of_mem _ hy)⟩ (by omega) (by omega) l2' e hsv hk
    refine ⟨fun j hj => ?_, hlow.2⟩
    have hj' : j < vH x - v + 1 := hj
    by_cases c : j < vH x - v
    · exact hlow.1 j c
    · have e3 : vB x + j = topC (x :: r) - v := by omega
      show c_kind (sL S' 47 (vB x + j)) ≠ 0 ∧ (c_kind (sL S' 47 (vB x + j)) = nI 5 → _)
      rw [e3, e1]
      exact ⟨h0.1, fun c => absurd c h0.2⟩
  · obtain ⟨b1, b2⟩ := a4 k ((hlk k).mp hk').1
    refine ⟨tyO_K b1 (hE k hk') (fun o ho => ⟨fun hm => ?_, hk o⟩), vlO_K b2 (hE k hk')⟩
    rw [← obE_tgs (hE k hk')] at hm
    exact (hcl k hk'.1 hk'.2.1 hk'.2.2 o hm).resolve_left (by have := ho.1; omega)
  · cases r with
    | nil => exact a5
    | cons y r => exact cCal_E (S := S) (C := vAt x p q (vH x - v + 1, vU x, (l', s)) :: y :: r) a5 (fun a ha => eA a (fun c => by revert ha c; revert a; decide))
  · have es : (vL x).2 = s := by rw [hx]
    have h6' : lvOk G ty S (vAt x p q (vH x - v + 1, vU x, (l', s)) :: r) := by
      obtain ⟨c1, c2, c3⟩ := a6
      rw [es] at c1 c2
      exact ⟨c1, c2, c3⟩
    exact lvOk_K h6' (fun y hy => by
      obtain ⟨c1, c2⟩ := gC_pos hy
      exact ⟨fun c => hm.2.2.2.2.2.2.1 _ (c1 c), fun c => hm.2.2.2.2.2.2.1 _ (c2 c)⟩) hk
  · obtain ⟨b1, b2, b3, b4⟩ := a7
    exact ⟨by rw [eI 5213 (by decide)]; exact b1, by rw [eI 5214 (by decide)]; exact b2, by rw [eI 5215 (by decide)]; exact b3, b4⟩
  · have h8 : triC G tq S (vAt x p q (vH x - v + 1, vU x, (l', s)) :: r) := by
      obtain ⟨c1, c2⟩ := a8
      refine ⟨fun e' y l'' hl'' => ?_, c2⟩
      have hl3 : l' = e' ++ (y, 0) :: l'' := hl''
      have := c1 ((i, 1) :: e') y l'' (by rw [hx, hl3]; rfl)
      rw [hx] at this
      exact this
    exact triC_E h8 (eA 60 (by decide))
  · rw [hK.1.2.1 21 (by decide)]
    exact a9 q hq
/-- the reference: the mark is told no more -/
theorem XR_drop {p q u w : Nat} (hX : XR P T gT Q β F D z nn g0 g1 g3 g4 g5 gn tq (vAt x p q (w, u, ((i, 1) :: l', s)) :: r) Sc Sr) : XR P T gT Q β F D z nn g0 g1 g3 g4 g5 gn tq (vAt x p q (w, u, (l', s)) :: r) Sc Sr := by
  obtain ⟨a1, a2, a3, a4, a5, a6, a7, a8, a9, a10, a11⟩ := hX
  refine ⟨a1, a2, a3, a4, a5, a6, ?_, a8, a9, a10, a11⟩
  obtain ⟨c1, c2⟩ := a7
  refine ⟨fun e' y l'' hl'' => ?_, c2⟩
  have hl3 : l' = e' ++ (y, 0) :: l'' := hl''
  exact c1 ((i, 1) :: e') y l'' (by rw [hl3]; rfl)
/-- a deed that puts a value in the place of v, what was to be called among them -/
theorem opR_giveM {dg jc jr : Nat} {ac ar : List Value} (h : CI F loc par ty G tq (x :: r) S) (hv : v ≤ vH x) (hx : vL x = ((i, 1) :: l', s)) (hi' : vH x - v ≤ i) (hl : lob (l', s) + v ≤ vH x) (h6 : vH x - v + 1 ≤ 600) (ho : c_obj hi lo = nI o) (ho2 : o ≤ 1500) (hol : o = 0 ∨ lv S o) (h0 : c_kind hi ≠ 0 ∧ c_kind hi ≠ nI 5) (hc : ∀ S', Ans (dg + 9) 148 [.ref 46, .int (nI v), .long hi, .long lo] S (some (.int (nI 0))) S' → Ans d jc ac S (some (.int (nI 0))) S') (hr : ∀ P T gT Q β D z nn g0 g1 g3 g4 g5 gn Sr, XR P T gT Q β F D z nn g0 g1 g3 g4 g5 gn tq (x :: r) S Sr → ∃ W, Ans d jr ar Sr (some (.int 1)) W ∧ sFr (topC (x :: r) - v + offC (x :: r)) Sr W ∧ sI W 6151 = nI (topC (x :: r) - v + offC (x :: r) + 1) ∧ vrel β hi lo (sA W 91 (topC (x :: r) - v + offC (x :: r))) (sL W 92 (topC (x :: r) - v + offC (x :: r))) (sL W 93 (topC (x :: r) - v + offC (x :: r)))) : opR F loc par ty G tq d jc ac jr ar x r (vH x - v + 1, vU x, (l', s)) S := by
  obtain ⟨c1, c2, c3, c4, c5⟩ := CI_len h
  obtain ⟨S', K, b1, b2, b3, b4, b5, b6, b7, b8⟩ := mgive_T (d := dg) (v := v) (hi := hi) (lo := lo) h.1 (show v ≤ topC (x :: r) by omega) (by omega) ho ho2 hol (Or.inl rfl) (fun k => by have := gC_le (C := x :: r) k; rw [List.length_cons] at this; omega)
  refine Or.inl ⟨S', hc S' b1, fun p q => CI_giveM h b3 hv b2 b4 b5 hx hi' hl h6 h0 p q, CFr_KX b3, fun P T gT Q β D z nn g0 g1 g3 g4 g5 gn Sr hX => ?_⟩
  obtain ⟨W, w1, w2, w3, w4⟩ := hr P T gT Q β D z nn g0 g1 g3 g4 g5 gn Sr hX
  have := XR_give hX (mHS_cl h.1) (mHS_ok h.1) h.2.2.2.2.1 b3 hv b4 b5 b6 rfl w2 w3 w4
  rw [hx] at this
  exact ⟨Q, β, _, nn, g0, g1, g3, g4, g5, gn, W, w1, XR_drop this⟩
end
