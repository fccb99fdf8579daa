/-! FLOW ON BOTH SIDES: tries left (13 | 35 so many times) -/
section
variable {P : Nat → Prop} {T : cS} {gT : Nat} {Q : Nat → Prop} {β β' : Nat → Nat} {F : Nat → Nat → Nat → Prop} {loc par : Nat → Nat → Nat} {ty : Nat → Nat × Nat} {G : Nat → Nat → Nat → Nat × Nat × LL → Prop} {D D' K : List Nat} {z nn g0 g1 g3 g4 g5 gn d d' v n m p q p' q' P' Q' pT k e e1 oc ln tp rc i s t u2 : Nat} {tq tq' : Nat → Nat × Nat} {C r : List Lv} {x : Lv} {S S' S1 S2 X W Sc Sr : cS} {w : Nat → Int32} {s' : Nat × Nat × LL} {St : (Nat → Prop) → cS → Prop} {ok : List Lv → Prop} {l2 : LL}
/-- the tries open are few -/
theorem tri_le : ∀ {C : List Lv}, cCal S C → stkC S C → ∀ x, C.head? = some x → vT x + vU x ≤ 10 * C.length := by
  intro C
  induction C with
  | nil => intro _ _ x hx; cases hx
  | cons y r ih =>
    intro hc hs x hx
    have e : y = x := Option.some.inj hx
    subst e
    have h10 : vU y ≤ 10 := hs.2.1.2.2.2.2
    cases r with
    | nil =>
      obtain ⟨_, _, _, h0⟩ := hc
      rw [h0]
      show 0 + vU y ≤ 10 * 1
      omega
    | cons y2 r =>
      obtain ⟨⟨_, _, _, _, _, _, _, h8, _⟩, hc2⟩ := hc
      have := ih hc2 hs.2.2 y2 rfl
      rw [List.length_cons]
      omega
theorem CI_tri (h : CI F loc par ty G tq (x :: r) S) : vT x + vU x ≤ 310 := by
  have h1 := tri_le h.2.2.2.2.1 h.2.2.1 x rfl
  have h2 : r.length ≤ 30 := h.2.2.2.2.2.2.1.2.2.2
  rw [List.length_cons] at h1
  omega
theorem XR_14 {k : Int32} (h : XR P T gT Q β F D z nn g0 g1 g3 g4 g5 gn tq C S Sr) : XR P T gT Q β F D z nn g0 g1 g3 g4 g5 gn tq C (wI 5214 k S) Sr := by
  obtain ⟨a1, a2, a3, a4, a5, a6, a7, a8, a9, a10, a11⟩ := h
  have eI : ∀ i, i ≠ 5214 → sI (wI 5214 k S) i = sI S i := fun i hi => if_neg hi
  refine ⟨HR_c a1 (fun q => Iff.rfl) (fun j _ => ⟨rfl, rfl, rfl, rfl, rfl, fun _ _ => rfl⟩), a2, a3, stkR_s a4 rfl rfl rfl rfl rfl, a5, a6, a7, lnC_E a8 rfl (eI 5217 (by decide)) rfl, ?_, a10, a11⟩
  obtain ⟨⟨b1, b2⟩, ⟨o, o1, o2, o3, o4⟩, hu⟩ := a9
  exact ⟨⟨by rw [eI 5218 (by decide)]; exact b1, by rw [eI 5219 (by decide)]; exact b2⟩, ⟨o, o1, by rw [eI 4906 (by decide)]; exact o2, o3, o4⟩, hu⟩
theorem ldr_ldr (l : LL) (j : Nat) : ldr j (ldr 1 l) = ldr (j + 1) l := by
  unfold ldr
  rw [List.drop_drop, Nat.add_comm 1 j]
theorem untry_ref : ∀ (j : Nat) {x : Lv} {Sr : cS}, XR P T gT Q β F D z nn g0 g1 g3 g4 g5 gn tq (x :: r) S Sr → tmk (vL x) j → j ≤ vU x → vT x + vU x ≤ 310 → r.length ≤ 30 → vQ x + j < 2 ^ 20 → (∀ i, i < j → rwT P T (vM x) (vQ x + i) (nI 35)) → ∃ n W, rRn (d + 10) n Sr 1 W ∧ XR P T gT Q β F D z nn g0 g1 g3 g4 g5 gn tq (vAt x (vP x) (vQ x + j) (vH x, vU x - j, ldr j (vL x)) :: r) S W := by
  intro j
  induction j with
  | zero =>
    intro x Sr hX _ _ _ _ _ _
    exact ⟨0, Sr, ⟨rfl, rfl⟩, hX⟩
  | succ j ih =>
    intro x Sr hX hm hj ht hr hq hw
    have m400 := ml_400
    have hw0 := rw_of hX (hw 0 (by omega))
    have hm1 : tmk (vL x) 1 := ⟨by have := hm.1; omega, fun y hy => by
      have h1 := hm.1
      cases hl : (vL x).1 with
      | nil => rw [hl, List.length_nil] at h1; omega
      | cons a l =>
        rw [hl, List.take_succ_cons, List.take_zero] at hy
        have e := List.mem_singleton.mp hy
        exact hm.2 y (by rw [hl, List.take_succ_cons, e]; exact List.mem_cons_self)⟩
    have hm2 : tmk (ldr 1 (vL x)) j := ⟨by
      show j ≤ ((vL x).1.drop 1).length
      have := hm.1
      rw [List.length_drop]
      omega, fun y hy => by
      have h1 := hm.1
      cases hl : (vL x).1 with
      | nil => rw [hl, List.length_nil] at h1; omega
      | cons a l =>
        have hy' : y ∈ ((vL x).1.drop 1).take j := hy
        rw [hl, List.drop_succ_cons, List.drop_zero] at hy'
        exact hm.2 y (by rw [hl, List.take_succ_cons]; exact List.mem_cons_of_mem _ hy')⟩
    have X1 := XR_un (n := 1) (XR_at hX (q' := vQ x + 1) (by omega) (vP x)) hm1 (by show 1 ≤ vU x; omega)
    have htr : sI (wA 95 r.length (nI (vQ x + 1)) Sr) 6163 = nI (vT x + vU x) := by
      have e := hX.2.2.2.2.2.1.2.2
      exact e
    have hb : Ans (d + 9) 400 [.ref 61, .int (nI 35), .int (nI 0)] (wA 95 r.length (nI (vQ x + 1)) Sr) (some (.int 1)) (wI 6163 (nI (vT x + vU x - 1)) (wA 95 r.length (nI (vQ x + 1)) Sr)) := Ans.of (by rw [m400]; exact Nat.le_of_ble_eq_true rfl) (Bod.lv (by rfl) (rPl_39 (d := d) (by omega) (by omega) rfl htr (by omega) (by omega)))
    rw [show vT x + vU x - 1 = vT x + (vU x - 1) by omega] at hb
    have hs := once_n (d := d + 1) (XR_top hX) hr hw0 (by omega) (by decide) (by decide) (Or.inr rfl) hb
    obtain ⟨n, W, c1, c2⟩ := ih X1 hm2 (by show j ≤ vU x - 1; omega) (by show vT x + (vU x - 1) ≤ 310; omega) hr (by show vQ x + 1 + j < 2 ^ 20; omega) (fun i hi => by
      have := hw (i + 1) (by omega)
      rw [show vQ x + (i + 1) = vQ x + 1 + i by omega] at this
      exact this)
    refine ⟨n + 1, W, ⟨ftR_of (XR_top hX) hr hw0 (by omega) (by omega), Or.inr ⟨_, hs, c1⟩⟩, ?_⟩
    have c3 : XR P T gT Q β F D z nn g0 g1 g3 g4 g5 gn tq (vAt x (vP x) (vQ x + 1 + j) (vH x, vU x - 1 - j, ldr j (ldr 1 (vL x))) :: r) S W := c2
    rw [ldr_ldr, show vQ x + 1 + j = vQ x + (j + 1) by omega, show vU x - 1 - j = vU x - (j + 1) by omega] at c3
    exact c3
end
