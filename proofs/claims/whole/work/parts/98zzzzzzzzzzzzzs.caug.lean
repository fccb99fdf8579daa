/-! AN ERROR IS CAUGHT: the class (266), the reference (348 and CAUGHT, 36) -/
theorem nI_sbt {a b : Nat} (h : b ≤ a) : nI a - nI b = nI (a - b) := by
  have e : nI a = nI (a - b) + nI b := by
    show Int32.ofNat a = Int32.ofNat (a - b) + Int32.ofNat b
    rw [← Int32.ofNat_add, show a - b + b = a by omega]
  rw [e]
  exact Int32.add_sub_cancel _ _
/-- the reference's turns, as a run goes on -/
def rGo (d : Nat) (S W : cS) : Prop := ∀ (v : Option Value) (Sf : cS), (∀ lv1, sm_get lv1 0 = some (.ref 61) → Bod d 348 32 lv1 [] W v Sf) → ∀ lv, sm_get lv 0 = some (.ref 61) → Bod d 348 32 lv [] S v Sf
section
variable {P : Nat → Prop} {T : cS} {gT : Nat} {Q : Nat → Prop} {β β' : Nat → Nat} {F : Nat → Nat → Nat → Prop} {loc par : Nat → Nat → Nat} {ty : Nat → Nat × Nat} {G : Nat → Nat → Nat → Nat × Nat × LL → Prop} {D D' K : List Nat} {z nn g0 g1 g3 g4 g5 gn d n m p q p' q' pT k e e1 oc ln tp h' u' i s t b h2 y er : Nat} {l : LL} {l2 : LL} {l' e0 : List (Nat × Nat)} {tq : Nat → Nat × Nat} {C r r0 L : List Lv} {x x0 : Lv} {S S' S1 X W Sc Sr : cS} {w : Nat → Int32} {St : (Nat → Prop) → cS → Prop} {ok : List Lv → Prop} {hi lo : Int64}
/-- the marks below an open try -/
theorem mkOk_try (hm : mkOk S b h' l) (hx : l.1 = e0 ++ (y, 0) :: l') (hs : srt l.1) (hy : y ≤ h') (e : ∀ i, i < b + y → sL S' 47 i = sL S 47 i ∧ sL S' 48 i = sL S 48 i) (hv : stLv (b + y) S') (hk : ∀ o, lv S' o → sA S' 3 o = sA S 3 o) (h0 : c_kind (sL S' 47 (b + y)) ≠ 0) (h5 : c_kind (sL S' 47 (b + y)) ≠ nI 5) : mkOk S' b (y + 1) (l', s) ∧ srt l' ∧ lob (l', s) ≤ y := by
  have hs' : ∀ (e0 : List (Nat × Nat)), srt (e0 ++ (y, 0) :: l') → srt ((y, 0) :: l') ∧ ∀ z, z ∈ e0 → y ≤ z.1 := by
    intro e0
    induction e0 with
    | nil => exact fun h => ⟨h, fun z hz => by cases hz⟩
    | cons a e0 ih =>
      intro h
      obtain ⟨h1, h2⟩ := ih h.2
      refine ⟨h1, fun z hz => ?_⟩
      rcases List.mem_cons.mp hz with c | c
      · subst c
        have hl := lob_low (e0 ++ (y, 0) :: l') 0 h.2 y 0 (List.mem_append_right _ List.mem_cons_self)
        have : lob (e0 ++ (y, 0) :: l', 0) ≤ z.1 := h.1
        omega
      · exact h2 z c
  rw [hx] at hs
  obtain ⟨⟨s1, s2⟩, s3⟩ := hs' e0 hs
  have s1 : lob (l', s) ≤ y := s1
  have h1 : mkOk S b y (l', s) := by
    refine ⟨fun i hi => ⟨(hm.1 i (by omega)).1, fun c => ?_⟩, fun z hz => hm.2 z (by rw [hx]; exact List.mem_append_right _ (List.mem_cons_of_mem _ hz))⟩
    have := (hm.1 i (by omega)).2 c
    rw [hx] at this
    rcases List.mem_append.mp this with c1 | c1
    · have := s3 _ c1
      have : y ≤ i := this
      omega
    · rcases List.mem_cons.mp c1 with c2 | c2
      · injection c2 with _ c3
        exact absurd c3 (by decide)
      · exact c2
  have h2 := mkOk_K (S' := S') (n := b + y) h1 (Nat.le_refl _) s1 s2 e hv hk
  refine ⟨⟨fun i hi => ?_, h2.2⟩, s2, s1⟩
  by_cases c : i = y
  · rw [c]
    exact ⟨h0, fun c => absurd c h5⟩
  · exact h2.1 i (by omega)
theorem tms_app (y : Nat) (l' : List (Nat × Nat)) : ∀ e0 : List (Nat × Nat), tms l' + 1 ≤ tms (e0 ++ (y, 0) :: l')
  | [] => by
    show tms l' + 1 ≤ (if (0 : Nat) = 0 then 1 else 0) + tms l'
    rw [if_pos rfl]
    omega
  | a :: e0 => by
    have := tms_app y l' e0
    show tms l' + 1 ≤ (if a.2 = 0 then 1 else 0) + tms (e0 ++ (y, 0) :: l')
    omega
/-- the class catches an error -/
theorem caught_C (h : CI F loc par ty G tq (x0 :: r0) S) (hw : x0 :: r0 = L ++ x :: r) (hx : (vL x).1 = e0 ++ (y, 0) :: l') (ht : vT x + tms l' + 1 = vT x0 + vU x0) (hy0 : vB x + y ≤ vB x0 + vH x0) (hb : lbo (vS x)) (hy : y ≤ vH x) (hy6 : y + 1 ≤ 600) (h55 : ∀ i, i + 1 < (x0 :: r0).length → ∃ e, sA S 55 i = nI e) (her : er ≠ 100) (her2 : er < 2 ^ 20) (q : Nat) : ∃ S' K, Ans (d + 17) 266 [.ref 52, .int (nI er)] S (some (.int (nI 1))) S' ∧ CI F loc par ty G tq (vAt x (tq (vT x + tms l')).1 q (y + 1, tms l', (l', (vL x).2)) :: r) S' ∧ KXr K S S' ∧ (∀ i, i < vB x + y → sL S' 47 i = sL S 47 i ∧ sL S' 48 i = sL S 48 i) ∧ sL S' 47 (vB x + y) = 2305843009213693952 ∧ sL S' 48 (vB x + y) = (nI er).toInt64 ∧ sI S' 5216 = nI (tq (vT x + tms l')).1 ∧ sI S' 5217 = if L = [] then sI S 5217 else sA S 55 r.length := by
  have m266 := ml_266
  have m267 := ml_267
  have hlen : (x0 :: r0).length ≤ 31 := by have := h.2.2.2.2.2.2.1.2.2.2; show r0.length + 1 ≤ 31; omega
  have hr30 : r.length ≤ 30 := by
    have e1 : (x0 :: r0).length = (L ++ x :: r).length := by rw [hw]
    rw [List.length_append, List.length_cons (a := x)] at e1
    omega
  obtain ⟨t1, t2, t3, t4, t5, t6⟩ := (triC_dr (hw ▸ h.2.2.2.2.2.2.2.1) : triC G tq S (x :: r)).1 e0 y l' hx
  obtain ⟨c13, c14, c15, _⟩ := h.2.2.2.2.2.2.1
  have c13 : sI S 5213 = nI r0.length := c13
  have htr := CI_tri h
  obtain ⟨pl, hpl⟩ : ∃ pl, pl = (tq (vT x + tms l')).1 := ⟨_, rfl⟩
  rw [← hpl] at t1 t3
  obtain ⟨j, hj⟩ : ∃ j, j = vT x + tms l' := ⟨_, rfl⟩
  rw [← hj] at t3 t4 t5
  have htj : vT x0 + vU x0 - 1 = j := by omega
  obtain ⟨Y, hY⟩ : ∃ Y, Y = wI 5216 (nI pl) (wI 5214 (nI j) S) := ⟨_, rfl⟩
  have hF : FrL rgI [] [] S Y := by rw [hY]; exact FrL_wI (by decide) (FrL_wI (by decide) (FrL.refl _ _ _ _))
  have eA := rg_A hF
  have mY := mHS_rg h.1 hF
  obtain ⟨l1, l2, l3, l4, l5⟩ := CI_len h
  have hw' : gC (x0 :: r0) = gC (L ++ x :: r) := by rw [hw]
  rw [hw'] at mY
  obtain ⟨S1, K1, A1, m1, x1, e1, ⟨i13, i15, i14, i16⟩, i17⟩ := ends_C (d := d) (t := topC (x0 :: r0)) L (S := Y) mY (by rw [← hw]; exact cCal_E h.2.2.2.2.1 (fun a _ => by rw [eA])) (fun i hi => by
    obtain ⟨e, he⟩ := h55 i (by rw [hw]; exact hi)
    exact ⟨e, by rw [eA]; exact he⟩) (by rw [← hw]; exact hlen) (by rw [← hw, hY, rI, if_neg (by decide), rI, if_neg (by decide)]; exact c13) (by rw [← hw, hY, rI, if_neg (by decide), rI, if_neg (by decide)]; exact c15)
  have hn : (L ++ x :: r).length - 1 = r0.length := by rw [← hw]; rfl
  rw [hn] at A1
  have A267 : Ans (d + 14) 267 [.ref 52, .int (nI r.length)] Y none S1 := by
    refine Ans.of (by rw [m267]; exact Nat.le_of_ble_eq_true rfl) (Bod.lv (by rfl) (mEs_1 (d := d + 5) (cl := r0.length) (by omega) (by rw [hY, rI, if_neg (by decide), rI, if_neg (by decide)]; exact c13) (by have : r0.length + 1 ≤ 31 := hlen; omega) (fun lv1 p0 p1 p2 => A1 lv1 p0 p1 p2)))
  have x01 : KXr K1 S S1 := KXr_t (K1 := []) ⟨S, KX_refl S, hF⟩ x1 (mHS_cl mY) (mHS_ok h.1)
  obtain ⟨S2, K2, A2, m2, x2, e2, _⟩ := mpop_T (d := d + 6) (v := topC (x0 :: r0) - (vB x + y)) m1 (by omega)
  have ety : topC (x0 :: r0) - (topC (x0 :: r0) - (vB x + y)) = vB x + y := by
    have : topC (x0 :: r0) = vB x0 + vH x0 := rfl
    omega
  rw [ety] at m2
  have x02 := KXr_X x01 x2 (mHS_cl m1) (mHS_ok h.1)
  obtain ⟨S3, A3, m3, x3, v1, v2, v3⟩ := mpush_T (d := d + 13) (hi := 2305843009213693952) (lo := (nI er).toInt64) (o := 0) m2 (by omega) (int_o _).1 (by omega) (Or.inl rfl) (Or.inl rfl) (fun k => by have := gC_le (C := x :: r) k; rw [List.length_cons] at this; omega)
  have x03 := KXr_X x02 x3 (mHS_cl m2) (mHS_ok h.1)
  have hlow : ∀ i, i < vB x + y → sL S3 47 i = sL S 47 i ∧ sL S3 48 i = sL S 48 i := fun i hi => by
    obtain ⟨a1, a2⟩ := v1 i hi
    have e3 : sL S2 = sL S := by rw [e2, e1]; exact rg_L hF
    rw [a1, a2, e3]
    exact ⟨rfl, rfl⟩
  have hstk := (stkC_dr (hw ▸ h.2.2.1) : stkC S (x :: r))
  have hok := mHS_ok h.1
  have hEE : ∀ o, lv S3 o → lv S o ∧ obE S S3 o := fun o ho => by
    obtain ⟨a1, a2⟩ := (KXr_lv x03 o).mp ho
    exact ⟨a1, KXr_E x03 (hok o a1.1 a1.2.1) a2⟩
  obtain ⟨hmk, hsl, hll⟩ := mkOk_try (S' := S3) (s := (vL x).2) hstk.1 hx hb.2.1 hy hlow (fun i hi => m3.2.2.2.2.1 i (by omega)) (fun o ho => (hEE o ho).2.1) (by rw [v2]; decide) (by rw [v2]; decide)
  have hI23 : ∀ i, i ∉ kxI → sI S3 i = sI S1 i := fun i hi => (x3.1.I hi).trans (x2.1.I hi)
  have htm : tms l' ≤ 10 := by
    have h1 : vU x = tms (vL x).1 := hb.1
    have h2 : vU x ≤ 10 := hb.2.2.2.2
    have := tms_app y l' e0
    rw [← hx] at this
    omega
  refine ⟨S3, _, ?_, ?_, x03, hlow, v2, v3, ?_, ?_⟩
  · have a3 : 3 * (vT x0 + vU x0) - 3 = 3 * j := by omega
    have a1 : 3 * (vT x0 + vU x0) - 1 = 3 * j + 2 := by omega
    have eg : sA (wI 5214 (nI (vT x0 + vU x0 - 1)) S) 60 (3 * (vT x0 + vU x0) - 3) = nI pl := by
      rw [a3]
      exact t3
    have hb266 : Bod (d + 16) 266 0 [(0, .ref 52), (1, .int (nI er))] [] S (some (.int 1)) S3 := by
      refine mCg_3 (d := d + 8) (tr := vT x0 + vU x0) (tr1 := j) (t := topC (x0 :: r0)) (S1 := S1) (S2 := S2) her2 her c14 (by omega) (by omega) (by omega) (by omega) ?_ m1.2.2.1 (by omega) (by rw [i14, hY, rI, if_neg (by decide), rIe]) (by omega) ?_ (A3.up (by omega))
      · have e60 : sA (wI 5216 (nI pl) (wI 5214 (nI (vT x0 + vU x0 - 1)) S)) 60 (3 * (vT x0 + vU x0) - 1) = nI r.length := by
          rw [a1]
          exact t5
        rw [eg, e60, htj, ← hY]
        exact A267.up (by omega)
      · have e60 : sA S1 60 (3 * j + 1) = nI (vB x + y) := by
          rw [KXr_A x01 (by decide)]
          exact t4
        rw [e60, nI_sbt (by have : topC (x0 :: r0) = vB x0 + vH x0 := rfl; omega)]
        exact A2.up (by omega)
    exact Ans.of (by rw [m266]; exact Nat.le_of_ble_eq_true rfl) (Bod.lv (by rfl) hb266)
  · exact CI_lv (L := L) (hw ▸ h) hEE (KXr_rw x03 h.2.1) (by rw [show vB x + (y + 1) = vB x + y + 1 by omega]; exact m3) (fun a ha => KXr_A x03 (fun c => by revert ha c; revert a; decide)) (KXr_L x03 (by decide)) (fun i hi => hlow i (by omega)) hmk ⟨rfl, hsl, by show lob (l', _) ≤ y + 1; omega, hy6, htm⟩ rfl (fun e z l'' hz => ⟨e0 ++ (y, 0) :: e, by rw [hx]; have hz : l' = e ++ (z, 0) :: l'' := hz; rw [hz]; simp⟩) ⟨by rw [hI23 _ (by decide)]; exact i13, by rw [hI23 _ (by decide), i14, hY, rI, if_neg (by decide), rIe, hj], by rw [hI23 _ (by decide)]; exact i15⟩ _ q
  · rw [hI23 _ (by decide), i16, hY, rIe, hpl]
  · have e17 : sI Y 5217 = sI S 5217 := by rw [hY, rI, if_neg (by decide), rI, if_neg (by decide)]
    rw [hI23 _ (by decide), i17, eA, e17]
end
