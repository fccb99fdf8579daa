/-! CALLS THAT END: where an error is caught; the calls above it end -/
section
variable {F : Nat → Nat → Nat → Prop} {loc par : Nat → Nat → Nat} {ty : Nat → Nat × Nat} {G : Nat → Nat → Nat → Nat × Nat × LL → Prop} {d n m p q k j f s o t i e z y u v kd md fr fr' ln op ni : Nat} {g g' : Nat → Nat} {tq : Nat → Nat × Nat} {C r : List Lv} {x : Lv} {K K1 K2 : List Nat} {S S' S1 S2 X Y W Z : cS} {hi lo : Int64} {l : List (Nat × Nat)}
theorem tms_pos : ∀ {l : List (Nat × Nat)}, 0 < tms l → ∃ e y l', l = e ++ (y, 0) :: l' ∧ tms l = tms l' + 1
  | [], h => absurd h (by decide)
  | (y, k) :: l, h => by
    have e0 : tms ((y, k) :: l) = (if k = 0 then 1 else 0) + tms l := rfl
    by_cases c : k = 0
    · subst c
      refine ⟨[], y, l, rfl, ?_⟩
      rw [e0, if_pos rfl]
      omega
    · rw [e0, if_neg c] at h
      obtain ⟨e, y', l', h1, h2⟩ := tms_pos (l := l) (by omega)
      refine ⟨(y, k) :: e, y', l', by rw [h1]; rfl, ?_⟩
      rw [e0, if_neg c]
      omega
/-- where the innermost open try is -/
theorem find_try : ∀ {r0 : List Lv} {x0 : Lv}, cCal S (x0 :: r0) → stkC S' (x0 :: r0) → 0 < vT x0 + vU x0 → ∃ L x r e y l', x0 :: r0 = L ++ x :: r ∧ (vL x).1 = e ++ (y, 0) :: l' ∧ vT x + tms l' + 1 = vT x0 + vU x0 ∧ vB x + y ≤ vB x0 + vH x0 ∧ lbo (vS x) ∧ y ≤ vH x := by
  intro r0
  induction r0 with
  | nil =>
    intro x0 hc hs hp
    obtain ⟨c1, c2, c3, c4⟩ := hc
    obtain ⟨s1, s2, s3⟩ := hs
    have hu : vU x0 = tms (vL x0).1 := s2.1
    obtain ⟨e, y, l', h1, h2⟩ := tms_pos (l := (vL x0).1) (by omega)
    have hb : lob ((vL x0).1, (vL x0).2) ≤ vH x0 := s2.2.2.1
    have hl := lob_low (vL x0).1 (vL x0).2 s2.2.1 y 0 (by rw [h1]; exact List.mem_append_right _ List.mem_cons_self)
    exact ⟨[], x0, [], e, y, l', rfl, h1, by omega, by omega, s2, by omega⟩
  | cons z r0 ih =>
    intro x0 hc hs hp
    obtain ⟨s1, s2, s3⟩ := hs
    have hu : vU x0 = tms (vL x0).1 := s2.1
    by_cases c : 0 < vU x0
    · obtain ⟨e, y, l', h1, h2⟩ := tms_pos (l := (vL x0).1) (by omega)
      have hb : lob ((vL x0).1, (vL x0).2) ≤ vH x0 := s2.2.2.1
      have hl := lob_low (vL x0).1 (vL x0).2 s2.2.1 y 0 (by rw [h1]; exact List.mem_append_right _ List.mem_cons_self)
      exact ⟨[], x0, z :: r0, e, y, l', rfl, h1, by omega, by omega, s2, by omega⟩
    · obtain ⟨⟨_, _, _, _, _, cb, _, ct, _, _⟩, hc2⟩ := hc
      obtain ⟨L, x, r, e, y, l', h1, h2, h3, h4, h5, h6⟩ := ih hc2 s3 (by omega)
      exact ⟨x0 :: L, x, r, e, y, l', by rw [h1]; rfl, h2, by omega, by omega, h5, h6⟩
def hdF (C : List Lv) : Nat := match C with
  | [] => 0
  | x :: _ => vF x
/-- the calls above one end -/
theorem ends_C : ∀ (L : List Lv) {S : cS}, mHS 0 (gC (L ++ x :: r)) t S → cCal S (L ++ x :: r) → (∀ i, i + 1 < (L ++ x :: r).length → ∃ e, sA S 55 i = nI e) → (L ++ x :: r).length ≤ 31 → sI S 5213 = nI ((L ++ x :: r).length - 1) → sI S 5215 = nI (hdF (L ++ x :: r)) → ∃ S' K, (∀ lv, sm_get lv 0 = some (.ref 52) → sm_get lv 1 = some (.int (nI r.length)) → sm_get lv 2 = some (.int (nI ((L ++ x :: r).length - 1))) → Bod (d + 13) 267 5 lv [] S none S') ∧ mHS 0 (gC (x :: r)) t S' ∧ KXr K S S' ∧ sL S' = sL S ∧ (sI S' 5213 = nI r.length ∧ sI S' 5215 = nI (vF x) ∧ sI S' 5214 = sI S 5214 ∧ sI S' 5216 = sI S 5216) ∧ sI S' 5217 = if L = [] then sI S 5217 else sA S 55 r.length := by
  intro L
  induction L with
  | nil =>
    intro S hm hc h55 hlen h13 h15
    have hlen : r.length + 1 ≤ 31 := hlen
    refine ⟨S, [], fun lv q0 q1 q2 => ?_, hm, KXr_of (KX_refl S), rfl, ⟨h13, h15, rfl, rfl⟩, by rw [if_pos rfl]⟩
    have e : ([] ++ x :: r).length - 1 = r.length := rfl
    rw [e] at q2
    exact mEsL_1 (d := d + 5) q0 q1 q2 (by omega) (by omega) (Nat.le_refl _)
  | cons a L ih =>
    intro S hm hc h55 hlen h13 h15
    obtain ⟨b, C2, hC2⟩ : ∃ b C2, L ++ x :: r = b :: C2 := by
      cases L with
      | nil => exact ⟨x, r, rfl⟩
      | cons b L => exact ⟨b, L ++ x :: r, rfl⟩
    have hle : r.length ≤ C2.length := by
      have h1 : (L ++ x :: r).length = C2.length + 1 := by rw [hC2]; rfl
      rw [List.length_append, List.length_cons] at h1
      omega
    have eC : a :: L ++ x :: r = a :: b :: C2 := by rw [List.cons_append, hC2]
    rw [eC] at hm hc h55 hlen h13 h15
    have hlen : C2.length + 2 ≤ 31 := hlen
    have h13 : sI S 5213 = nI (C2.length + 1) := h13
    have h15 : sI S 5215 = nI (vF a) := h15
    obtain ⟨⟨c54, c56, c57, c58, c59, cb, cv, ct, cf, cp⟩, hc2⟩ := hc
    obtain ⟨ln, hln⟩ := h55 C2.length (by show C2.length + 1 < C2.length + 2; omega)
    have ga := gC_pos (C := a :: b :: C2) (y := a) List.mem_cons_self
    have lvS : ∀ o, 0 < gC (a :: b :: C2) o → lv S o := fun o ho => hm.2.2.2.2.2.2.1 o ho
    have hvf := lvS _ (ga.1 cf)
    have hvd : vD a = 0 ∨ lv S (vD a) := by
      by_cases c : vD a = 0
      · exact Or.inl c
      · exact Or.inr (lvS _ (ga.2 c))
    have hd15 : vD a ≤ 1500 := by
      rcases hvd with c | c
      · omega
      · exact c.2.1
    obtain ⟨S1, K1, A1, m1, x1, e1, i13, i15, i17, i14, i16⟩ := end_C (d := d) (g' := gC (b :: C2)) hm h13 (by omega) h15 c58 hln c59 hvf.2.1 (Or.inr hvf) hd15 hvd (fun k _ => by
      show gC (b :: C2) k + dl (vF a) k + dl (vD a) k = dl (vF a) k + dl (vD a) k + gC (b :: C2) k
      omega) (gC_0 _)
    have hc3 : cCal S1 (L ++ x :: r) := by rw [hC2]; exact cCal_E hc2 (fun a ha => KXr_A x1 (fun c => by revert ha c; revert a; decide))
    obtain ⟨S2, K2, A2, m2, x2, e2, ⟨j13, j15, j14, j16⟩, j17⟩ := ih (S := S1) (by rw [hC2]; exact m1) hc3 (fun i hi => by
      rw [hC2] at hi
      obtain ⟨e, he⟩ := h55 i (by have : i + 1 < C2.length + 1 := hi; show i + 1 < C2.length + 2; omega)
      exact ⟨e, by rw [KXr_A x1 (by decide)]; exact he⟩) (by rw [hC2]; show C2.length + 1 ≤ 31; omega) (by rw [hC2]; exact i13) (by rw [hC2]; exact i15)
    refine ⟨S2, K1 ++ K2, fun lv q0 q1 q2 => ?_, m2, KXr_t x1 x2 (mHS_cl m1) (mHS_ok hm), by rw [e2, e1], ⟨j13, j15, by rw [j14, i14], by rw [j16, i16]⟩, ?_⟩
    · rw [eC] at q2
      have q2 : sm_get lv 2 = some (.int (nI (C2.length + 1))) := q2
      refine mEsM_3 (d := d + 5) q0 q1 q2 (by omega) (by omega) (by omega) (by omega) (A1.up (by omega)) (fun lv1 p0 p1 p2 => A2 lv1 p0 p1 ?_)
      rw [hC2]
      exact p2
    · rw [if_neg (List.cons_ne_nil _ _), j17]
      by_cases c : L = []
      · rw [if_pos c, i17]
        subst c
        have : C2 = r := by
          have e := hC2
          rw [List.nil_append] at e
          injection e with _ e2
          exact e2.symm
        rw [← this]
        exact hln.symm
      · rw [if_neg c]
        exact congrFun (KXr_A x1 (by decide)) _
end
