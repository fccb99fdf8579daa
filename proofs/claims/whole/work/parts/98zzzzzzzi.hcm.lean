/-! HEIGHTS (pure): while, for -/
section
variable {K : Nat → Nat} {lp : LpT} {ls : HS} {a b d l3 ex : List Op} {ca ra tr lk h : Nat} {l : LL} {fs fs' : FS}
theorem wb_o (b : List Op) (ce re c r : Nat) (w : LO) (h : opsO w = b) : opsO (rsvL K ce re c r w) = rsv K ce re c r b ∧ wC (opsO (rsvL K ce re c r w)) = wC b ∧ wR K (opsO (rsvL K ce re c r w)) = wR K b := by
  rw [rsvL_o, h]
  exact ⟨rfl, (rsv_w _ _ _).1, (rsv_w _ _ _).2.1⟩
theorem wh_H (hl : lob l ≤ h) (hh : h ≤ 80) (ht : tr ≤ 10) (h3 : hF K l.2 l3 (some (h, tr, l)) (some (h + 1, tr, l))) (hb : hO K (some (ca + 2, ra + 2, tr)) (some (h, tr, l)) (ca + 4 + wC l3 + 2) (ra + 4 + wR K l3 + 2) b (some (h, tr, l)) (some (h, tr, l)) fs) : hO K lp ls ca ra ((4, [], 4, 3) :: (2, [lk], 0, 0) :: (l3 ++ (5, [], ((4 + wC b : Nat) : Int), ((3 + wR K b : Nat) : Int)) :: (rsv K (ca + 4 + wC l3 + 2 + wC b + 2) (ra + 4 + wR K l3 + 2 + wR K b + 2) (ca + 4 + wC l3 + 2) (ra + 4 + wR K l3 + 2) b ++ [(4, [], ((ca + 2 : Nat) : Int) - (ca + 4 + wC l3 + 2 + wC b : Nat), ((ra + 2 : Nat) : Int) - ((ra + 4 + wR K l3 + 2 + wR K b : Nat) + 1))]))) (some (h, tr, l)) (some (h, tr, l)) fs := by
  obtain ⟨u, u1, u2, u3, _⟩ := h3
  obtain ⟨v, v1, v2, v3, v4⟩ := hb
  obtain ⟨z1, z2, z3⟩ := wb_o (K := K) b (ca + 4 + wC l3 + 2 + wC b + 2) (ra + 4 + wR K l3 + 2 + wR K b + 2) (ca + 4 + wC l3 + 2) (ra + 4 + wR K l3 + 2) v v1
  have key : ∀ (o1 o2 o5 o4 : Op) (B W : LO), o1 = (4, [], 4, 3) → o2 = (2, [lk], 0, 0) → o5 = (5, [], ((4 + wC b : Nat) : Int), ((3 + wR K b : Nat) : Int)) → B = rsvL K (ca + 4 + wC l3 + 2 + wC b + 2) (ra + 4 + wR K l3 + 2 + wR K b + 2) (ca + 4 + wC l3 + 2) (ra + 4 + wR K l3 + 2) v → o4 = (4, [], ((ca + 2 : Nat) : Int) - (ca + 4 + wC l3 + 2 + wC b : Nat), ((ra + 2 : Nat) : Int) - ((ra + 4 + wR K l3 + 2 + wR K b : Nat) + 1)) → W = [(o1, some (h, tr, l))] ++ ([(o2, some (h, tr, l))] ++ (u ++ ([(o5, some (h + 1, tr, l))] ++ (B ++ [(o4, some (h, tr, l))])))) → hO K lp ls ca ra ([o1] ++ ([o2] ++ (l3 ++ ([o5] ++ (rsv K (ca + 4 + wC l3 + 2 + wC b + 2) (ra + 4 + wR K l3 + 2 + wR K b + 2) (ca + 4 + wC l3 + 2) (ra + 4 + wR K l3 + 2) b ++ [o4]))))) (some (h, tr, l)) (some (h, tr, l)) fs := by
    intro o1 o2 o5 o4 B W e1 e2 e5 eB e4 eW
    have c1 : lC o1 = 2 ∧ lR K o1 = 2 := by rw [e1]; exact ⟨rfl, rfl⟩
    have c2 : lC o2 = 2 ∧ lR K o2 = 2 := by rw [e2]; exact ⟨rfl, rfl⟩
    have c5 : lC o5 = 2 ∧ lR K o5 = 2 := by rw [e5]; exact ⟨rfl, rfl⟩
    have c4 : lC o4 = 2 ∧ lR K o4 = 2 := by rw [e4]; exact ⟨rfl, rfl⟩
    have s1 : ∀ (o : Op) (s : HS), wC (opsO [(o, s)]) = lC o ∧ wR K (opsO [(o, s)]) = lR K o := fun o s => w1 o
    have cB : wC (opsO B) = wC b ∧ wR K (opsO B) = wR K b := by rw [eB]; exact ⟨z2, z3⟩
    have cu : wC (opsO u) = wC l3 ∧ wR K (opsO u) = wR K l3 := by rw [u1]; exact ⟨rfl, rfl⟩
    have hB : ∀ e, hhd B e = hhd v e := fun e => by rw [eB, rsvL_h]
    have t2 : hbn K (some (h, tr, l)) W ca ra (ca + 2) (ra + 2) (h, tr, l) := by
      rw [eW]
      exact hbn_r (hbn_pq (hbn_0 rfl) (by rw [(s1 _ _).1]; omega) (by rw [(s1 _ _).2]; omega))
    have te : hbn K (some (h, tr, l)) W ca ra (ca + 4 + wC l3 + 2 + wC b + 2 : Nat) (ra + 4 + wR K l3 + 2 + wR K b + 2 : Nat) (h, tr, l) := by
      rw [eW]
      refine hbn_pq hbn_e ?_ ?_
      · simp only [opsO_app, wC_app, (s1 _ _).1, cB.1, cu.1, c1.1, c2.1, c5.1, c4.1]; omega
      · simp only [opsO_app, wR_app, (s1 _ _).2, cB.2, cu.2, c1.2, c2.2, c5.2, c4.2]; omega
    have inr3 : ∀ p q s, hbn K (some (h + 1, tr, l)) u ((ca : Int) + 2 + 2) ((ra : Int) + 2 + 2) p q s → hbn K (some (h, tr, l)) W ca ra p q s := fun p q s g => by
      rw [eW]
      exact hbn_r (hbn_r (hbn_at (hbn_l g) (by rw [(s1 _ _).1, (s1 _ _).1]; omega) (by rw [(s1 _ _).2, (s1 _ _).2]; omega)))
    have inrB : ∀ p q s, hbn K (some (h, tr, l)) v (ca + 4 + wC l3 + 2 : Nat) (ra + 4 + wR K l3 + 2 : Nat) p q s → hbn K (some (h, tr, l)) W ca ra p q s := fun p q s g => by
      have g' := rsvL_b (ce := ca + 4 + wC l3 + 2 + wC b + 2) (re := ra + 4 + wR K l3 + 2 + wR K b + 2) v (ca + 4 + wC l3 + 2) (ra + 4 + wR K l3 + 2) _ _ g
      rw [← eB] at g'
      rw [eW]
      exact hbn_r (hbn_r (hbn_r (hbn_r (hbn_at (hbn_l g') (by rw [(s1 _ _).1, (s1 _ _).1, (s1 _ _).1, cu.1]; omega) (by rw [(s1 _ _).2, (s1 _ _).2, (s1 _ _).2, cu.2]; omega)))))
    refine ⟨W, by rw [eW, opsO_app, opsO_app, opsO_app, opsO_app, opsO_app, u1, eB, z1]; rfl, by rw [eW]; rfl, ?_, fun f hf => inrB _ _ _ (v4 f hf)⟩
    have hW : hA K (fun p q s => hbn K (some (h, tr, l)) W ca ra p q s ∨ (lpP lp p q ∧ ls = some s) ∨ fnP fs p s) ls (some (h, tr, l)) ([(o1, some (h, tr, l))] ++ ([(o2, some (h, tr, l))] ++ (u ++ ([(o5, some (h + 1, tr, l))] ++ (B ++ [(o4, some (h, tr, l))]))))) ca ra := by
      refine hA_app (hA_j (by rw [e1]) (lbb_s (by omega) ht) (fun s hs => ?_)) (hA_app ?_ (hA_app ?_ (hA_app (hA_5 (by rw [e5]) hl (by omega) ht (Or.inl (hbn_pq te ?_ ?_)) ?_) (hA_app ?_ (hA_j (by rw [e4]) (lbb_s (by omega) ht) (fun s hs => ?_))))))
      · injection hs with hs
        subst hs
        refine Or.inl (inr3 _ _ _ ?_)
        have q1 : o1.2.2.1 = 4 := by rw [e1]
        have q2 : o1.2.2.2 = 3 := by rw [e1]
        rw [q1, q2]
        exact hbn_pq (hbn_0 u2) (by omega) (by omega)
      · rw [e2]
        exact hA_0 (by omega) hl (by omega) ht (by rw [hhd_app]; exact u2)
      · exact hA_in (c := (ca : Int) + 2 + 2) (r := (ra : Int) + 2 + 2) u3 (by rw [(s1 _ _).1, (s1 _ _).1, c1.1, c2.1]; rfl) (by rw [(s1 _ _).2, (s1 _ _).2, c1.2, c2.2]; rfl) (fun p q s g => Or.inl (inr3 _ _ _ g))
      · have q1 : o5.2.2.1 = ((4 + wC b : Nat) : Int) := by rw [e5]
        rw [q1, (s1 _ _).1, (s1 _ _).1, c1.1, c2.1, cu.1]; omega
      · have q1 : o5.2.2.2 = ((3 + wR K b : Nat) : Int) := by rw [e5]
        rw [q1, (s1 _ _).2, (s1 _ _).2, c1.2, c2.2, cu.2]; omega
      · rw [hhd_app, hB]; exact v2
      · have g := rsvL_A (K := K) (ls := ls) (ce := ca + 4 + wC l3 + 2 + wC b + 2) (re := ra + 4 + wR K l3 + 2 + wR K b + 2) v (ca + 4 + wC l3 + 2) (ra + 4 + wR K l3 + 2) (hA_T v3 (T' := fun p q s => hbn K (some (h, tr, l)) W ca ra p q s ∨ (lpP lp p q ∧ ls = some s) ∨ fnP fs p s) (fun p q s g => ?_)) (fun s hs => ?_)
        · rw [← eB] at g
          refine hA_at g ?_ ?_
          · rw [(s1 _ _).1, (s1 _ _).1, (s1 _ _).1, cu.1, c1.1, c2.1, c5.1]; omega
          · rw [(s1 _ _).2, (s1 _ _).2, (s1 _ _).2, cu.2, c1.2, c2.2, c5.2]; omega
        · rcases g with g | ⟨⟨g1, g2⟩, g3⟩ | g
          · exact Or.inl (inrB _ _ _ g)
          · injection g3 with g3
            subst g3
            have g1' : p = ((ca + 2 : Nat) : Int) := g1
            have g2' : q = ((ra + 2 : Nat) : Int) := g2
            exact Or.inl (hbn_pq t2 (by omega) (by omega))
          · exact Or.inr (Or.inr g)
        · injection hs with hs
          subst hs
          exact Or.inl te
      · injection hs with hs
        subst hs
        refine Or.inl (hbn_pq t2 ?_ ?_)
        · have : o4.2.2.1 = ((ca + 2 : Nat) : Int) - (ca + 4 + wC l3 + 2 + wC b : Nat) := by rw [e4]
          rw [this, (s1 _ _).1, (s1 _ _).1, (s1 _ _).1, cu.1, cB.1, c1.1, c2.1, c5.1]; omega
        · have : o4.2.2.2 = ((ra + 2 : Nat) : Int) - ((ra + 4 + wR K l3 + 2 + wR K b : Nat) + 1) := by rw [e4]
          rw [this, (s1 _ _).2, (s1 _ _).2, (s1 _ _).2, cu.2, cB.2, c1.2, c2.2, c5.2]; omega
    rw [← eW] at hW
    exact hW
  exact key _ _ _ _ _ _ rfl rfl rfl rfl rfl rfl
theorem hA_9 {T : Int → Int → Nat × Nat × LL → Prop} {e : HS} {c r : Int} {o : Op} (h9 : o.1 = 9) (hl : lob l ≤ h) (hh : h + 1 ≤ 600) (ht : tr ≤ 10) (he : e = some (h + 2, tr, lcn h l)) : hA K T ls e [(o, some (h + 1, tr, l))] c r := hA_1 (lbb_s hh ht) (fun h' t' l' hx => by
  injection hx with hx
  injection hx with e1 e2
  injection e2 with e2 e3
  subst e1; subst e2; subst e3
  refine ⟨?_, fun hj => by unfold isJ at hj; omega, (fun c6 => by omega), fun c6 => by omega⟩
  unfold hef
  rw [if_pos h9]
  exact ⟨by omega, he⟩)
theorem hA_10 {T : Int → Int → Nat × Nat × LL → Prop} {e : HS} {c r : Int} {o : Op} (h10 : o.1 = 10) (hh : h + 2 ≤ 600) (ht : tr ≤ 10) (hT : T (c + o.2.2.1) (r + 1 + o.2.2.2) (h + 2, tr, lcn h l)) (he : e = some (h + 3, tr, lcn h l)) : hA K T ls e [(o, some (h + 2, tr, lcn h l))] c r := hA_1 (lbb_s hh ht) (fun h' t' l' hx => by
  injection hx with hx
  injection hx with e1 e2
  injection e2 with e2 e3
  subst e1; subst e2; subst e3
  refine ⟨?_, fun hj => by rw [hjs_n (by omega)]; exact hT, (fun c6 => by omega), fun c6 => by omega⟩
  unfold hef
  rw [if_neg (by omega), if_pos h10]
  exact ⟨⟨h, l, rfl, rfl⟩, he⟩)
theorem hA_11 {T : Int → Int → Nat × Nat × LL → Prop} {e : HS} {c r : Int} {o : Op} (h11 : o.1 = 11) (hh : h + 2 ≤ 600) (ht : tr ≤ 10) (he : e = some (h, tr, l)) : hA K T ls e [(o, some (h + 2, tr, lcn h l))] c r := hA_1 (lbb_s hh ht) (fun h' t' l' hx => by
  injection hx with hx
  injection hx with e1 e2
  injection e2 with e2 e3
  subst e1; subst e2; subst e3
  refine ⟨?_, fun hj => by unfold isJ at hj; omega, (fun c6 => by omega), fun c6 => by omega⟩
  unfold hef
  rw [if_neg (by omega), if_neg (by omega), if_pos h11]
  exact ⟨h, l, rfl, rfl, he⟩)
theorem for_H {oS : Op} (hS : oS.1 = 19) (hSn : hnm oS l.2) (hl : lob l ≤ h) (hh : h ≤ 80) (ht : tr ≤ 10) (h3 : hF K l.2 l3 (some (h, tr, l)) (some (h + 1, tr, l))) (hb : hO K (some (ca + wC l3 + 3, ra + wR K l3 + 3, tr)) (some (h + 2, tr, lcn h l)) (ca + wC l3 + 10) (ra + wR K l3 + 11) b (some (h + 2, tr, lcn h l)) (some (h + 2, tr, lcn h l)) fs) : hO K lp ls ca ra (l3 ++ (9, [], 0, 0) :: (4, [], 4, 3) :: (2, [lk], 0, 0) :: (10, [], ((7 + wC b : Nat) : Int), ((7 + wR K b : Nat) : Int)) :: oS :: (rsv K (ca + wC l3 + 10 + wC b + 2) (ra + wR K l3 + 11 + wR K b + 2) (ca + wC l3 + 10) (ra + wR K l3 + 11) b ++ [(4, [], ((ca + wC l3 + 3 : Nat) : Int) - (ca + wC l3 + 10 + wC b : Nat), ((ra + wR K l3 + 3 : Nat) : Int) - ((ra + wR K l3 + 11 + wR K b : Nat) + 1)), (11, [], 0, 0)])) (some (h, tr, l)) (some (h, tr, l)) fs := by
  obtain ⟨u, u1, u2, u3, _⟩ := h3
  obtain ⟨v, v1, v2, v3, v4⟩ := hb
  obtain ⟨z1, z2, z3⟩ := wb_o (K := K) b (ca + wC l3 + 10 + wC b + 2) (ra + wR K l3 + 11 + wR K b + 2) (ca + wC l3 + 10) (ra + wR K l3 + 11) v v1
  have key : ∀ (o9 o4 o2 o10 oS' oj o11 : Op) (B W : LO), o9 = (9, [], 0, 0) → o4 = (4, [], 4, 3) → o2 = (2, [lk], 0, 0) → o10 = (10, [], ((7 + wC b : Nat) : Int), ((7 + wR K b : Nat) : Int)) → oS' = oS → B = rsvL K (ca + wC l3 + 10 + wC b + 2) (ra + wR K l3 + 11 + wR K b + 2) (ca + wC l3 + 10) (ra + wR K l3 + 11) v → oj = (4, [], ((ca + wC l3 + 3 : Nat) : Int) - (ca + wC l3 + 10 + wC b : Nat), ((ra + wR K l3 + 3 : Nat) : Int) - ((ra + wR K l3 + 11 + wR K b : Nat) + 1)) → o11 = (11, [], 0, 0) → W = u ++ ([(o9, some (h + 1, tr, l))] ++ ([(o4, some (h + 2, tr, lcn h l))] ++ ([(o2, some (h + 2, tr, lcn h l))] ++ ([(o10, some (h + 2, tr, lcn h l))] ++ ([(oS', some (h + 3, tr, lcn h l))] ++ (B ++ ([(oj, some (h + 2, tr, lcn h l))] ++ [(o11, some (h + 2, tr, lcn h l))]))))))) → hO K lp ls ca ra (l3 ++ ([o9] ++ ([o4] ++ ([o2] ++ ([o10] ++ ([oS'] ++ (rsv K (ca + wC l3 + 10 + wC b + 2) (ra + wR K l3 + 11 + wR K b + 2) (ca + wC l3 + 10) (ra + wR K l3 + 11) b ++ ([oj] ++ [o11])))))))) (some (h, tr, l)) (some (h, tr, l)) fs := by
    intro o9 o4 o2 o10 oS' oj o11 B W e9 e4 e2 e10 eS eB ej e11 eW
    have c9 : lC o9 = 1 ∧ lR K o9 = 1 := by rw [e9]; exact ⟨rfl, rfl⟩
    have c4 : lC o4 = 2 ∧ lR K o4 = 2 := by rw [e4]; exact ⟨rfl, rfl⟩
    have c2 : lC o2 = 2 ∧ lR K o2 = 2 := by rw [e2]; exact ⟨rfl, rfl⟩
    have c10 : lC o10 = 2 ∧ lR K o10 = 2 := by rw [e10]; exact ⟨rfl, rfl⟩
    have cS : lC oS' = 3 ∧ lR K oS' = 4 := by
      rw [eS]
      unfold lC lR
      rw [hS]
      exact ⟨rfl, rfl⟩
    have cj : lC oj = 2 ∧ lR K oj = 2 := by rw [ej]; exact ⟨rfl, rfl⟩
    have c11 : lC o11 = 1 ∧ lR K o11 = 1 := by rw [e11]; exact ⟨rfl, rfl⟩
    have s1 : ∀ (o : Op) (s : HS), wC (opsO [(o, s)]) = lC o ∧ wR K (opsO [(o, s)]) = lR K o := fun o s => w1 o
    have cB : wC (opsO B) = wC b ∧ wR K (opsO B) = wR K b := by rw [eB]; exact ⟨z2, z3⟩
    have cu : wC (opsO u) = wC l3 ∧ wR K (opsO u) = wR K l3 := by rw [u1]; exact ⟨rfl, rfl⟩
    have hB : ∀ e, hhd B e = hhd v e := fun e => by rw [eB, rsvL_h]
    have t2 : hbn K (some (h, tr, l)) W ca ra (ca + wC l3 + 3 : Nat) (ra + wR K l3 + 3 : Nat) (h + 2, tr, lcn h l) := by
      rw [eW]
      refine hbn_r (hbn_r (hbn_r (hbn_pq (hbn_0 rfl) ?_ ?_)))
      · rw [(s1 _ _).1, (s1 _ _).1, cu.1, c9.1, c4.1]; omega
      · rw [(s1 _ _).2, (s1 _ _).2, cu.2, c9.2, c4.2]; omega
    have t10 : hbn K (some (h, tr, l)) W ca ra (ca + wC l3 + 5 : Nat) (ra + wR K l3 + 5 : Nat) (h + 2, tr, lcn h l) := by
      rw [eW]
      refine hbn_r (hbn_r (hbn_r (hbn_r (hbn_pq (hbn_0 rfl) ?_ ?_))))
      · rw [(s1 _ _).1, (s1 _ _).1, (s1 _ _).1, cu.1, c9.1, c4.1, c2.1]; omega
      · rw [(s1 _ _).2, (s1 _ _).2, (s1 _ _).2, cu.2, c9.2, c4.2, c2.2]; omega
    have t11 : hbn K (some (h, tr, l)) W ca ra (ca + wC l3 + 10 + wC b + 2 : Nat) (ra + wR K l3 + 11 + wR K b + 2 : Nat) (h + 2, tr, lcn h l) := by
      rw [eW]
      refine hbn_r (hbn_r (hbn_r (hbn_r (hbn_r (hbn_r (hbn_r (hbn_r (hbn_pq (hbn_0 rfl) ?_ ?_))))))))
      · rw [(s1 _ _).1, (s1 _ _).1, (s1 _ _).1, (s1 _ _).1, (s1 _ _).1, (s1 _ _).1, cu.1, cB.1, c9.1, c4.1, c2.1, c10.1, cS.1, cj.1]; omega
      · rw [(s1 _ _).2, (s1 _ _).2, (s1 _ _).2, (s1 _ _).2, (s1 _ _).2, (s1 _ _).2, cu.2, cB.2, c9.2, c4.2, c2.2, c10.2, cS.2, cj.2]; omega
    have inr3 : ∀ p q s, hbn K (some (h + 1, tr, l)) u ca ra p q s → hbn K (some (h, tr, l)) W ca ra p q s := fun p q s g => by
      rw [eW]
      exact hbn_l g
    have inrB : ∀ p q s, hbn K (some (h + 2, tr, lcn h l)) v (ca + wC l3 + 10 : Nat) (ra + wR K l3 + 11 : Nat) p q s → hbn K (some (h, tr, l)) W ca ra p q s := fun p q s g => by
      have g' := rsvL_b (ce := ca + wC l3 + 10 + wC b + 2) (re := ra + wR K l3 + 11 + wR K b + 2) v (ca + wC l3 + 10) (ra + wR K l3 + 11) _ _ g
      rw [← eB] at g'
      rw [eW]
      refine hbn_r (hbn_r (hbn_r (hbn_r (hbn_r (hbn_r (hbn_at (hbn_l g') ?_ ?_))))))
      · rw [(s1 _ _).1, (s1 _ _).1, (s1 _ _).1, (s1 _ _).1, (s1 _ _).1, cu.1, c9.1, c4.1, c2.1, c10.1, cS.1]; omega
      · rw [(s1 _ _).2, (s1 _ _).2, (s1 _ _).2, (s1 _ _).2, (s1 _ _).2, cu.2, c9.2, c4.2, c2.2, c10.2, cS.2]; omega
    refine ⟨W, by rw [eW, opsO_app, opsO_app, opsO_app, opsO_app, opsO_app, opsO_app, opsO_app, opsO_app, u1, eB, z1]; rfl, by rw [eW, hhd_app]; exact u2, ?_, fun f hf => inrB _ _ _ (v4 f hf)⟩
    have hW : hA K (fun p q s => hbn K (some (h, tr, l)) W ca ra p q s ∨ (lpP lp p q ∧ ls = some s) ∨ fnP fs p s) ls (some (h, tr, l)) (u ++ ([(o9, some (h + 1, tr, l))] ++ ([(o4, some (h + 2, tr, lcn h l))] ++ ([(o2, some (h + 2, tr, lcn h l))] ++ ([(o10, some (h + 2, tr, lcn h l))] ++ ([(oS', some (h + 3, tr, lcn h l))] ++ (B ++ ([(oj, some (h + 2, tr, lcn h l))] ++ [(o11, some (h + 2, tr, lcn h l))])))))))) ca ra := by
      refine hA_app (hA_in u3 rfl rfl (fun p q s g => Or.inl (inr3 _ _ _ g))) (hA_app (hA_9 (by rw [e9]) hl (by omega) ht rfl) (hA_app (hA_j (by rw [e4]) (lbb_s (by omega) ht) (fun s hs => ?_)) (hA_app ?_ (hA_app (hA_10 (by rw [e10]) (by omega) ht (Or.inl (hbn_pq t11 ?_ ?_)) rfl) (hA_app ?_ (hA_app ?_ (hA_app (hA_j (by rw [ej]) (lbb_s (by omega) ht) (fun s hs => ?_)) (hA_11 (by rw [e11]) (by omega) ht rfl))))))))
      · injection hs with hs
        subst hs
        have q1 : o4.2.2.1 = 4 := by rw [e4]
        have q2 : o4.2.2.2 = 3 := by rw [e4]
        refine Or.inl (hbn_pq t10 ?_ ?_)
        · rw [q1, (s1 _ _).1, cu.1, c9.1]; omega
        · rw [q2, (s1 _ _).2, cu.2, c9.2]; omega
      · rw [e2]
        exact hA_0 (by omega) (Nat.le_refl _) (by omega) ht rfl
      · have q1 : o10.2.2.1 = ((7 + wC b : Nat) : Int) := by rw [e10]
        rw [q1, (s1 _ _).1, (s1 _ _).1, (s1 _ _).1, cu.1, c9.1, c4.1, c2.1]; omega
      · have q1 : o10.2.2.2 = ((7 + wR K b : Nat) : Int) := by rw [e10]
        rw [q1, (s1 _ _).2, (s1 _ _).2, (s1 _ _).2, cu.2, c9.2, c4.2, c2.2]; omega
      · have hp : hpp oS' = (1, 0) := by
          unfold hpp
          rw [eS, hS]
          rfl
        refine hA_s (u := h + 2) (by rw [eS, hS]; omega) (by rw [eS, hS]; omega) (hlm_n (by rw [eS, hS]; omega)) (by rw [eS]; exact hSn) (by rw [hp]; show h + 2 + 1 ≤ _; omega) (by rw [hp]; show h + 2 + 1 = h + 3 + 0; omega) (by omega) ht ?_ (fun c => by rw [eS, hS] at c; omega) (by rw [eS, hS]; omega)
        rw [hhd_app, hB]
        exact v2
      · have g := rsvL_A (K := K) (ls := ls) (ce := ca + wC l3 + 10 + wC b + 2) (re := ra + wR K l3 + 11 + wR K b + 2) v (ca + wC l3 + 10) (ra + wR K l3 + 11) (hA_T v3 (T' := fun p q s => hbn K (some (h, tr, l)) W ca ra p q s ∨ (lpP lp p q ∧ ls = some s) ∨ fnP fs p s) (fun p q s g => ?_)) (fun s hs => ?_)
        · rw [← eB] at g
          refine hA_at g ?_ ?_
          · rw [(s1 _ _).1, (s1 _ _).1, (s1 _ _).1, (s1 _ _).1, (s1 _ _).1, cu.1, c9.1, c4.1, c2.1, c10.1, cS.1]; omega
          · rw [(s1 _ _).2, (s1 _ _).2, (s1 _ _).2, (s1 _ _).2, (s1 _ _).2, cu.2, c9.2, c4.2, c2.2, c10.2, cS.2]; omega
        · rcases g with g | ⟨⟨g1, g2⟩, g3⟩ | g
          · exact Or.inl (inrB _ _ _ g)
          · injection g3 with g3
            subst g3
            exact Or.inl (hbn_pq t2 g1 g2)
          · exact Or.inr (Or.inr g)
        · injection hs with hs
          subst hs
          exact Or.inl t11
      · injection hs with hs
        subst hs
        refine Or.inl (hbn_pq t2 ?_ ?_)
        · have : oj.2.2.1 = ((ca + wC l3 + 3 : Nat) : Int) - (ca + wC l3 + 10 + wC b : Nat) := by rw [ej]
          rw [this, (s1 _ _).1, (s1 _ _).1, (s1 _ _).1, (s1 _ _).1, (s1 _ _).1, cu.1, cB.1, c9.1, c4.1, c2.1, c10.1, cS.1]; omega
        · have : oj.2.2.2 = ((ra + wR K l3 + 3 : Nat) : Int) - ((ra + wR K l3 + 11 + wR K b : Nat) + 1) := by rw [ej]
          rw [this, (s1 _ _).2, (s1 _ _).2, (s1 _ _).2, (s1 _ _).2, (s1 _ _).2, cu.2, cB.2, c9.2, c4.2, c2.2, c10.2, cS.2]; omega
    rw [← eW] at hW
    exact hW
  exact key _ _ _ _ _ _ _ _ _ rfl rfl rfl rfl rfl rfl rfl rfl rfl
end
