/-! HEIGHTS (pure): try, if, def -/
section
variable {K : Nat → Nat} {lp : LpT} {ls s0 s1 : HS} {a b d l3 ex : List Op} {ca ra tr lk h s : Nat} {l : LL} {fs fs' : FS}
theorem s1_w (o : Op) (s : HS) : wC (opsO [(o, s)]) = lC o ∧ wR K (opsO [(o, s)]) = lR K o := w1 o
theorem hA_12 {T : Int → Int → Nat × Nat × LL → Prop} {e : HS} {c r : Int} {o : Op} (h12 : o.1 = 12) (hl : lob l ≤ h) (hh : h ≤ 600) (ht : tr ≤ 10) (hT : T (c + o.2.2.1) (r + 1 + o.2.2.2) (h, tr, l)) (he : e = some (h, tr + 1, ltr h l)) : hA K T ls e [(o, some (h, tr, l))] c r := hA_1 (lbb_s hh ht) (fun h' t' l' hx => by
  injection hx with hx
  injection hx with e1 e2
  injection e2 with e2 e3
  subst e1; subst e2; subst e3
  refine ⟨?_, fun hj => by rw [hjs_n (by omega)]; exact hT, (fun c6 => by omega), fun c6 => by omega⟩
  unfold hef
  rw [if_neg (by omega), if_neg (by omega), if_neg (by omega), if_pos h12]
  exact ⟨hl, he⟩)
theorem hef_13 {n : Nat} {y z : Int} {s' : HS} (hn : n ≤ tr) (hm : tmk l n) (he : s' = some (h, tr - n, ldr n l)) : hef ((13, [n], y, z) : Op) h tr l s' := by
  unfold hef
  dsimp only
  rw [if_neg (by omega), if_neg (by omega), if_neg (by omega), if_neg (by omega), if_pos rfl]
  exact ⟨hn, hm, he⟩
theorem hF_13 {n : Nat} {y z : Int} (hn : n ≤ tr) (hm : tmk l n) (hh : h ≤ 600) (ht : tr ≤ 10) : hF K l.2 [((13, [n], y, z) : Op)] (some (h, tr, l)) (some (h, tr - n, ldr n l)) := hF_1 (by unfold isJ; dsimp only; omega) (by dsimp only; omega) (by dsimp only; omega) (lbb_s hh ht) (lsc_s rfl) (fun h' t' l' hx => by
  injection hx with hx
  injection hx with e1 e2
  injection e2 with e2 e3
  subst e1; subst e2; subst e3
  exact hef_13 hn hm rfl)
theorem hA_13 {T : Int → Int → Nat × Nat × LL → Prop} {e : HS} {c r : Int} {n : Nat} {y z : Int} (hn : n ≤ tr) (hm : tmk l n) (hh : h ≤ 600) (ht : tr ≤ 10) (he : e = some (h, tr - n, ldr n l)) : hA K T ls e [(((13, [n], y, z) : Op), some (h, tr, l))] c r := hA_1 (lbb_s hh ht) (fun h' t' l' hx => by
  injection hx with hx
  injection hx with e1 e2
  injection e2 with e2 e3
  subst e1; subst e2; subst e3
  exact ⟨hef_13 hn hm he, (fun hj => by unfold isJ at hj; dsimp only at hj; omega), (fun c6 => by dsimp only at c6; omega), (fun c6 => by dsimp only at c6; omega)⟩)
theorem try_H (hl : lob l ≤ h) (hh : h ≤ 80) (ht : tr + 1 ≤ 10) (hx : hF K l.2 ex (some (h, tr, l)) (some (h, tr, l))) (hb : hO K lp ls (ca + 2) (ra + 2) b (some (h, tr + 1, ltr h l)) (some (h, tr + 1, ltr h l)) fs) (hd : hO K lp ls (ca + 2 + wC b + 4 + wC ex) (ra + 2 + wR K b + 3 + wR K ex) d (some (h, tr, l)) (some (h, tr, l)) fs') : hO K lp ls ca ra ((12, [], ((6 + wC b : Nat) : Int), ((4 + wR K b : Nat) : Int)) :: (b ++ (13, [1], 0, 0) :: (4, [], ((2 + (wC ex + wC d) : Nat) : Int), ((1 + (wR K ex + wR K d) : Nat) : Int)) :: (ex ++ d))) (some (h, tr, l)) (some (h, tr, l)) (fs ++ fs') := by
  obtain ⟨u, u1, u2, u3, _⟩ := hx
  obtain ⟨v, v1, v2, v3, v4⟩ := hb
  obtain ⟨w, x1, x2, x3, x4⟩ := hd
  have key : ∀ (o12 o13 o4 : Op) (W : LO), o12 = (12, [], ((6 + wC b : Nat) : Int), ((4 + wR K b : Nat) : Int)) → o13 = (13, [1], 0, 0) → o4 = (4, [], ((2 + (wC ex + wC d) : Nat) : Int), ((1 + (wR K ex + wR K d) : Nat) : Int)) → W = [(o12, some (h, tr, l))] ++ (v ++ ([(o13, some (h, tr + 1, ltr h l))] ++ ([(o4, some (h, tr, l))] ++ (u ++ w)))) → hO K lp ls ca ra ([o12] ++ (b ++ ([o13] ++ ([o4] ++ (ex ++ d))))) (some (h, tr, l)) (some (h, tr, l)) (fs ++ fs') := by
    intro o12 o13 o4 W e12 e13 e4 eW
    have c12 : lC o12 = 2 ∧ lR K o12 = 2 := by rw [e12]; exact ⟨rfl, rfl⟩
    have c13 : lC o13 = 2 ∧ lR K o13 = 1 := by rw [e13]; exact ⟨rfl, rfl⟩
    have c4 : lC o4 = 2 ∧ lR K o4 = 2 := by rw [e4]; exact ⟨rfl, rfl⟩
    have cu : wC (opsO u) = wC ex ∧ wR K (opsO u) = wR K ex := by rw [u1]; exact ⟨rfl, rfl⟩
    have cv : wC (opsO v) = wC b ∧ wR K (opsO v) = wR K b := by rw [v1]; exact ⟨rfl, rfl⟩
    have cw : wC (opsO w) = wC d ∧ wR K (opsO w) = wR K d := by rw [x1]; exact ⟨rfl, rfl⟩
    have hu : hhd (u ++ w) (some (h, tr, l)) = some (h, tr, l) := by rw [hhd_app, x2]; exact u2
    have tx : hbn K (some (h, tr, l)) W ca ra (ca + 6 + wC b : Nat) (ra + 5 + wR K b : Nat) (h, tr, l) := by
      rw [eW]
      refine hbn_r (hbn_r (hbn_r (hbn_r (hbn_pq (hbn_0 hu) ?_ ?_))))
      · rw [(s1_w (K := K) _ _).1, (s1_w (K := K) _ _).1, (s1_w (K := K) _ _).1, cv.1, c12.1, c13.1, c4.1]; omega
      · rw [(s1_w _ _).2, (s1_w _ _).2, (s1_w _ _).2, cv.2, c12.2, c13.2, c4.2]; omega
    have te : hbn K (some (h, tr, l)) W ca ra (ca + 2 + wC b + 4 + wC ex + wC d : Nat) (ra + 2 + wR K b + 3 + wR K ex + wR K d : Nat) (h, tr, l) := by
      rw [eW]
      refine hbn_pq hbn_e ?_ ?_
      · simp only [opsO_app, wC_app, (s1_w (K := K) _ _).1, cu.1, cv.1, cw.1, c12.1, c13.1, c4.1]; omega
      · simp only [opsO_app, wR_app, (s1_w _ _).2, cu.2, cv.2, cw.2, c12.2, c13.2, c4.2]; omega
    have inb : ∀ p q s, hbn K (some (h, tr + 1, ltr h l)) v (ca + 2 : Nat) (ra + 2 : Nat) p q s → hbn K (some (h, tr, l)) W ca ra p q s := fun p q s g => by
      rw [eW]
      exact hbn_r (hbn_at (hbn_l g) (by rw [(s1_w (K := K) _ _).1, c12.1]; omega) (by rw [(s1_w _ _).2, c12.2]; omega))
    have ind : ∀ p q s, hbn K (some (h, tr, l)) w (ca + 2 + wC b + 4 + wC ex : Nat) (ra + 2 + wR K b + 3 + wR K ex : Nat) p q s → hbn K (some (h, tr, l)) W ca ra p q s := fun p q s g => by
      rw [eW]
      refine hbn_r (hbn_r (hbn_r (hbn_r (hbn_r (hbn_at g ?_ ?_)))))
      · rw [(s1_w (K := K) _ _).1, (s1_w (K := K) _ _).1, (s1_w (K := K) _ _).1, cv.1, cu.1, c12.1, c13.1, c4.1]; omega
      · rw [(s1_w _ _).2, (s1_w _ _).2, (s1_w _ _).2, cv.2, cu.2, c12.2, c13.2, c4.2]; omega
    have inx : ∀ p q s, hbn K (some (h, tr, l)) u ((ca + 6 + wC b : Nat) : Int) ((ra + 5 + wR K b : Nat) : Int) p q s → hbn K (some (h, tr, l)) W ca ra p q s := fun p q s g => by
      rw [eW]
      refine hbn_r (hbn_r (hbn_r (hbn_r (hbn_l (hbn_at (by rw [x2]; exact g) ?_ ?_)))))
      · rw [(s1_w (K := K) _ _).1, (s1_w (K := K) _ _).1, (s1_w (K := K) _ _).1, cv.1, c12.1, c13.1, c4.1]; omega
      · rw [(s1_w _ _).2, (s1_w _ _).2, (s1_w _ _).2, cv.2, c12.2, c13.2, c4.2]; omega
    refine ⟨W, by rw [eW, opsO_app, opsO_app, opsO_app, opsO_app, opsO_app, u1, v1, x1]; rfl, by rw [eW]; rfl, ?_, fun f hf => (List.mem_append.mp hf).elim (fun g => inb _ _ _ (v4 f g)) (fun g => ind _ _ _ (x4 f g))⟩
    have hW : hA K (fun p q s => hbn K (some (h, tr, l)) W ca ra p q s ∨ (lpP lp p q ∧ ls = some s) ∨ fnP (fs ++ fs') p s) ls (some (h, tr, l)) ([(o12, some (h, tr, l))] ++ (v ++ ([(o13, some (h, tr + 1, ltr h l))] ++ ([(o4, some (h, tr, l))] ++ (u ++ w))))) ca ra := by
      refine hA_app (hA_12 (by rw [e12]) hl (by omega) (by omega) (Or.inl (hbn_pq tx ?_ ?_)) (by rw [hhd_app]; exact v2)) (hA_app ?_ (hA_app ?_ (hA_app (hA_j (by rw [e4]) (lbb_s (by omega) (by omega)) (fun s hs => ?_)) (hA_app ?_ ?_))))
      · have q1 : o12.2.2.1 = ((6 + wC b : Nat) : Int) := by rw [e12]
        rw [q1]; omega
      · have q1 : o12.2.2.2 = ((4 + wR K b : Nat) : Int) := by rw [e12]
        rw [q1]; omega
      · refine hA_at (hA_T v3 (fun p q s g => g.elim (fun g => Or.inl (inb _ _ _ g)) (fun g => Or.inr (g.imp id (fnP_m (fun f => List.mem_append_left _)))))) ?_ ?_
        · rw [(s1_w (K := K) _ _).1, c12.1]; omega
        · rw [(s1_w _ _).2, c12.2]; omega
      · rw [e13]
        exact hA_13 (by omega) (tmk_s (tmk_0 l)) (by omega) (by omega) rfl
      · injection hs with hs
        subst hs
        refine Or.inl (hbn_pq te ?_ ?_)
        · have q1 : o4.2.2.1 = ((2 + (wC ex + wC d) : Nat) : Int) := by rw [e4]
          rw [q1, (s1_w (K := K) _ _).1, (s1_w (K := K) _ _).1, cv.1, c12.1, c13.1]; omega
        · have q1 : o4.2.2.2 = ((1 + (wR K ex + wR K d) : Nat) : Int) := by rw [e4]
          rw [q1, (s1_w _ _).2, (s1_w _ _).2, cv.2, c12.2, c13.2]; omega
      · rw [x2]
        refine hA_in (c := ((ca + 6 + wC b : Nat) : Int)) (r := ((ra + 5 + wR K b : Nat) : Int)) u3 ?_ ?_ (fun p q s g => Or.inl (inx _ _ _ g))
        · rw [(s1_w (K := K) _ _).1, (s1_w (K := K) _ _).1, (s1_w (K := K) _ _).1, cv.1, c12.1, c13.1, c4.1]; omega
        · rw [(s1_w _ _).2, (s1_w _ _).2, (s1_w _ _).2, cv.2, c12.2, c13.2, c4.2]; omega
      · refine hA_at (hA_T x3 (fun p q s g => g.elim (fun g => Or.inl (ind _ _ _ g)) (fun g => Or.inr (g.imp id (fnP_m (fun f => List.mem_append_right _)))))) ?_ ?_
        · rw [(s1_w (K := K) _ _).1, (s1_w (K := K) _ _).1, (s1_w (K := K) _ _).1, cv.1, cu.1, c12.1, c13.1, c4.1]; omega
        · rw [(s1_w _ _).2, (s1_w _ _).2, (s1_w _ _).2, cv.2, cu.2, c12.2, c13.2, c4.2]; omega
    rw [← eW] at hW
    exact hW
  exact key _ _ _ _ rfl rfl rfl rfl
theorem if_H (hl : lob l ≤ h) (hh : h ≤ 80) (ht : tr ≤ 10) (h3 : hF K l.2 l3 (some (h, tr, l)) (some (h + 1, tr, l))) (hb : hO K lp ls (ca + wC l3 + 2) (ra + wR K l3 + 2) b (some (h, tr, l)) (some (h, tr, l)) fs) (hd : hO K lp ls (ca + wC l3 + 2 + wC b + 2) (ra + wR K l3 + 2 + wR K b + 2) d (some (h, tr, l)) (some (h, tr, l)) fs') : hO K lp ls ca ra (l3 ++ (5, [], ((4 + wC b : Nat) : Int), ((3 + wR K b : Nat) : Int)) :: (b ++ (4, [], ((2 + wC d : Nat) : Int), ((1 + wR K d : Nat) : Int)) :: d)) (some (h, tr, l)) (some (h, tr, l)) (fs ++ fs') := by
  obtain ⟨u, u1, u2, u3, _⟩ := h3
  obtain ⟨v, v1, v2, v3, v4⟩ := hb
  obtain ⟨w, x1, x2, x3, x4⟩ := hd
  have key : ∀ (o5 o4 : Op) (W : LO), o5 = (5, [], ((4 + wC b : Nat) : Int), ((3 + wR K b : Nat) : Int)) → o4 = (4, [], ((2 + wC d : Nat) : Int), ((1 + wR K d : Nat) : Int)) → W = u ++ ([(o5, some (h + 1, tr, l))] ++ (v ++ ([(o4, some (h, tr, l))] ++ w))) → hO K lp ls ca ra (l3 ++ ([o5] ++ (b ++ ([o4] ++ d)))) (some (h, tr, l)) (some (h, tr, l)) (fs ++ fs') := by
    intro o5 o4 W e5 e4 eW
    have c5 : lC o5 = 2 ∧ lR K o5 = 2 := by rw [e5]; exact ⟨rfl, rfl⟩
    have c4 : lC o4 = 2 ∧ lR K o4 = 2 := by rw [e4]; exact ⟨rfl, rfl⟩
    have cu : wC (opsO u) = wC l3 ∧ wR K (opsO u) = wR K l3 := by rw [u1]; exact ⟨rfl, rfl⟩
    have cv : wC (opsO v) = wC b ∧ wR K (opsO v) = wR K b := by rw [v1]; exact ⟨rfl, rfl⟩
    have cw : wC (opsO w) = wC d ∧ wR K (opsO w) = wR K d := by rw [x1]; exact ⟨rfl, rfl⟩
    have td : hbn K (some (h, tr, l)) W ca ra (ca + wC l3 + 2 + wC b + 2 : Nat) (ra + wR K l3 + 2 + wR K b + 2 : Nat) (h, tr, l) := by
      rw [eW]
      refine hbn_r (hbn_r (hbn_r (hbn_r (hbn_pq (hbn_0 x2) ?_ ?_))))
      · rw [(s1_w (K := K) _ _).1, (s1_w (K := K) _ _).1, cu.1, cv.1, c5.1, c4.1]; omega
      · rw [(s1_w _ _).2, (s1_w _ _).2, cu.2, cv.2, c5.2, c4.2]; omega
    have te : hbn K (some (h, tr, l)) W ca ra (ca + wC l3 + 2 + wC b + 2 + wC d : Nat) (ra + wR K l3 + 2 + wR K b + 2 + wR K d : Nat) (h, tr, l) := by
      rw [eW]
      refine hbn_pq hbn_e ?_ ?_
      · simp only [opsO_app, wC_app, (s1_w (K := K) _ _).1, cu.1, cv.1, cw.1, c5.1, c4.1]; omega
      · simp only [opsO_app, wR_app, (s1_w _ _).2, cu.2, cv.2, cw.2, c5.2, c4.2]; omega
    have in3 : ∀ p q s, hbn K (some (h + 1, tr, l)) u ca ra p q s → hbn K (some (h, tr, l)) W ca ra p q s := fun p q s g => by
      rw [eW]
      exact hbn_l g
    have inb : ∀ p q s, hbn K (some (h, tr, l)) v (ca + wC l3 + 2 : Nat) (ra + wR K l3 + 2 : Nat) p q s → hbn K (some (h, tr, l)) W ca ra p q s := fun p q s g => by
      rw [eW]
      refine hbn_r (hbn_r (hbn_l (hbn_at g ?_ ?_)))
      · rw [(s1_w (K := K) _ _).1, cu.1, c5.1]; omega
      · rw [(s1_w _ _).2, cu.2, c5.2]; omega
    have ind : ∀ p q s, hbn K (some (h, tr, l)) w (ca + wC l3 + 2 + wC b + 2 : Nat) (ra + wR K l3 + 2 + wR K b + 2 : Nat) p q s → hbn K (some (h, tr, l)) W ca ra p q s := fun p q s g => by
      rw [eW]
      refine hbn_r (hbn_r (hbn_r (hbn_r (hbn_at g ?_ ?_))))
      · rw [(s1_w (K := K) _ _).1, (s1_w (K := K) _ _).1, cu.1, cv.1, c5.1, c4.1]; omega
      · rw [(s1_w _ _).2, (s1_w _ _).2, cu.2, cv.2, c5.2, c4.2]; omega
    refine ⟨W, by rw [eW, opsO_app, opsO_app, opsO_app, opsO_app, u1, v1, x1]; rfl, by rw [eW, hhd_app]; exact u2, ?_, fun f hf => (List.mem_append.mp hf).elim (fun g => inb _ _ _ (v4 f g)) (fun g => ind _ _ _ (x4 f g))⟩
    have hW : hA K (fun p q s => hbn K (some (h, tr, l)) W ca ra p q s ∨ (lpP lp p q ∧ ls = some s) ∨ fnP (fs ++ fs') p s) ls (some (h, tr, l)) (u ++ ([(o5, some (h + 1, tr, l))] ++ (v ++ ([(o4, some (h, tr, l))] ++ w)))) ca ra := by
      refine hA_app (hA_in u3 rfl rfl (fun p q s g => Or.inl (in3 _ _ _ g))) (hA_app (hA_5 (by rw [e5]) hl (by omega) ht (Or.inl (hbn_pq td ?_ ?_)) (by rw [hhd_app]; exact v2)) (hA_app ?_ (hA_app (hA_j (by rw [e4]) (lbb_s (by omega) ht) (fun s hs => ?_)) ?_)))
      · have q1 : o5.2.2.1 = ((4 + wC b : Nat) : Int) := by rw [e5]
        rw [q1, cu.1]; omega
      · have q1 : o5.2.2.2 = ((3 + wR K b : Nat) : Int) := by rw [e5]
        rw [q1, cu.2]; omega
      · refine hA_at (hA_T v3 (fun p q s g => g.elim (fun g => Or.inl (inb _ _ _ g)) (fun g => Or.inr (g.imp id (fnP_m (fun f => List.mem_append_left _)))))) ?_ ?_
        · rw [(s1_w (K := K) _ _).1, cu.1, c5.1]; omega
        · rw [(s1_w _ _).2, cu.2, c5.2]; omega
      · injection hs with hs
        subst hs
        refine Or.inl (hbn_pq te ?_ ?_)
        · have q1 : o4.2.2.1 = ((2 + wC d : Nat) : Int) := by rw [e4]
          rw [q1, (s1_w (K := K) _ _).1, cu.1, cv.1, c5.1]; omega
        · have q1 : o4.2.2.2 = ((1 + wR K d : Nat) : Int) := by rw [e4]
          rw [q1, (s1_w _ _).2, cu.2, cv.2, c5.2]; omega
      · refine hA_at (hA_T x3 (fun p q s g => g.elim (fun g => Or.inl (ind _ _ _ g)) (fun g => Or.inr (g.imp id (fnP_m (fun f => List.mem_append_right _)))))) ?_ ?_
        · rw [(s1_w (K := K) _ _).1, (s1_w (K := K) _ _).1, cu.1, cv.1, c5.1, c4.1]; omega
        · rw [(s1_w _ _).2, (s1_w _ _).2, cu.2, cv.2, c5.2, c4.2]; omega
    rw [← eW] at hW
    exact hW
  exact key _ _ _ rfl rfl rfl
theorem if1_H (hl : lob l ≤ h) (hh : h ≤ 80) (ht : tr ≤ 10) (h3 : hF K l.2 l3 (some (h, tr, l)) (some (h + 1, tr, l))) (hb : hO K lp ls (ca + wC l3 + 2) (ra + wR K l3 + 2) b (some (h, tr, l)) (some (h, tr, l)) fs) : hO K lp ls ca ra (l3 ++ (5, [], ((4 + wC b : Nat) : Int), ((1 + wR K b : Nat) : Int)) :: (b ++ [(62, [], 2, 0)])) (some (h, tr, l)) (some (h, tr, l)) fs := by
  obtain ⟨u, u1, u2, u3, _⟩ := h3
  obtain ⟨v, v1, v2, v3, v4⟩ := hb
  have key : ∀ (o5 o6 : Op) (W : LO), o5 = (5, [], ((4 + wC b : Nat) : Int), ((1 + wR K b : Nat) : Int)) → o6 = (62, [], 2, 0) → W = u ++ ([(o5, some (h + 1, tr, l))] ++ (v ++ [(o6, some (h, tr, l))])) → hO K lp ls ca ra (l3 ++ ([o5] ++ (b ++ [o6]))) (some (h, tr, l)) (some (h, tr, l)) fs := by
    intro o5 o6 W e5 e6 eW
    have c5 : lC o5 = 2 ∧ lR K o5 = 2 := by rw [e5]; exact ⟨rfl, rfl⟩
    have c6 : lC o6 = 2 ∧ lR K o6 = 0 := by rw [e6]; exact ⟨rfl, rfl⟩
    have cu : wC (opsO u) = wC l3 ∧ wR K (opsO u) = wR K l3 := by rw [u1]; exact ⟨rfl, rfl⟩
    have cv : wC (opsO v) = wC b ∧ wR K (opsO v) = wR K b := by rw [v1]; exact ⟨rfl, rfl⟩
    have te : hbn K (some (h, tr, l)) W ca ra (ca + wC l3 + 2 + wC b + 2 : Nat) (ra + wR K l3 + 2 + wR K b : Nat) (h, tr, l) := by
      rw [eW]
      refine hbn_pq hbn_e ?_ ?_
      · simp only [opsO_app, wC_app, (s1_w (K := K) _ _).1, cu.1, cv.1, c5.1, c6.1]; omega
      · simp only [opsO_app, wR_app, (s1_w _ _).2, cu.2, cv.2, c5.2, c6.2]; omega
    have in3 : ∀ p q s, hbn K (some (h + 1, tr, l)) u ca ra p q s → hbn K (some (h, tr, l)) W ca ra p q s := fun p q s g => by
      rw [eW]
      exact hbn_l g
    have inb : ∀ p q s, hbn K (some (h, tr, l)) v (ca + wC l3 + 2 : Nat) (ra + wR K l3 + 2 : Nat) p q s → hbn K (some (h, tr, l)) W ca ra p q s := fun p q s g => by
      rw [eW]
      refine hbn_r (hbn_r (hbn_l (hbn_at g ?_ ?_)))
      · rw [(s1_w (K := K) _ _).1, cu.1, c5.1]; omega
      · rw [(s1_w _ _).2, cu.2, c5.2]; omega
    refine ⟨W, by rw [eW, opsO_app, opsO_app, opsO_app, u1, v1]; rfl, by rw [eW, hhd_app]; exact u2, ?_, fun f hf => inb _ _ _ (v4 f hf)⟩
    have hW : hA K (fun p q s => hbn K (some (h, tr, l)) W ca ra p q s ∨ (lpP lp p q ∧ ls = some s) ∨ fnP fs p s) ls (some (h, tr, l)) (u ++ ([(o5, some (h + 1, tr, l))] ++ (v ++ [(o6, some (h, tr, l))]))) ca ra := by
      refine hA_app (hA_in u3 rfl rfl (fun p q s g => Or.inl (in3 _ _ _ g))) (hA_app (hA_5 (by rw [e5]) hl (by omega) ht (Or.inl (hbn_pq te ?_ ?_)) (by rw [hhd_app]; exact v2)) (hA_app ?_ (by rw [e6]; exact hA_0 (by omega) hl (by omega) ht rfl)))
      · have q1 : o5.2.2.1 = ((4 + wC b : Nat) : Int) := by rw [e5]
        rw [q1, cu.1]; omega
      · have q1 : o5.2.2.2 = ((1 + wR K b : Nat) : Int) := by rw [e5]
        rw [q1, cu.2]; omega
      · refine hA_at (hA_T v3 (fun p q s g => g.elim (fun g => Or.inl (inb _ _ _ g)) Or.inr)) ?_ ?_
        · rw [(s1_w (K := K) _ _).1, cu.1, c5.1]; omega
        · rw [(s1_w _ _).2, cu.2, c5.2]; omega
    rw [← eW] at hW
    exact hW
  exact key _ _ _ rfl rfl rfl
theorem def_H {e0 : Nat × Nat × Nat × Nat × Nat} (he : e0.2.2.1 = ca + 2 ∧ e0.2.2.2.1 = ra + 2) (hes : e0.1 = s + 1) (hsc : lsc e0.2.1 s0) (hb0 : lbb s0) (h22 : ∀ (T : Int → Int → Nat × Nat × LL → Prop) (c r : Int), (∀ h t l, s0 = some (h, t, l) → T (-((s + 1 : Nat) : Int)) 0 (0, 0, ([], l.2))) → hA K T ls s1 [(((22, [s], 0, 0) : Op), s0)] c r) (hb : hO K none none (ca + 2) (ra + 2) b (some (0, 0, ([], e0.1))) (some (0, 0, ([], e0.1))) fs) : hO K lp ls ca ra ((4, [], ((5 + wC b : Nat) : Int), ((3 + wR K b : Nat) : Int)) :: (b ++ [(63, [], 0, 0), (8, [], 0, 0), (22, [s], 0, 0)])) s0 s1 (e0 :: fs) := by
  obtain ⟨v, v1, v2, v3, v4⟩ := hb
  have key : ∀ (o4 o3 o8 o2 : Op) (W : LO), o4 = (4, [], ((5 + wC b : Nat) : Int), ((3 + wR K b : Nat) : Int)) → o3 = (63, [], 0, 0) → o8 = (8, [], 0, 0) → o2 = (22, [s], 0, 0) → W = [(o4, s0)] ++ (v ++ ([(o3, some (0, 0, ([], e0.1)))] ++ ([(o8, some (1, 0, ([], e0.1)))] ++ [(o2, s0)]))) → hO K lp ls ca ra ([o4] ++ (b ++ ([o3] ++ ([o8] ++ [o2])))) s0 s1 (e0 :: fs) := by
    intro o4 o3 o8 o2 W e4 e3 e8 e2 eW
    have c4 : lC o4 = 2 ∧ lR K o4 = 2 := by rw [e4]; exact ⟨rfl, rfl⟩
    have c3 : lC o3 = 2 ∧ lR K o3 = 1 := by rw [e3]; exact ⟨rfl, rfl⟩
    have c8 : lC o8 = 1 ∧ lR K o8 = 1 := by rw [e8]; exact ⟨rfl, rfl⟩
    have cv : wC (opsO v) = wC b ∧ wR K (opsO v) = wR K b := by rw [v1]; exact ⟨rfl, rfl⟩
    have tx : ∀ s', s0 = some s' → hbn K s1 W ca ra (ca + 5 + wC b : Nat) (ra + 4 + wR K b : Nat) s' := fun s' hs => by
      rw [eW]
      refine hbn_r (hbn_r (hbn_r (hbn_r (hbn_pq (hbn_0 hs) ?_ ?_))))
      · rw [(s1_w (K := K) _ _).1, (s1_w (K := K) _ _).1, (s1_w (K := K) _ _).1, cv.1, c4.1, c3.1, c8.1]; omega
      · rw [(s1_w _ _).2, (s1_w _ _).2, (s1_w _ _).2, cv.2, c4.2, c3.2, c8.2]; omega
    have inb : ∀ p q s, hbn K (some (0, 0, ([], e0.1))) v (ca + 2 : Nat) (ra + 2 : Nat) p q s → hbn K s1 W ca ra p q s := fun p q s g => by
      rw [eW]
      refine hbn_r (hbn_l (hbn_at g ?_ ?_))
      · rw [(s1_w (K := K) _ _).1, c4.1]; omega
      · rw [(s1_w _ _).2, c4.2]; omega
    refine ⟨W, by rw [eW, opsO_app, opsO_app, opsO_app, opsO_app, v1]; rfl, by rw [eW]; rfl, ?_, fun f hf => ?_⟩
    · have hW : hA K (fun p q s => hbn K s1 W ca ra p q s ∨ (lpP lp p q ∧ ls = some s) ∨ fnP (e0 :: fs) p s) ls s1 ([(o4, s0)] ++ (v ++ ([(o3, some (0, 0, ([], e0.1)))] ++ ([(o8, some (1, 0, ([], e0.1)))] ++ [(o2, s0)])))) ca ra := by
        refine hA_app (hA_j (by rw [e4]) hb0 (fun s hs => Or.inl (hbn_pq (tx s hs) ?_ ?_))) (hA_app (hA_at (hA_ls (hA_T v3 (fun p q s g => g.elim (fun g => Or.inl (inb _ _ _ g)) (fun g => g.elim (fun g => g.1.elim) (fun g => Or.inr (Or.inr (fnP_m (fun f => List.mem_cons_of_mem _) g))))))) ?_ ?_) (hA_app ?_ (hA_app (hA_1 (lbb_s (by omega) (by omega)) (fun h' t' l' hx => ?_)) (by rw [e2]; exact h22 _ _ _ (fun h' t' l' e => Or.inr (Or.inr ⟨e0, List.mem_cons_self, by rw [hes], hsc h' t' l' e⟩))))))
        · have q1 : o4.2.2.1 = ((5 + wC b : Nat) : Int) := by rw [e4]
          rw [q1]; omega
        · have q1 : o4.2.2.2 = ((3 + wR K b : Nat) : Int) := by rw [e4]
          rw [q1]; omega
        · rw [(s1_w (K := K) _ _).1, c4.1]; omega
        · rw [(s1_w _ _).2, c4.2]; omega
        · rw [e3]
          exact hA_s (u := 1) (Or.inl (by dsimp only; omega)) (by dsimp only; omega) (hlm_n (by dsimp only; omega)) (hnm_n (by dsimp only; omega)) (Nat.le_refl _) rfl (by omega) (by omega) rfl (fun c => by dsimp only at c; omega)
        · injection hx with hx
          injection hx with g1 g2
          injection g2 with g2 g3
          subst g1; subst g2; subst g3
          refine ⟨?_, (fun hj => by rw [e8] at hj; unfold isJ at hj; dsimp only at hj; omega), (fun c6 => by rw [e8] at c6; dsimp only at c6; omega), (fun c6 => by rw [e8] at c6; dsimp only at c6; omega)⟩
          rw [e8]
          unfold hef
          dsimp only
          rw [if_neg (by omega), if_neg (by omega), if_neg (by omega), if_neg (by omega), if_neg (by omega), if_neg (by omega), if_neg (by omega), if_pos (by omega)]
          exact Nat.le_refl _
      rw [← eW] at hW
      exact hW
    · rcases List.mem_cons.mp hf with g | g
      · rw [g, he.1, he.2]
        exact inb _ _ _ (hbn_0 v2)
      · exact inb _ _ _ (v4 f g)
  exact key _ _ _ _ _ rfl rfl rfl rfl rfl
end
