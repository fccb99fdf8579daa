/-! THE NAMES OF A CLASS'S BLOCK, in the class -/
section
variable {A : Nat → Int32} {n z0 fb a0 s ab d : Nat} {S0 : cS}
theorem yOK_at {a c f k : Nat} {sc : SCs} {at' at1 : List Nat} {S S1 : cS} (h : yG A n S0 z0 fb a0 s ab k sc at' a c f S) (hF : FrT [4305] [] [45] [] S S1) (h45 : ∀ i, i < ab → sA S1 45 i = sA S 45 i) (hat : yAt (by1 A) n ab at1 S1) : yOK A n S0 z0 fb a0 s ab S a c f (k, [], sc, at1) S1 := by
  obtain ⟨g1, g2, g3, g4, g5, g6, g7, g8, g9, g10, g11, g12, ⟨tr, lt, g13, g13b, g13c, g13d⟩, g14, g15, g16, g17, g18, g19⟩ := h
  have e1 : ∀ i, i ∈ [3102, 3103, 3104, 3105, 3106, 3107, 3108, 3109, 3113, 1607] → i ∉ [4305] := by decide
  have e2 : ∀ a, a ∈ [1, 19, 20] → a ∉ [45] := by decide
  have hL : ∀ x, sL S1 x = sL S x := fun x => hF.2.2.2.1 x (fun h => by cases h)
  have hnK : nK S S1 := cP_nK g1 (hF.1 _ (by decide)) (fun a _ => hL a)
  have hP1 : cP A n S0 z0 k S1 := cP_S g1 (fun i hi => hF.1 i (e1 i hi)) (fun i _ => hF.2.1 i (fun h => by cases h)) (fun a ha => hF.2.2.1 a (e2 a ha)) (fun a _ => hL a)
  obtain ⟨z, z1, z2, z3, z4⟩ := cP_NT g1
  have hA : ∀ x, x ∉ [45] → sA S1 x = sA S x := hF.2.2.1
  refine ⟨⟨hP1, ⟨(hF.1 _ (by decide)).trans g2.1, (hF.1 _ (by decide)).trans g2.2.1, (hF.1 _ (by decide)).trans g2.2.2.1, (hF.1 _ (by decide)).trans g2.2.2.2.1, g2.2.2.2.2⟩, (hF.1 _ (by decide)).trans g3, (hF.1 _ (by decide)).trans g4, (hF.1 _ (by decide)).trans g5, yS_S g6 hnK (fun x hx => hA x (by
    have : ∀ x, x ∈ [27, 29, 30, 33, 34, 35, 36, 37, 38, 40] → x ∉ [45] := by decide
    exact this x hx)), fun i i1 i2 => by rw [hA 28 (by decide)]; exact g7 i i1 i2, g8, g9, hat, (hF.1 _ (by decide)).trans g11, fun i hi => by rw [hA 41 (by decide)]; exact g12 i hi, ⟨tr, lt, (hF.1 _ (by decide)).trans g13, (hF.1 _ (by decide)).trans g13b, g13c, g13d⟩, g14, g15, g16, g17, g18, g19⟩, ⟨z, c, (hF.1 _ (by decide)).trans z1, z2, (hF.1 _ (by decide)).trans g2.2.1, g14, trivial⟩, trivial, ⟨hF.mono (by decide) (fun _ h => by cases h) (by decide) (fun _ h => by cases h), kQ_A (fun i _ => by rw [hA 24 (by decide)]) (fun i _ => by rw [hL, hL]; exact ⟨rfl, rfl⟩) (fun i _ => by rw [hA 41 (by decide), hA 42 (by decide)]; exact ⟨rfl, rfl⟩) h45 (fun y hy i _ => by
    have : ∀ x, x ∈ [27, 28, 29, 30] → x ∉ [45] := by decide
    rw [hA y (this y hy)]), hnK⟩, hF.1 _ (by decide), trivial⟩
/-- a step of two words with more to say of it -/
theorem yE_2p {a c f k t m : Nat} {p : List Nat} {sc : SCs} {at' : List Nat} {S : cS} (h : yG A n S0 z0 fb a0 s ab k sc at' a c f S) (ht : t = 15 ∨ t = 24) (ha : a + 2 ≤ 40960) : ∃ S1, Ans (d + 2) 54 [.ref 23, .int (nI t), .int (nI m)] S (some (.int (nI a))) S1 ∧ yOK A n S0 z0 fb a0 s ab S a c f (k, [(t, m :: p, 0, 0)], sc, at') S1 := by
  have hF : FrT [2307] [] [24] [] S (wI 2307 (nI (a + 2)) (wA 24 (a + 1) (nI m) (wA 24 a (nI t) S))) := FrT_wI (by decide) (FrT_wA (by decide) (FrT_wA (by decide) (FrT.refl _ _ _ _ _)))
  have hc := h.2.2.2.2.2.2.2.2.2.2.2.2.2.1
  have hf := h.2.2.2.2.2.2.2.2.2.2.2.2.2.2.2.1
  have e1 : lC (t, m :: p, 0, 0) = 2 := by rcases ht with rfl | rfl <;> rfl
  have e2 : cnO (t, m :: p, 0, 0) = 0 := by rcases ht with rfl | rfl <;> rfl
  have e3 : fxO (t, m :: p, 0, 0) = 0 := by unfold fxO; exact if_neg (by dsimp only; omega)
  refine ⟨_, put2_ev (d := d) h.2.1.1 ha, yOK_e (o := (t, m :: p, 0, 0)) h (by dsimp only; omega) (hF.1 _ (by decide)) (hF.mono (by decide) (fun _ h => h) (by decide) (fun _ h => by cases h)) ⟨fun i hi => ?_, fun _ _ => ⟨rfl, rfl⟩, fun _ _ => ⟨rfl, rfl⟩⟩ (by rw [e1]; exact rIe _ _ _) (by rw [e2]; exact (hF.1 _ (by decide)).trans h.2.1.2.1) (by rw [e3]; exact (hF.1 _ (by decide)).trans h.2.1.2.2.1) (by rw [e2]; exact hc) (by rw [e1]; exact ha) (by rw [e3]; exact hf) (fun h => by rw [e3] at h; cases h) (fun z _ _ => ⟨fun _ => ?_, fun h => ?_, fun h => ?_, fun h => ?_, fun h => ?_, fun _ => ?_, fun h => ?_, fun h => ?_⟩)⟩
  · show upd (upd (sA S 24) a _) (a + 1) _ i = _
    rw [upd_at, upd_at, if_neg (by omega), if_neg (by omega)]
  · show upd (upd (sA S 24) a _) (a + 1) _ a = _
    rw [upd_at, upd_at, if_neg (by omega), if_pos rfl, tgC_id (by omega)]
  · exfalso; dsimp only at h; omega
  · exfalso; dsimp only at h; omega
  · exfalso; dsimp only at h; omega
  · exfalso; dsimp only at h; omega
  · show upd (upd (sA S 24) a _) (a + 1) _ (a + 1) = _
    rw [upd_at, if_pos rfl]
    rfl
  · exfalso; dsimp only at h; omega
  · exfalso; dsimp only at h; omega
theorem gv_L {a c f k kn q : Nat} {sc : SCs} {at' : List Nat} {S : cS} (h : yG A n S0 z0 fb a0 s ab k sc at' a c f S) (hq : nmR (by1 A) n S kn (nI q)) (hqM : q < 4096) (hab : ab ≤ 400) (ha : a + 2 ≤ 40960) : ∀ m j, m + j = min at'.length 40 → (∀ i, i < j → Eb (by1 A) n (at'.getD i 0) kn = false) → ∃ S1, (∀ lv : sm_L, sm_get lv 0 = some (.ref 43) → sm_get lv 1 = some (.int (nI q)) → sm_get lv 2 = some (.int (nI ab)) → sm_get lv 3 = some (.int (nI (ab + j))) → Bod (d + 10) 107 2 lv [] S none S1) ∧ yOK A n S0 z0 fb a0 s ab S a c f (k, gvO (Eb (by1 A) n) at' kn, sc, gvA (Eb (by1 A) n) at' kn) S1 := by
  obtain ⟨at1, at2, at3⟩ := h.2.2.2.2.2.2.2.2.2.1
  obtain ⟨z, z1, z2, z3, z4⟩ := cP_NT h.1
  intro m
  induction m with
  | zero =>
    intro j hj hno
    by_cases h40 : 40 ≤ at'.length
    · -- no room
      have hf : ∀ i, gvI (Eb (by1 A) n) at' kn = some i → 40 ≤ i := fun i hi => by
        unfold gvI at hi
        obtain ⟨hlt, hp, _⟩ := List.findIdx?_eq_some_iff_getElem.mp hi
        by_cases h4 : i < 40
        · exfalso
          have := hno i (by omega)
          rw [List.getD_eq_getElem?_getD, List.getElem?_eq_getElem hlt] at this
          exact Bool.noConfusion ((show Eb (by1 A) n at'[i] kn = true from hp).symm.trans this)
        · omega
      cases hg : gvI (Eb (by1 A) n) at' kn with
      | none =>
        have e1 : gvO (Eb (by1 A) n) at' kn = [(15, [8], 0, 0)] := by unfold gvO; rw [hg]; exact if_pos h40
        have e2 : gvA (Eb (by1 A) n) at' kn = at' ++ [kn] := by unfold gvA; rw [hg]
        obtain ⟨S1, p1, p2⟩ := yE_2p (d := d + 8) (t := 15) (m := 8) (p := []) h (by omega) ha
        refine ⟨S1, fun lv q0 q1 q2 q3 => cGvrL_1 (d := d + 2) (av := ab + min at'.length 40) q3 q0 q1 q2 (by omega) (by omega) at1 (by omega) (by omega) (by omega) (by omega) (by omega) p1, ?_⟩
        rw [e1, e2]
        have hat := p2.1.2.2.2.2.2.2.2.2.2.1
        have el : (at' ++ [kn]).length = at'.length + 1 := by rw [List.length_append]; rfl
        have hat1 : yAt (by1 A) n ab (at' ++ [kn]) S1 := by
          have em : min (at' ++ [kn]).length 40 = min at'.length 40 := by rw [el]; omega
          refine ⟨by rw [em]; exact hat.1, by rw [em]; exact hat.2.1, fun i hi h4 => ?_⟩
          rw [getD_old (by omega)]
          exact hat.2.2 i (by show i < at'.length; omega) h4
        have p3 := yOK_app p2 (yOK_at p2.1 (FrT.refl _ _ _ _ _) (fun _ _ => rfl) hat1)
        exact p3
      | some i =>
        have e1 : gvO (Eb (by1 A) n) at' kn = [(15, [8, 1], 0, 0), (61, [1], 0, 0)] := by
          unfold gvO
          rw [hg]
          exact if_neg (by have := hf i hg; omega)
        have e2 : gvA (Eb (by1 A) n) at' kn = at' := by unfold gvA; rw [hg]
        obtain ⟨S1, p1, p2⟩ := yE_2p (d := d + 8) (t := 15) (m := 8) (p := [1]) h (by omega) ha
        refine ⟨S1, fun lv q0 q1 q2 q3 => cGvrL_1 (d := d + 2) (av := ab + min at'.length 40) q3 q0 q1 q2 (by omega) (by omega) at1 (by omega) (by omega) (by omega) (by omega) (by omega) p1, ?_⟩
        rw [e1, e2]
        exact yOK_app p2 (yE_61 (p := [1]) p2.1)
    · -- one more
      have hg : gvI (Eb (by1 A) n) at' kn = none := by
        unfold gvI
        rw [List.findIdx?_eq_none_iff]
        intro x hx
        obtain ⟨i, hi, rfl⟩ := List.mem_iff_getElem.mp hx
        have := hno i (by omega)
        rw [List.getD_eq_getElem?_getD, List.getElem?_eq_getElem hi] at this
        exact this
      have e1 : gvO (Eb (by1 A) n) at' kn = [] := by unfold gvO; rw [hg]; exact if_neg h40
      have e2 : gvA (Eb (by1 A) n) at' kn = at' ++ [kn] := by unfold gvA; rw [hg]
      have em : min at'.length 40 = at'.length := by omega
      rw [em] at at1 at2
      have hF : FrT [4305] [] [45] [] S (wI 4305 (nI (ab + at'.length + 1)) (wA 45 (ab + at'.length) (nI q) S)) := FrT_wI (by decide) (FrT_wA (by decide) (FrT.refl _ _ _ _ _))
      refine ⟨_, fun lv q0 q1 q2 q3 => cGvrL_2 (d := d + 2) (av := ab + at'.length) q3 q0 q1 q2 (by omega) (by omega) at1 (by omega) (by omega) (by omega) (by omega) (by omega), ?_⟩
      rw [e1, e2]
      have hnK : nK S (wI 4305 (nI (ab + at'.length + 1)) (wA 45 (ab + at'.length) (nI q) S)) := cP_nK h.1 (hF.1 _ (by decide)) (fun _ _ => rfl)
      have el : (at' ++ [kn]).length = at'.length + 1 := by rw [List.length_append]; rfl
      refine yOK_at h hF (fun i hi => ?_) ⟨?_, ?_, fun i hi h4 => ?_⟩
      · show upd (sA S 45) (ab + at'.length) (nI q) i = _
        rw [upd_at, if_neg (by omega)]
      · rw [el, show min (at'.length + 1) 40 = at'.length + 1 by omega]
        exact rIe _ _ _
      · rw [el]
        omega
      · show nmR (by1 A) n _ _ (upd (sA S 45) (ab + at'.length) (nI q) (ab + i))
        rw [upd_at]
        by_cases hi2 : i = at'.length
        · subst hi2
          rw [if_pos rfl, getD_new]
          exact nmR_K hnK hq
        · rw [if_neg (by omega), getD_old (by omega)]
          exact nmR_K hnK (at3 i (by omega) h4)
  | succ m ih =>
    intro j hj hno
    have hjl : j < at'.length := by omega
    have hj4 : j < 40 := by omega
    have hn := at3 j hjl hj4
    obtain ⟨p, hp, _, hpM⟩ := nmR_lt hn
    by_cases hpq : sA S 45 (ab + j) = nI q
    · have hE : Eb (by1 A) n (at'.getD j 0) kn = true := by
        rw [hpq] at hn
        exact nmR_E hn hq
      have hg : gvI (Eb (by1 A) n) at' kn = some j := by
        unfold gvI
        rw [List.findIdx?_eq_some_iff_getElem]
        refine ⟨hjl, ?_, fun i hi hc => ?_⟩
        · rw [List.getD_eq_getElem?_getD, List.getElem?_eq_getElem hjl] at hE
          exact hE
        · have := hno i hi
          rw [List.getD_eq_getElem?_getD, List.getElem?_eq_getElem (by omega)] at this
          exact Bool.noConfusion ((show Eb (by1 A) n at'[i] kn = true from hc).symm.trans this)
      have e1 : gvO (Eb (by1 A) n) at' kn = [(24, [min at'.length 40 - j, at'.length - j], 0, 0)] := by
        unfold gvO
        rw [hg]
        exact if_pos hj4
      have e2 : gvA (Eb (by1 A) n) at' kn = at' := by unfold gvA; rw [hg]
      obtain ⟨S1, p1, p2⟩ := yE_2p (d := d + 8) (t := 24) (m := min at'.length 40 - j) (p := [at'.length - j]) h (by omega) ha
      have e3 : ab + min at'.length 40 - (ab + j) = min at'.length 40 - j := by omega
      refine ⟨S1, fun lv q0 q1 q2 q3 => cGvrL_7 (d := d + 2) (a := a) (av := ab + min at'.length 40) q3 q0 q1 q2 (by omega) (by omega) at1 (by omega) (by omega) (by omega) hpq (by omega) (by omega) (by rw [e3]; exact p1), ?_⟩
      rw [e1, e2]
      exact p2
    · have hE : Eb (by1 A) n (at'.getD j 0) kn = false := by
        cases hE : Eb (by1 A) n (at'.getD j 0) kn with
        | false => rfl
        | true =>
          exfalso
          rw [hp] at hn hpq
          exact hpq (congrArg nI (nmR_q z4 hn hq hpM hqM hE))
      obtain ⟨S1, i1, i2⟩ := ih (j + 1) (by omega) (fun i hi => by
        by_cases hij : i = j
        · rw [hij]; exact hE
        · exact hno i (by omega))
      exact ⟨S1, fun lv q0 q1 q2 q3 => cGvrL_8 (d := d + 2) (av := ab + min at'.length 40) q3 q0 q1 q2 (by omega) (by omega) at1 (by omega) (by omega) (by omega) hpq (fun lv1 r0 r1 r2 r3 => i1 lv1 r0 r1 r2 r3), i2⟩
/-- a value on the stack becomes an attribute -/
theorem give_T {a c f k kn q : Nat} {sc : SCs} {at' : List Nat} {S : cS} (h : yG A n S0 z0 fb a0 s ab k sc at' a c f S) (hq : nmR (by1 A) n S kn (nI q)) (hqM : q < 4096) (hab : ab ≤ 400) (ha : a + 2 ≤ 40960) : ∃ S1, Ans (d + 11) 107 [.ref 43, .int (nI q), .int (nI ab)] S none S1 ∧ yOK A n S0 z0 fb a0 s ab S a c f (k, gvO (Eb (by1 A) n) at' kn, sc, gvA (Eb (by1 A) n) at' kn) S1 := by
  obtain ⟨S1, i1, i2⟩ := gv_L (d := d) h hq hqM hab ha (min at'.length 40) 0 rfl (fun i hi => by omega)
  exact ⟨S1, Ans.of (by rw [ml_107]; exact Nat.le_of_ble_eq_true rfl) (Bod.lv (by rfl) (cGvr0_1 (d := d + 2) (by omega) (fun lv1 r0 r1 r2 r3 => i1 lv1 r0 r1 r2 r3))), i2⟩
end
section
variable {A : Nat → Int32} {n z0 fb l a c f ab lo : Nat} {S0 B : cS} {H : List Nat} {qa qc qf qe qs qn d : Nat}
theorem gvB_L {S : cS} {q : Int32} (h : yB A n S0 z0 fb l a c f ab lo H qa qc qf qe qs qn B S) (hq : qa + 2 ≤ 40960) {av : Nat} (hav : sI S 4305 = nI av) (hav2 : av ≤ 440) (hav1 : ab ≤ av) : ∀ m i, m + i = av → ab ≤ i → ∃ S1, (∀ lv : sm_L, sm_get lv 0 = some (.ref 43) → sm_get lv 1 = some (.int q) → sm_get lv 2 = some (.int (nI ab)) → sm_get lv 3 = some (.int (nI i)) → Bod (d + 10) 107 2 lv [] S none S1) ∧ yB A n S0 z0 fb l a c f ab lo H (qa + 2) qc qf qe qs qn B S1 := by
  have hput : ∀ (x0 x1 : Int32), ∃ S1 t, Ans (d + 10) 54 [.ref 23, .int x0, .int x1] S (some (.int (nI t))) S1 ∧ t < 2 ^ 20 ∧ yB A n S0 z0 fb l a c f ab lo H (qa + 2) qc qf qe qs qn B S1 := fun x0 x1 => by
    obtain ⟨S1, t, p1, p2, p3, _⟩ := yB_put2 (d := d + 8) (x0 := x0) (x1 := x1) h hq
    exact ⟨S1, t, p1, p2, yB_H p3 (fun x hx => List.mem_cons_of_mem _ hx)⟩
  intro m
  induction m with
  | zero =>
    intro i hi hi2
    by_cases h40 : 40 ≤ av - ab
    · obtain ⟨S1, t, p1, p2, p3⟩ := hput (nI 15) (nI 8)
      exact ⟨S1, fun lv q0 q1 q2 q3 => cGvrL_1 (d := d + 2) q3 q0 q1 q2 (by omega) (by omega) hav (by omega) (by omega) (by omega) h40 p2 p1, p3⟩
    by_cases h44 : 440 ≤ av
    · obtain ⟨S1, t, p1, p2, p3⟩ := hput (nI 15) (nI 8)
      exact ⟨S1, fun lv q0 q1 q2 q3 => cGvrL_3 (d := d + 2) q3 q0 q1 q2 (by omega) (by omega) hav (by omega) (by omega) (by omega) (by omega) h44 p2 p1, p3⟩
    · have hF : FrT [4305] [] [45] [] S (wI 4305 (nI (av + 1)) (wA 45 av q S)) := FrT_wI (by decide) (FrT_wA (by decide) (FrT.refl _ _ _ _ _))
      obtain ⟨t, c', f', s, e, sn, fn, av2, tv, lv, l', h1, h2, h3, h4, h5, h6, h7', h8, h9, hfl, hlo, g1, g2, g3, g4, g5, g6, g7, g8, g9, g10⟩ := yB_top h
      obtain ⟨ps, t', k1, k2, k3, k4, k5⟩ := id h.2.2.2.1
      refine ⟨_, fun lv q0 q1 q2 q3 => cGvrL_2 (d := d + 2) q3 q0 q1 q2 (by omega) (by omega) hav (by omega) (by omega) (by omega) (by omega) (by omega), yB_w h (hF.mono (by decide) (fun _ h => h) (by decide) (fun _ h => by cases h)) ⟨t, c', f', s, e, sn, fn, av + 1, tv, lv, l', ⟨(hF.1 _ (by decide)).trans h1.1, (hF.1 _ (by decide)).trans h1.2.1, (hF.1 _ (by decide)).trans h1.2.2.1, (hF.1 _ (by decide)).trans h1.2.2.2.1, h1.2.2.2.2⟩, (hF.1 _ (by decide)).trans h2, (hF.1 _ (by decide)).trans h3, (hF.1 _ (by decide)).trans h4, rIe _ _ _, (hF.1 _ (by decide)).trans h6, (hF.1 _ (by decide)).trans h7', (hF.1 _ (by decide)).trans h8, by rw [hF.1 3108 (by decide)]; exact h9, (hF.1 _ (by decide)).trans hfl, by omega, by omega, g2, g3, g4, g5, g6, by omega, g8, g9, g10⟩ (kQ_A (fun _ _ => rfl) (fun _ _ => ⟨rfl, rfl⟩) (fun _ _ => ⟨rfl, rfl⟩) (fun i hi => ?_) (fun y hy i _ => ?_)) ⟨ps, t', (hF.1 _ (by decide)).trans k1, k2, ?_, k4, k5⟩ (yV_F (LI := [4305]) (LJ := []) (LA := [45]) (LL := []) h.2.2.2.2.2 hF (by decide) (by decide))⟩
      · show upd (sA S 45) av q i = _
        rw [upd_at, if_neg (by omega)]
      · have : ∀ x, x ∈ [27, 28, 29, 30] → x ∉ [45] := by decide
        rw [hF.2.2.1 y (this y hy)]
      · rw [hF.1 4310 (by decide)]
        exact chL_S (S := S) ps _ (fun p _ => rfl) k3
  | succ m ih =>
    intro i hi hi2
    by_cases hc : sA S 45 i = q
    · obtain ⟨S1, t, p1, p2, p3⟩ := hput (nI 24) (nI (av - i))
      exact ⟨S1, fun lv q0 q1 q2 q3 => cGvrL_7 (d := d + 2) q3 q0 q1 q2 (by omega) (by omega) hav (by omega) (by omega) (by omega) hc (by omega) p2 p1, p3⟩
    · obtain ⟨S1, i1, i2⟩ := ih (i + 1) (by omega) (by omega)
      exact ⟨S1, fun lv q0 q1 q2 q3 => cGvrL_8 (d := d + 2) q3 q0 q1 q2 (by omega) (by omega) hav (by omega) (by omega) (by omega) hc (fun lv1 r0 r1 r2 r3 => i1 lv1 r0 r1 r2 r3), i2⟩
theorem give_B {S : cS} {q : Int32} (h : yB A n S0 z0 fb l a c f ab lo H qa qc qf qe qs qn B S) (hq : qa + 2 ≤ 40960) : ∃ S1, Ans (d + 11) 107 [.ref 43, .int q, .int (nI ab)] S none S1 ∧ yB A n S0 z0 fb l a c f ab lo H (qa + 2) qc qf qe qs qn B S1 := by
  obtain ⟨t, c', f', s, e, sn, fn, av, tv, lv, l', h1, h2, h3, h4, h5, h6, h7', h8, h9, hfl, hlo, g1, g2, g3, g4, g5, g6, g7, g8, g9, g10⟩ := yB_top h
  obtain ⟨S1, i1, i2⟩ := gvB_L (d := d) (q := q) h hq h5 g7.1 (by omega) (av - ab) ab (by omega) (Nat.le_refl _)
  exact ⟨S1, Ans.of (by rw [ml_107]; exact Nat.le_of_ble_eq_true rfl) (Bod.lv (by rfl) (cGvr0_1 (d := d + 2) (by omega) (fun lv1 r0 r1 r2 r3 => i1 lv1 r0 r1 r2 r3))), i2⟩
/-- a class's block ends behind a fault -/
theorem cbk_B {S : cS} {i dp fi : Nat} (h : yB A n S0 z0 fb l a c f ab lo H qa qc qf qe qs qn B S) (hi : i < 2 ^ 20) (hdp : dp < 2 ^ 20) (hfi : fi < 2 ^ 20) : ∃ S1, (∀ (t : Nat) (lv : sm_L), t < 2 ^ 20 → sm_get lv 0 = some (.ref 43) → sm_get lv 1 = some (.int (nI i)) → sm_get lv 2 = some (.int (nI dp)) → sm_get lv 3 = some (.int (nI fi)) → sm_get lv 4 = some (.int (nI t)) → Bod (d + 9) 106 3 lv [] S none S1) ∧ yB A n S0 z0 fb l a c f ab lo H qa qc qf qe qs qn B S1 := by
  obtain ⟨t, c', f', s, e, sn, fn, av, tv, lv, l', h1, h2, h3, h4, h5, h6, h7', h8, h9, hfl, hlo, g1, g2, g3, g4, g5, g6, g7, g8, g9, g10⟩ := yB_top h
  have hin := yB_ins (d := d) h hi
  rcases h9 with h9 | ⟨j, h9, h9M⟩
  · refine ⟨S, fun t lv ht q0 q1 q2 q3 q4 => ?_, h⟩
    by_cases h3 : 3000 < t
    · exact cCbr_3 (d := d + 1) q4 q0 q1 q2 q3 ht hi hdp hfi h3 h9
    · exact cCbr_9 (d := d + 1) q4 q0 q1 q2 q3 ht hi hdp hfi (by omega) hin h9
  by_cases hj : j ≤ i
  · refine ⟨S, fun t lv ht q0 q1 q2 q3 q4 => ?_, h⟩
    by_cases h3 : 3000 < t
    · exact cCbr_1 (d := d + 1) q4 q0 q1 q2 q3 ht hi hdp hfi h3 h9 (by omega) hj
    · exact cCbr_7 (d := d + 1) q4 q0 q1 q2 q3 ht hi hdp hfi (by omega) hin h9 (by omega) hj
  · obtain ⟨S1, p1, p2⟩ := yB_fail (d := d + 8) h
    refine ⟨S1, fun t lv ht q0 q1 q2 q3 q4 => ?_, p2⟩
    by_cases h3 : 3000 < t
    · exact cCbr_2 (d := d + 1) q4 q0 q1 q2 q3 ht hi hdp hfi h3 h9 (by omega) (by omega) p1
    · exact cCbr_8 (d := d + 1) q4 q0 q1 q2 q3 ht hi hdp hfi (by omega) hin h9 (by omega) (by omega) p1
end
