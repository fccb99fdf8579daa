/-! THE CLASS IN A RULE OF STATEMENTS: a good state; what a rule gives -/
def fxS (S : cS) : Nat → Nat → List Op → Prop
  | _, _, [] => True
  | f, a, o :: r => (fxO o = 1 → sA S 41 f = nI a ∧ sA S 42 f = nI (o.2.1.getD 1 0)) ∧ fxS S (f + fxO o) (a + lC o) r
theorem fxS_app {S : cS} {o2 : List Op} : ∀ (o1 : List Op) (f a : Nat), fxS S f a (o1 ++ o2) ↔ fxS S f a o1 ∧ fxS S (f + fxM o1) (a + wC o1) o2 := by
  intro o1
  induction o1 with
  | nil => intro f a; exact ⟨fun h => ⟨trivial, h⟩, fun h => h.2⟩
  | cons o r ih =>
    intro f a
    show (fxO o = 1 → _) ∧ fxS S (f + fxO o) (a + lC o) (r ++ o2) ↔ ((fxO o = 1 → _) ∧ fxS S (f + fxO o) (a + lC o) r) ∧ fxS S (f + (fxO o + fxM r)) (a + (lC o + wC r)) o2
    rw [ih, ← Nat.add_assoc, ← Nat.add_assoc, and_assoc]
theorem fxO_le (o : Op) : fxO o ≤ 1 := by unfold fxO; split <;> omega
theorem fxS_mono {S S1 : cS} {hi : Nat} : ∀ (os : List Op) (f a : Nat), (∀ i, i < hi → sA S1 41 i = sA S 41 i ∧ sA S1 42 i = sA S 42 i) → f + fxM os ≤ hi → fxS S f a os → fxS S1 f a os := by
  intro os
  induction os with
  | nil => intro f a _ _ _; trivial
  | cons o r ih =>
    intro f a hs hh h
    have e : fxM (o :: r) = fxO o + fxM r := rfl
    exact ⟨fun h1 => by rw [(hs f (by omega)).1, (hs f (by omega)).2]; exact h.1 h1, ih _ _ hs (by omega) h.2⟩
/-- the places that wait are below a -/
def fxB (S : cS) (f a : Nat) : Prop := ∀ i, i < f → ∃ p, sA S 41 i = nI p ∧ p < a
theorem fxS_B {S : cS} : ∀ (os : List Op) (f a : Nat), (∀ o, o ∈ os → fxO o = 1 → 1 ≤ lC o) → fxS S f a os → ∀ i, f ≤ i → i < f + fxM os → ∃ p, sA S 41 i = nI p ∧ a ≤ p ∧ p < a + wC os := by
  intro os
  induction os with
  | nil => intro f a _ _ i h1 h2; have : fxM [] = 0 := rfl; omega
  | cons o r ih =>
    intro f a hl h i h1 h2
    have e : fxM (o :: r) = fxO o + fxM r := rfl
    have e2 : wC (o :: r) = lC o + wC r := rfl
    have h3 := fxO_le o
    rcases Nat.lt_or_ge i (f + fxO o) with h4 | h4
    · have h5 : fxO o = 1 := by omega
      obtain rfl : i = f := by omega
      exact ⟨a, (h.1 h5).1, Nat.le_refl _, by have := hl o List.mem_cons_self h5; omega⟩
    · obtain ⟨p, p1, p2, p3⟩ := ih _ _ (fun o ho => hl o (List.mem_cons_of_mem _ ho)) h.2 i (by omega) (by omega)
      exact ⟨p, p1, by omega, by omega⟩
theorem fxO_l {o : Op} (h : fxO o = 1) : 3 ≤ lC o := by
  unfold fxO at h
  split at h
  · rename_i h1
    by_cases h21 : o.1 = 21
    · rw [lC_21 h21]; omega
    · rw [lC_n (by omega)]; omega
  · cases h
/-- breaks that wait -/
def bks : Nat → List Op → List Nat
  | _, [] => []
  | a, o :: r => if o.1 = 60 then a :: bks (a + lC o) r else bks (a + lC o) r
theorem bks_app {o2 : List Op} : ∀ (o1 : List Op) (a : Nat), bks a (o1 ++ o2) = bks a o1 ++ bks (a + wC o1) o2 := by
  intro o1
  induction o1 with
  | nil => intro a; rfl
  | cons o r ih =>
    intro a
    show (if o.1 = 60 then a :: bks (a + lC o) (r ++ o2) else bks (a + lC o) (r ++ o2)) = (if o.1 = 60 then a :: bks (a + lC o) r else bks (a + lC o) r) ++ bks (a + (lC o + wC r)) o2
    rw [ih, Nat.add_assoc]
    split
    · rfl
    · rfl
theorem bks_no {os : List Op} : ∀ a, (∀ o, o ∈ os → o.1 ≠ 60) → bks a os = [] := by
  induction os with
  | nil => intro a _; rfl
  | cons o r ih =>
    intro a h
    show (if o.1 = 60 then _ else _) = _
    rw [if_neg (h o List.mem_cons_self)]
    exact ih _ (fun o ho => h o (List.mem_cons_of_mem _ ho))
def yAt (β : Nat → Nat) (n ab : Nat) (at' : List Nat) (S : cS) : Prop := sI S 4305 = nI (ab + min at'.length 40) ∧ ab + min at'.length 40 ≤ 440 ∧ ∀ i, i < at'.length → i < 40 → nmR β n S (at'.getD i 0) (sA S 45 (ab + i))
/-- a good state: the class stands at token k -/
def yG (A : Nat → Int32) (n : Nat) (S0 : cS) (z0 fb a0 s ab k : Nat) (sc : SCs) (at' : List Nat) (a c f : Nat) (S : cS) : Prop := cP A n S0 z0 k S ∧ eS S a c f s ∧ sI S 2309 = nI (fb + sc.1.length - 1) ∧ sI S 3212 = nI sc.1.length ∧ sI S 3213 = nI sc.2.length ∧ yS (by1 A) n fb a0 sc S ∧ yN fb sc S ∧ scW (Eb (by1 A) n) sc ∧ s < sc.1.length ∧ yAt (by1 A) n ab at' S ∧ sI S 2310 = nI 0 ∧ fxB S f a ∧ (∃ tr lt, sI S 4308 = nI tr ∧ sI S 4311 = nI lt ∧ tr ≤ 100 ∧ lt ≤ 100) ∧ c ≤ 5200 ∧ a ≤ 40960 ∧ f ≤ 1600 ∧ sc.2.length ≤ 1600 ∧ sc.1.length ≤ 300 ∧ fb + sc.1.length ≤ 901
/-- from the state B at a, c, f on: the steps os are put -/
def yOK (A : Nat → Int32) (n : Nat) (S0 : cS) (z0 fb a0 s ab : Nat) (B : cS) (a c f : Nat) (x : PT) (S : cS) : Prop := yG A n S0 z0 fb a0 s ab x.1 x.2.2.1 x.2.2.2 (a + wC x.2.1) (c + cnN x.2.1) (f + fxM x.2.1) S ∧ cd (by1 A) n S fb a x.2.1 ∧ fxS S f a x.2.1 ∧ yF fb a c f ab B S ∧ chL S (sI B 4310) (bks a x.2.1).reverse (sI S 4310) ∧ chD (a + 2) (a + wC x.2.1) (bks a x.2.1).reverse
section
variable {A : Nat → Int32} {n z0 fb a0 s ab : Nat} {S0 B : cS}
theorem yAt_S {at' : List Nat} {S S1 : cS} (h : yAt (by1 A) n ab at' S) (hn : nK S S1) (h5 : sI S1 4305 = sI S 4305) (hA : sA S1 45 = sA S 45) : yAt (by1 A) n ab at' S1 := by
  obtain ⟨h1, h2, h3⟩ := h
  refine ⟨h5.trans h1, h2, fun i hi hi2 => ?_⟩
  rw [hA]
  exact nmR_K hn (h3 i hi hi2)
/-- the chains of scopes, of a good state -/
theorem yG_V {k : Nat} {sc : SCs} {at' : List Nat} {a c f : Nat} {S : cS} (h : yG A n S0 z0 fb a0 s ab k sc at' a c f S) : yV S := by
  obtain ⟨h1, h2, h3, h4, h5, h6, h7, h8, h9, h10, h11, h12, h13, h14, h15, h16, h17, h18, h19⟩ := h
  refine ⟨_, _, s, h4, h5, h2.2.2.2.1, h9, h18, h17, fun i i1 i2 => ?_, fun e he => ?_⟩
  · rw [(h6.1 i i1 i2).2.2.1]
    rcases lsI_ok (f := sF sc.2) (s := i) sc.2.length with g | ⟨e, g1, g2, g3⟩
    · exact Or.inl g
    · exact Or.inr ⟨e, g1, g2⟩
  · obtain ⟨g1, g2, g3, g4⟩ := h6.2 e he
    rw [g4]
    rcases lsI_ok (f := sF sc.2) (s := sF sc.2 e) e with g | ⟨e', g1, g2, g3⟩
    · exact Or.inl g
    · exact Or.inr ⟨e', g1, g2⟩
theorem yG_C {k : Nat} {sc : SCs} {at' : List Nat} {a c f : Nat} {S : cS} (hn : n ≤ 3000) (h : yG A n S0 z0 fb a0 s ab k sc at' a c f S) {a1 c1 f1 ab1 : Nat} (ha : a1 ≤ a) (hc : c1 ≤ c) (hf : f1 ≤ f) (hab : ab1 = ab) : yC fb a1 c1 f1 ab1 a c f sc.2.length sc.1.length (fb + sc.1.length - 1) S := by
  obtain ⟨h1, h2, h3, h4, h5, h6, h7, h8, h9, h10, h11, h12, ⟨tr, lt, h13, h13b, h13c, h13d⟩, h14, h15, h16, h17, h18, h19⟩ := h
  obtain ⟨z, hT⟩ := h1
  have hL := (q_lt (by1 A) n k).2.2.1
  have hI := (q_lt (by1 A) n k).2.2.2.1
  refine ⟨a, c, f, s, _, _, _, _, tr, lt, _, h2, h5, h4, h3, h10.1, h13, h13b, hT.2.1.2.1, ?_, h11, by omega, Nat.le_refl _, Nat.le_refl _, Nat.le_refl _, Nat.le_refl _, Nat.le_refl _, Nat.le_refl _, ⟨h10.2.1, by omega⟩, h13c, h13d, by omega⟩
  by_cases hk : qK (by1 A) n k = 1
  · exact Or.inl (hT.2.1.2.2.1 hk).2.1
  · exact Or.inr ⟨_, (hT.2.1.2.2.2 hk).2.1, by omega⟩
/-- one behind the other -/
theorem yOK_app {a c f k1 : Nat} {os1 : List Op} {sc1 : SCs} {at1 : List Nat} {x : PT} {S S1 : cS} (h : yOK A n S0 z0 fb a0 s ab B a c f (k1, os1, sc1, at1) S) (g : yOK A n S0 z0 fb a0 s ab S (a + wC os1) (c + cnN os1) (f + fxM os1) x S1) : yOK A n S0 z0 fb a0 s ab B a c f (x.1, os1 ++ x.2.1, x.2.2.1, x.2.2.2) S1 := by
  obtain ⟨h1, h2, h3, h4, h5, h6⟩ := h
  obtain ⟨g1, g2, g3, g4, g5, g6⟩ := g
  dsimp only at h1 h2 h3 h5 h6
  have hq := g4.2.1.1
  have hcc : c + cnN os1 ≤ 5200 := h1.2.2.2.2.2.2.2.2.2.2.2.2.2.1
  have hcc1 : c + cnN os1 + cnN x.2.1 ≤ 5200 := g1.2.2.2.2.2.2.2.2.2.2.2.2.2.1
  have hr : (bks a (os1 ++ x.2.1)).reverse = (bks (a + wC os1) x.2.1).reverse ++ (bks a os1).reverse := by rw [bks_app, List.reverse_append]
  unfold yOK
  dsimp only
  rw [wC_app, cnN_app, fxM_app, ← Nat.add_assoc, ← Nat.add_assoc, ← Nat.add_assoc, hr]
  refine ⟨g1, cd_app ?_ g2, (fxS_app os1 f a).mpr ⟨fxS_mono os1 f a hq.2.2 (Nat.le_refl _) h3, g3⟩, yF_trans h4 g4 (by omega) (by omega) (by omega) (Nat.le_refl _), chL_app _ _ _ g5 (chL_S _ _ (fun p hp => hq.1 _ (by have := chD_mem _ _ h6 p hp; omega)) h5), chD_app (by omega) _ _ _ g6 h6 (by omega)⟩
  obtain ⟨z, c', i1, i2, i3, i4, i5⟩ := h2
  obtain ⟨w, w1, j1, j2, j3, j4, j5⟩ := g4.2.2
  obtain rfl : z = w := nI_inj (by omega) (by omega) (i1.symm.trans j1)
  have hc' : c' = c + cnN os1 := nI_inj (by omega) (by omega) (i3.symm.trans h1.2.1.2.1)
  subst hc'
  exact ⟨w1, _, j2, j4, g1.2.1.2.1, hcc1, lsC_mono os1 a (hi := a + wC os1) ⟨j3, by omega, fun i _ h7 => hq.1 i h7, hq.2.1, j5⟩ (Nat.le_refl _) i5⟩
/-- and a fault behind it -/
theorem yOK_bad {a c f k1 l lo2 : Nat} {os1 : List Op} {sc1 : SCs} {at1 : List Nat} {H2 H : List Nat} {qa qc qf qe qs qn : Nat} {S S1 : cS} (h : yOK A n S0 z0 fb a0 s ab B a c f (k1, os1, sc1, at1) S) (g : yB A n S0 z0 fb l (a + wC os1) (c + cnN os1) (f + fxM os1) ab lo2 H2 qa qc qf qe qs qn S S1) (hlo : a + wC os1 + 2 ≤ lo2) (hH : ∀ p, p ∈ H → p + 2 ≤ a + wC os1 ∧ p ∉ bks a os1 ∨ p ∈ H2 ∧ a + wC os1 ≤ p) : yB A n S0 z0 fb l a c f ab (a + 2) H qa qc qf qe qs qn B S1 := by
  obtain ⟨h1, h2, h3, h4, h5, h6⟩ := h
  dsimp only at h1 h2 h3 h5 h6
  obtain ⟨g1, ⟨a', c', f', s', e, sn, fn, av, tv, lv, l', b1, b2, b3, b4, b5, b6, b7, b8, b9, bfl, blo, bb⟩, g3, ⟨ps, t, k1', k2, k3, k4, k5⟩, g5, g6⟩ := g
  refine ⟨g1, ⟨a', c', f', s', e, sn, fn, av, tv, lv, l', b1, b2, b3, b4, b5, b6, b7, b8, b9, bfl, by omega, bb⟩, yF_trans h4 g3 (by omega) (by omega) (by omega) (Nat.le_refl _), ⟨ps ++ (bks a os1).reverse, t, k1', k2, chL_app _ _ _ k3 (chL_S _ _ (fun p hp => g3.2.1.1.1 _ (by have := chD_mem _ _ h6 p hp; omega)) h5), ?_, fun p hp => ?_⟩, by omega, g6⟩
  · have htop : a + wC os1 ≤ t := by
      have e1 := nI_inj (a := t) (b := a') (by omega) (by omega) (k1'.symm.trans b1.1)
      omega
    exact chD_app (by omega) _ _ _ (chD_lo hlo _ _ k4) h6 htop
  · have htop : a + wC os1 ≤ t := by
      have e1 := nI_inj (a := t) (b := a') (by omega) (by omega) (k1'.symm.trans b1.1)
      omega
    rcases hH p hp with ⟨h7, h8⟩ | ⟨h7, h8⟩
    · refine ⟨by omega, fun hc => ?_⟩
      rcases List.mem_append.mp hc with h9 | h9
      · have := chD_mem _ _ k4 p h9
        omega
      · exact h8 (List.mem_reverse.mp h9)
    · obtain ⟨i1, i2⟩ := k5 p h7
      refine ⟨i1, fun hc => ?_⟩
      rcases List.mem_append.mp hc with h9 | h9
      · exact i2 h9
      · have := chD_mem _ _ h6 p h9
        omega
/-- it is a fault at once -/
theorem yG_bad {a c f k l : Nat} {sc : SCs} {at' : List Nat} {S S1 : cS} (hn : n ≤ 3000) (h : yG A n S0 z0 fb a0 s ab k sc at' a c f S) (hB : cB A n S0 z0 l S1) (hF : FrT lxI lxJ [19, 20] [17, 18] S S1) (hnK : nK S S1) {lo : Nat} (hlo : a ≤ lo) : yB A n S0 z0 fb l a c f ab lo [] a c f sc.2.length sc.1.length (fb + sc.1.length - 1) S S1 := by
  have hC := yG_C hn h (Nat.le_refl _) (Nat.le_refl _) (Nat.le_refl _) rfl
  have hV := yG_V h
  refine ⟨hB, yC_S hC (fun i hi => hF.1 i ?_), yF_lx hF hnK, ⟨[], a, (hF.1 _ (by decide)).trans h.2.1.1, h.2.2.2.2.2.2.2.2.2.2.2.2.2.2.1, hF.1 _ (by decide), trivial, fun p hp => by cases hp⟩, hlo, yV_F hV hF (by decide) (by decide)⟩
  have : ∀ i, i ∈ [2307, 2308, 3214, 3211, 3213, 3212, 2309, 4305, 4308, 4311, 3106, 3108, 2310] → i ∉ lxI := by decide
  exact this i hi
/-- nothing yet -/
theorem yOK_nil {a c f k : Nat} {sc : SCs} {at' : List Nat} {S : cS} (h : yG A n S0 z0 fb a0 s ab k sc at' a c f S) : yOK A n S0 z0 fb a0 s ab S a c f (k, [], sc, at') S := by
  obtain ⟨z, z1, z2, z3, z4⟩ := cP_NT h.1
  exact ⟨h, ⟨z, c, z1, z2, h.2.1.2.1, h.2.2.2.2.2.2.2.2.2.2.2.2.2.1, trivial⟩, trivial, ⟨FrT.refl _ _ _ _ _, kQ_eq (fun _ _ => rfl) (fun _ _ => rfl), cP_nK h.1 rfl (fun _ _ => rfl)⟩, rfl, trivial⟩
/-- a good state, all but the lexer as it was -/
theorem yG_lx {a c f k k2 : Nat} {sc : SCs} {at' : List Nat} {S S1 : cS} (h : yG A n S0 z0 fb a0 s ab k sc at' a c f S) (hP : cP A n S0 z0 k2 S1) (hF : FrT lyI lxJ [19, 20] [17, 18] S S1) (hnK : nK S S1) : yG A n S0 z0 fb a0 s ab k2 sc at' a c f S1 := by
  obtain ⟨h1, h2, h3, h4, h5, h6, h7, h8, h9, h10, h11, h12, ⟨tr, lt, h13, h13b, h13c, h13d⟩, h14⟩ := h
  have a1 : ∀ x, x ∈ [27, 29, 30, 33, 34, 35, 36, 37, 38, 40] → x ∉ [19, 20] := by decide
  refine ⟨hP, ⟨(hF.1 _ (by decide)).trans h2.1, (hF.1 _ (by decide)).trans h2.2.1, (hF.1 _ (by decide)).trans h2.2.2.1, (hF.1 _ (by decide)).trans h2.2.2.2.1, h2.2.2.2.2⟩, (hF.1 _ (by decide)).trans h3, (hF.1 _ (by decide)).trans h4, (hF.1 _ (by decide)).trans h5, yS_S h6 hnK (fun x hx => hF.2.2.1 x (a1 x hx)), fun i i1 i2 => by rw [hF.2.2.1 28 (by decide)]; exact h7 i i1 i2, h8, h9, yAt_S h10 hnK (hF.1 _ (by decide)) (hF.2.2.1 45 (by decide)), (hF.1 _ (by decide)).trans h11, fun i hi => by rw [hF.2.2.1 41 (by decide)]; exact h12 i hi, ⟨tr, lt, (hF.1 _ (by decide)).trans h13, (hF.1 _ (by decide)).trans h13b, h13c, h13d⟩, h14⟩
theorem lxy {S S1 : cS} (h : FrT lxI lxJ [19, 20] [17, 18] S S1) : FrT lyI lxJ [19, 20] [17, 18] S S1 := h.mono (by decide) (fun _ h => h) (fun _ h => h) (fun _ h => h)
theorem yOK_lx {a c f k k2 : Nat} {os : List Op} {sc : SCs} {at' : List Nat} {S S1 : cS} (h : yOK A n S0 z0 fb a0 s ab B a c f (k, os, sc, at') S) (hP : cP A n S0 z0 k2 S1) (hF : FrT lyI lxJ [19, 20] [17, 18] S S1) (hnK : nK S S1) : yOK A n S0 z0 fb a0 s ab B a c f (k2, os, sc, at') S1 := by
  have h2 := yOK_nil (yG_lx h.1 hP hF hnK)
  have hG := yG_lx h.1 hP hF hnK
  obtain ⟨z, z1, z2, z3, z4⟩ := cP_NT hG.1
  have h3 : yOK A n S0 z0 fb a0 s ab S (a + wC os) (c + cnN os) (f + fxM os) (k2, [], sc, at') S1 := ⟨hG, ⟨z, _, z1, z2, hG.2.1.2.1, hG.2.2.2.2.2.2.2.2.2.2.2.2.2.1, trivial⟩, trivial, yF_ly hF hnK, hF.1 _ (by decide), trivial⟩
  have h4 := yOK_app h h3
  rw [List.append_nil] at h4
  exact h4
end
