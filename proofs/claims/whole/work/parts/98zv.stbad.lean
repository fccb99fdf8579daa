/-! THE CLASS'S RULES OF STATEMENTS: what holds behind a fault, what holds of a good state -/
def yI : List Nat := [3102, 3103, 3104, 3105, 3106, 3107, 3108, 3109, 3113, 1607, 2307, 2308, 2309, 3212, 3213, 3214, 4305, 4310, 4403, 4404]
def yA : List Nat := [19, 20, 24, 27, 28, 29, 30, 33, 34, 35, 36, 37, 38, 40, 41, 42, 45]
def yL : List Nat := [17, 18, 25, 26]
/-- a chain of jumps, each of which has the place of the one before as its operand: from y through ps to x -/
def chL (S : cS) (x : Int32) : List Nat → Int32 → Prop
  | [], y => y = x
  | p :: r, y => y = nI p ∧ chL S x r (sA S 24 (p + 1))
/-- places below hi, from lo on, four apart -/
def chD (lo : Nat) : Nat → List Nat → Prop
  | _, [] => True
  | hi, p :: r => p + 2 ≤ hi ∧ lo ≤ p ∧ 2 ≤ p ∧ chD lo (p - 2) r
theorem chL_S {S S1 : cS} {x : Int32} : ∀ (ps : List Nat) (y : Int32), (∀ p, p ∈ ps → sA S1 24 (p + 1) = sA S 24 (p + 1)) → chL S x ps y → chL S1 x ps y := by
  intro ps
  induction ps with
  | nil => intro y _ h; exact h
  | cons p r ih =>
    intro y h1 h
    refine ⟨h.1, ?_⟩
    rw [h1 p List.mem_cons_self]
    exact ih _ (fun q hq => h1 q (List.mem_cons_of_mem _ hq)) h.2
theorem chL_app {S : cS} {x w : Int32} : ∀ (ps qs : List Nat) (y : Int32), chL S w ps y → chL S x qs w → chL S x (ps ++ qs) y := by
  intro ps
  induction ps with
  | nil => intro qs y h g; rw [show y = w from h]; exact g
  | cons p r ih => intro qs y h g; exact ⟨h.1, ih qs _ h.2 g⟩
theorem chD_le {lo : Nat} : ∀ (ps : List Nat) (hi hi2 : Nat), hi ≤ hi2 → chD lo hi ps → chD lo hi2 ps := by
  intro ps
  cases ps with
  | nil => intro _ _ _ _; trivial
  | cons p r => intro hi hi2 h g; exact ⟨by have := g.1; omega, g.2⟩
theorem chD_lo {lo lo2 : Nat} (hl : lo2 ≤ lo) : ∀ (ps : List Nat) (hi : Nat), chD lo hi ps → chD lo2 hi ps := by
  intro ps
  induction ps with
  | nil => intro _ _; trivial
  | cons p r ih => intro hi g; exact ⟨g.1, by have := g.2.1; omega, g.2.2.1, ih _ g.2.2.2⟩
theorem chD_mem {lo : Nat} : ∀ (ps : List Nat) (hi : Nat), chD lo hi ps → ∀ p, p ∈ ps → lo ≤ p ∧ p + 2 ≤ hi := by
  intro ps
  induction ps with
  | nil => intro _ _ p hp; cases hp
  | cons q r ih =>
    intro hi g p hp
    rcases List.mem_cons.mp hp with rfl | hp
    · exact ⟨g.2.1, g.1⟩
    · have h1 := ih _ g.2.2.2 p hp
      have h2 := g.1
      omega
theorem chD_app {lo a : Nat} (hl : lo ≤ a + 2) : ∀ (ps qs : List Nat) (hi : Nat), chD (a + 2) hi ps → chD lo a qs → a ≤ hi → chD lo hi (ps ++ qs) := by
  intro ps
  induction ps with
  | nil => intro qs hi _ g h; exact chD_le qs _ _ h g
  | cons p r ih =>
    intro qs hi h g ha
    have h1 := h.2.1
    exact ⟨h.1, by omega, by omega, ih qs _ h.2.2.2 g (by omega)⟩
theorem chD_len {lo : Nat} : ∀ (ps : List Nat) (hi : Nat), chD lo hi ps → ps = [] ∨ 4 * ps.length + lo ≤ hi + 2 := by
  intro ps
  induction ps with
  | nil => intro _ _; exact Or.inl rfl
  | cons p r ih =>
    intro hi g
    right
    have h1 := g.1
    have h2 := g.2.1
    have h3 := g.2.2.1
    rcases ih _ g.2.2.2 with h | h
    · subst h; show 4 * 1 + lo ≤ _; omega
    · show 4 * (r.length + 1) + lo ≤ _; omega
/-- counters, all of them numbers: within their bounds -/
def yC (fb a c f ab qa qc qf qe qs qn : Nat) (S : cS) : Prop := ∃ a' c' f' s e sn fn av tv lv l, eS S a' c' f' s ∧ sI S 3213 = nI e ∧ sI S 3212 = nI sn ∧ sI S 2309 = nI fn ∧ sI S 4305 = nI av ∧ sI S 4308 = nI tv ∧ sI S 4311 = nI lv ∧ sI S 3106 = nI l ∧ (sI S 3108 = Int32.ofInt (-1) ∨ ∃ i, sI S 3108 = nI i ∧ i ≤ 3000) ∧ sI S 2310 = nI 0 ∧ (a ≤ a' ∧ c ≤ c' ∧ f ≤ f' ∧ fb ≤ fn ∧ ab ≤ av ∧ a' ≤ 40960 ∧ c' ≤ 5200 ∧ f' ≤ 1600 ∧ e ≤ 1600 ∧ sn ≤ 300 ∧ fn ≤ 900) ∧ a' ≤ qa ∧ c' ≤ qc ∧ f' ≤ qf ∧ e ≤ qe ∧ sn ≤ qs ∧ fn ≤ qn ∧ (av ≤ 440 ∧ av ≤ ab + 40) ∧ tv ≤ 100 ∧ lv ≤ 100 ∧ l ≤ 3001
theorem yC_le {fb a c f ab qa qc qf qe qs qn pa pc pf pe ps pn : Nat} {S : cS} (h : yC fb a c f ab qa qc qf qe qs qn S) (ha : qa ≤ pa) (hc : qc ≤ pc) (hf : qf ≤ pf) (he : qe ≤ pe) (hs : qs ≤ ps) (hn : qn ≤ pn) : yC fb a c f ab pa pc pf pe ps pn S := by
  obtain ⟨a', c', f', s, e, sn, fn, av, tv, lv, l, h1, h2, h3, h4, h5, h6, h7, h8, h9, hfl, hlo, g1, g2, g3, g4, g5, g6, g7, g8, g9, g10⟩ := h
  exact ⟨a', c', f', s, e, sn, fn, av, tv, lv, l, h1, h2, h3, h4, h5, h6, h7, h8, h9, hfl, hlo, by omega, by omega, by omega, by omega, by omega, by omega, g7, g8, g9, g10⟩
theorem yC_S {fb a c f ab qa qc qf qe qs qn : Nat} {S S1 : cS} (h : yC fb a c f ab qa qc qf qe qs qn S) (hI : ∀ i, i ∈ [2307, 2308, 3214, 3211, 3213, 3212, 2309, 4305, 4308, 4311, 3106, 3108, 2310] → sI S1 i = sI S i) : yC fb a c f ab qa qc qf qe qs qn S1 := by
  obtain ⟨a', c', f', s, e, sn, fn, av, tv, lv, l, h1, h2, h3, h4, h5, h6, h7, h8, h9, hfl, g⟩ := h
  refine ⟨a', c', f', s, e, sn, fn, av, tv, lv, l, ⟨(hI _ (by decide)).trans h1.1, (hI _ (by decide)).trans h1.2.1, (hI _ (by decide)).trans h1.2.2.1, (hI _ (by decide)).trans h1.2.2.2.1, h1.2.2.2.2⟩, (hI _ (by decide)).trans h2, (hI _ (by decide)).trans h3, (hI _ (by decide)).trans h4, (hI _ (by decide)).trans h5, (hI _ (by decide)).trans h6, (hI _ (by decide)).trans h7, (hI _ (by decide)).trans h8, ?_, (hI _ (by decide)).trans hfl, g⟩
  rw [hI _ (by decide)]
  exact h9
/-- what stands below a rule's own part stays -/
def kQ (fb a c f ab : Nat) (B S : cS) : Prop := kP a c f B S ∧ (∀ i, i < ab → sA S 45 i = sA B 45 i) ∧ ∀ i, i < fb → sA S 27 i = sA B 27 i ∧ sA S 28 i = sA B 28 i ∧ sA S 29 i = sA B 29 i ∧ sA S 30 i = sA B 30 i
theorem kQ_trans {fb a c f ab a1 c1 f1 ab1 : Nat} {S S1 S2 : cS} (h : kQ fb a c f ab S S1) (g : kQ fb a1 c1 f1 ab1 S1 S2) (ha : a ≤ a1) (hc : c ≤ c1) (hf : f ≤ f1) (hb : ab ≤ ab1) : kQ fb a c f ab S S2 :=
  ⟨⟨fun i hi => (g.1.1 i (by omega)).trans (h.1.1 i hi), fun i hi => ⟨(g.1.2.1 i (by omega)).1.trans (h.1.2.1 i hi).1, (g.1.2.1 i (by omega)).2.trans (h.1.2.1 i hi).2⟩, fun i hi => ⟨(g.1.2.2 i (by omega)).1.trans (h.1.2.2 i hi).1, (g.1.2.2 i (by omega)).2.trans (h.1.2.2 i hi).2⟩⟩, fun i hi => (g.2.1 i (by omega)).trans (h.2.1 i hi), fun i hi => ⟨(g.2.2 i hi).1.trans (h.2.2 i hi).1, (g.2.2 i hi).2.1.trans (h.2.2 i hi).2.1, (g.2.2 i hi).2.2.1.trans (h.2.2 i hi).2.2.1, (g.2.2 i hi).2.2.2.trans (h.2.2 i hi).2.2.2⟩⟩
theorem kQ_A {fb a c f ab : Nat} {S S1 : cS} (h24 : ∀ i, i < a → sA S1 24 i = sA S 24 i) (h25 : ∀ i, i < c → sL S1 25 i = sL S 25 i ∧ sL S1 26 i = sL S 26 i) (h41 : ∀ i, i < f → sA S1 41 i = sA S 41 i ∧ sA S1 42 i = sA S 42 i) (h45 : ∀ i, i < ab → sA S1 45 i = sA S 45 i) (hA : ∀ a, a ∈ [27, 28, 29, 30] → ∀ i, i < fb → sA S1 a i = sA S a i) : kQ fb a c f ab S S1 :=
  ⟨⟨h24, h25, h41⟩, h45, fun i hi => ⟨hA _ (by decide) i hi, hA _ (by decide) i hi, hA _ (by decide) i hi, hA _ (by decide) i hi⟩⟩
theorem kQ_eq {fb a c f ab : Nat} {S S1 : cS} (h1 : ∀ a, a ∈ [24, 41, 42, 45, 27, 28, 29, 30] → sA S1 a = sA S a) (h2 : ∀ a, a ∈ [25, 26] → sL S1 a = sL S a) : kQ fb a c f ab S S1 :=
  kQ_A (fun i _ => by rw [h1 24 (by decide)]) (fun i _ => ⟨by rw [h2 25 (by decide)], by rw [h2 26 (by decide)]⟩) (fun i _ => ⟨by rw [h1 41 (by decide)], by rw [h1 42 (by decide)]⟩) (fun i _ => by rw [h1 45 (by decide)]) (fun a ha i _ => by
    have : ∀ a, a ∈ [27, 28, 29, 30] → a ∈ [24, 41, 42, 45, 27, 28, 29, 30] := by decide
    rw [h1 a (this a ha)])
/-- frames of a rule of statements -/
def yF (fb a c f ab : Nat) (B S : cS) : Prop := FrT yI lxJ yA yL B S ∧ kQ fb a c f ab B S ∧ nK B S
theorem yF_trans {fb a c f ab a1 c1 f1 ab1 : Nat} {S S1 S2 : cS} (h : yF fb a c f ab S S1) (g : yF fb a1 c1 f1 ab1 S1 S2) (ha : a ≤ a1) (hc : c ≤ c1) (hf : f ≤ f1) (hb : ab ≤ ab1) : yF fb a c f ab S S2 := ⟨h.1.trans g.1, kQ_trans h.2.1 g.2.1 ha hc hf hb, nK_trans h.2.2 g.2.2⟩
theorem yF_lx {fb a c f ab : Nat} {S S1 : cS} (h : FrT lxI lxJ [19, 20] [17, 18] S S1) (hn : nK S S1) : yF fb a c f ab S S1 :=
  ⟨h.mono (by decide) (fun _ h => h) (by decide) (by decide), kQ_eq (fun a ha => h.2.2.1 a (by
    have : ∀ a, a ∈ [24, 41, 42, 45, 27, 28, 29, 30] → a ∉ [19, 20] := by decide
    exact this a ha)) (fun a ha => h.2.2.2.1 a (by
    have : ∀ a, a ∈ [25, 26] → a ∉ [17, 18] := by decide
    exact this a ha)), hn⟩
theorem yF_ly {fb a c f ab : Nat} {S S1 : cS} (h : FrT lyI lxJ [19, 20] [17, 18] S S1) (hn : nK S S1) : yF fb a c f ab S S1 :=
  ⟨h.mono (by decide) (fun _ h => h) (by decide) (by decide), kQ_eq (fun a ha => h.2.2.1 a (by
    have : ∀ a, a ∈ [24, 41, 42, 45, 27, 28, 29, 30] → a ∉ [19, 20] := by decide
    exact this a ha)) (fun a ha => h.2.2.2.1 a (by
    have : ∀ a, a ∈ [25, 26] → a ∉ [17, 18] := by decide
    exact this a ha)), hn⟩
theorem yF_x {fb a c f ab : Nat} {S S1 : cS} (h : xF a c f S S1) : yF fb a c f ab S S1 :=
  ⟨h.1.mono (by decide) (fun _ h => h) (by decide) (by decide), ⟨h.2.1, fun i _ => by rw [h.1.2.2.1 45 (by decide)], fun i _ => ⟨by rw [h.1.2.2.1 27 (by decide)], by rw [h.1.2.2.1 28 (by decide)], by rw [h.1.2.2.1 29 (by decide)], by rw [h.1.2.2.1 30 (by decide)]⟩⟩, h.2.2⟩
/-- the jumps out of the loop: from the latest down to what was the latest; H are places that are none -/
def yK (a : Nat) (H : List Nat) (B S : cS) : Prop := ∃ ps t, sI S 2307 = nI t ∧ t ≤ 40960 ∧ chL S (sI B 4310) ps (sI S 4310) ∧ chD a t ps ∧ ∀ h, h ∈ H → h + 2 ≤ t ∧ h ∉ ps
/-- the scopes' chains lead to entries ahead -/
def yW (S : cS) (sn en : Nat) : Prop := (∀ i, 1 ≤ i → i < sn → sA S 35 i = Int32.ofInt (-1) ∨ ∃ e, e < en ∧ sA S 35 i = nI e) ∧ ∀ e, e < en → sA S 40 e = Int32.ofInt (-1) ∨ ∃ e', e' < e ∧ sA S 40 e = nI e'
def yV (S : cS) : Prop := ∃ sn en cur, sI S 3212 = nI sn ∧ sI S 3213 = nI en ∧ sI S 3211 = nI cur ∧ cur < sn ∧ sn ≤ 300 ∧ en ≤ 1600 ∧ yW S sn en
theorem yV_S {S S1 : cS} (h : yV S) (hI : ∀ i, i ∈ [3211, 3212, 3213] → sI S1 i = sI S i) (hA : ∀ a, a ∈ [35, 36, 40] → sA S1 a = sA S a) : yV S1 := by
  obtain ⟨sn, en, cur, h1, h2, h3, h4, h5, h6, h7, h8⟩ := h
  refine ⟨sn, en, cur, (hI _ (by decide)).trans h1, (hI _ (by decide)).trans h2, (hI _ (by decide)).trans h3, h4, h5, h6, ?_, ?_⟩
  · rw [hA 35 (by decide)]; exact h7
  · rw [hA 40 (by decide)]; exact h8
/-- behind a fault on line l -/
def yB (A : Nat → Int32) (n : Nat) (S0 : cS) (z0 fb l a c f ab lo : Nat) (H : List Nat) (qa qc qf qe qs qn : Nat) (B S : cS) : Prop := cB A n S0 z0 l S ∧ yC fb a c f ab qa qc qf qe qs qn S ∧ yF fb a c f ab B S ∧ yK lo H B S ∧ a ≤ lo ∧ yV S
section
variable {A : Nat → Int32} {n z0 fb l a c f ab lo : Nat} {S0 B : cS} {H : List Nat} {qa qc qf qe qs qn : Nat}
/-- a step behind a fault: all but the lexer, targets stays -/
theorem yK_S {S S1 : cS} (h : yK lo H B S) (h7 : sI S1 2307 = sI S 2307) (h0 : sI S1 4310 = sI S 4310) (h24 : ∀ i, lo ≤ i → sA S1 24 (i + 1) = sA S 24 (i + 1)) : yK lo H B S1 := by
  obtain ⟨ps, t, k1, k2, k3, k4, k5⟩ := h
  refine ⟨ps, t, h7.trans k1, k2, ?_, k4, k5⟩
  rw [h0]
  exact chL_S ps _ (fun p hp => h24 p (chD_mem ps t k4 p hp).1) k3
theorem yB_lx {S S1 : cS} (h : yB A n S0 z0 fb l a c f ab lo H qa qc qf qe qs qn B S) (g : cB A n S0 z0 l S1) (hF : FrT lxI lxJ [19, 20] [17, 18] S S1) (hn : nK S S1) : yB A n S0 z0 fb l a c f ab lo H qa qc qf qe qs qn B S1 := by
  obtain ⟨h1, h2, h3, h4, h5, h6⟩ := h
  refine ⟨g, yC_S h2 (fun i hi => hF.1 i ?_), yF_trans h3 (yF_lx hF hn) (Nat.le_refl _) (Nat.le_refl _) (Nat.le_refl _) (Nat.le_refl _), yK_S h4 (hF.1 _ (by decide)) (hF.1 _ (by decide)) (fun i _ => by rw [hF.2.2.1 24 (by decide)]), h5, yV_S h6 (fun i hi => hF.1 i (by
    have : ∀ i, i ∈ [3211, 3212, 3213] → i ∉ lxI := by decide
    exact this i hi)) (fun x hx => hF.2.2.1 x (by
    have : ∀ x, x ∈ [35, 36, 40] → x ∉ [19, 20] := by decide
    exact this x hx))⟩
  have : ∀ i, i ∈ [2307, 2308, 3214, 3211, 3213, 3212, 2309, 4305, 4308, 4311, 3106, 3108, 2310] → i ∉ lxI := by decide
  exact this i hi
theorem yB_le {pa pc pf pe ps pn : Nat} {S : cS} (h : yB A n S0 z0 fb l a c f ab lo H qa qc qf qe qs qn B S) (ha : qa ≤ pa) (hc : qc ≤ pc) (hf : qf ≤ pf) (he : qe ≤ pe) (hs : qs ≤ ps) (hn : qn ≤ pn) : yB A n S0 z0 fb l a c f ab lo H pa pc pf pe ps pn B S := ⟨h.1, yC_le h.2.1 ha hc hf he hs hn, h.2.2⟩
theorem yB_5 {S : cS} (h : yB A n S0 z0 fb l a c f ab lo H qa qc qf qe qs qn B S) : sI S 3105 = nI 0 := h.1.1
theorem yB_pass {d t : Nat} {S : cS} (h : yB A n S0 z0 fb l a c f ab lo H qa qc qf qe qs qn B S) (ht : 1 ≤ t) (ht2 : t < 2 ^ 20) : ∃ S1, Ans (d + 2) 75 [.ref 31, .int (nI t)] S none S1 ∧ yB A n S0 z0 fb l a c f ab lo H qa qc qf qe qs qn B S1 := by
  obtain ⟨S1, h1, h2, h3, h4⟩ := pass_B (d := d) h.1 ht (by omega)
  exact ⟨S1, h1, yB_lx h h2 h3 h4⟩
theorem yB_nl {d : Nat} {S : cS} (h : yB A n S0 z0 fb l a c f ab lo H qa qc qf qe qs qn B S) : ∃ S1, Ans (d + 2) 86 [.ref 31] S none S1 ∧ yB A n S0 z0 fb l a c f ab lo H qa qc qf qe qs qn B S1 := by
  obtain ⟨S1, h1, h2, h3, h4⟩ := nextLine_B (d := d) h.1
  exact ⟨S1, h1, yB_lx h h2 h3 h4⟩
theorem yB_fail {d : Nat} {S : cS} (h : yB A n S0 z0 fb l a c f ab lo H qa qc qf qe qs qn B S) : ∃ S1, Ans (d + 1) 44 [.ref 31] S none S1 ∧ yB A n S0 z0 fb l a c f ab lo H qa qc qf qe qs qn B S1 := by
  obtain ⟨S1, h1, h2, h3, h4⟩ := fail_B (d := d) h.1
  exact ⟨S1, h1, yB_lx h h2 h3 h4⟩
theorem yB_read {d : Nat} {S : cS} (h : yB A n S0 z0 fb l a c f ab lo H qa qc qf qe qs qn B S) : Ans (d + 1) 40 [.ref 31] S none S := read_B h.1
/-- a change of ints and arrays that are not the lexer's, behind a fault: tops grow, what is below stays -/
theorem yB_w {pa pc pf pe ps pn : Nat} {S S1 : cS} {H1 : List Nat} (h : yB A n S0 z0 fb l a c f ab lo H qa qc qf qe qs qn B S) (hFr : FrT [2307, 2308, 2309, 3212, 3213, 3214, 4305, 4310, 4403, 4404] [] [24, 27, 28, 29, 30, 33, 34, 35, 36, 37, 38, 40, 41, 42, 45] [25, 26] S S1) (hC : yC fb a c f ab pa pc pf pe ps pn S1) (hQ : kQ fb a c f ab S S1) (hK : yK lo H1 B S1) (hV : yV S1) : yB A n S0 z0 fb l a c f ab lo H1 pa pc pf pe ps pn B S1 := by
  obtain ⟨h1, h2, h3, h4, h5, h6⟩ := h
  have i0 : ∀ i, i ∈ [3105, 3113, 1607] → i ∉ [2307, 2308, 2309, 3212, 3213, 3214, 4305, 4310, 4403, 4404] := by decide
  have a0 : ∀ x, x ∈ [1, 19, 20] → x ∉ [24, 27, 28, 29, 30, 33, 34, 35, 36, 37, 38, 40, 41, 42, 45] := by decide
  have l0 : ∀ x, x ∈ [17, 18] → x ∉ [25, 26] := by decide
  exact ⟨cB_S h1 (hFr.1 _ (by decide)) (hFr.1 _ (by decide)) (hFr.1 _ (by decide)) (fun x hx => hFr.2.2.1 x (a0 x hx)) (fun x hx => hFr.2.2.2.1 x (l0 x hx)), hC, yF_trans h3 ⟨hFr.mono (by decide) (fun _ h => by cases h) (by decide) (by decide), hQ, cB_nK h1 (hFr.1 _ (by decide)) (fun x hx => hFr.2.2.2.1 x (l0 x hx))⟩ (Nat.le_refl _) (Nat.le_refl _) (Nat.le_refl _) (Nat.le_refl _), hK, h5, hV⟩
/-- the counters behind a fault -/
theorem yB_top {S : cS} (h : yB A n S0 z0 fb l a c f ab lo H qa qc qf qe qs qn B S) : ∃ t c' f' s e sn fn av tv lv l', eS S t c' f' s ∧ sI S 3213 = nI e ∧ sI S 3212 = nI sn ∧ sI S 2309 = nI fn ∧ sI S 4305 = nI av ∧ sI S 4308 = nI tv ∧ sI S 4311 = nI lv ∧ sI S 3106 = nI l' ∧ (sI S 3108 = Int32.ofInt (-1) ∨ ∃ i, sI S 3108 = nI i ∧ i ≤ 3000) ∧ sI S 2310 = nI 0 ∧ (a ≤ t ∧ c ≤ c' ∧ f ≤ f' ∧ fb ≤ fn ∧ ab ≤ av ∧ t ≤ 40960 ∧ c' ≤ 5200 ∧ f' ≤ 1600 ∧ e ≤ 1600 ∧ sn ≤ 300 ∧ fn ≤ 900) ∧ t ≤ qa ∧ c' ≤ qc ∧ f' ≤ qf ∧ e ≤ qe ∧ sn ≤ qs ∧ fn ≤ qn ∧ (av ≤ 440 ∧ av ≤ ab + 40) ∧ tv ≤ 100 ∧ lv ≤ 100 ∧ l' ≤ 3001 := h.2.1
/-- the chain with a top that is known -/
theorem yK_t {S : cS} {t : Nat} (h : yK lo H B S) (ht : sI S 2307 = nI t) (htM : t < 2 ^ 30) : t ≤ 40960 ∧ ∃ ps, chL S (sI B 4310) ps (sI S 4310) ∧ chD lo t ps ∧ ∀ h, h ∈ H → h + 2 ≤ t ∧ h ∉ ps := by
  obtain ⟨ps, t', k1, k2, k3, k4, k5⟩ := h
  obtain rfl : t' = t := nI_inj (by omega) (by omega) (k1.symm.trans ht)
  exact ⟨k2, ps, k3, k4, k5⟩
end
