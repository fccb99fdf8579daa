/-! BOTH MACHINES: what names, stacks and frames hold is alike -/
section
variable {P : Nat → Prop} {T : cS} {gT : Nat} {Q : Nat → Prop} {β : Nat → Nat} {F : Nat → Nat → Nat → Prop} {loc par : Nat → Nat → Nat} {ty : Nat → Nat × Nat} {G : Nat → Nat → Nat → Nat × Nat × LL → Prop} {D K : List Nat} {z nn g0 g1 g3 g4 g5 gn d v o i : Nat} {tq : Nat → Nat × Nat} {C r : List Lv} {x : Lv} {S Sr : cS}
/-- every place of the reference's stack is a value of the class's, or what a call makes; and the other way round -/
theorem stkR_all (hc : cCal S C) (hs : stkR β S Sr C) : (∀ p, p < topC C + offC C → (∃ i, i < topC C ∧ vrel β (sL S 47 i) (sL S 48 i) (sA Sr 91 p) (sL Sr 92 p) (sL Sr 93 p)) ∨ ∃ y, y ∈ C ∧ vD y ≠ 0 ∧ sA Sr 91 p = nI 3 ∧ sL Sr 92 p = lN (β (vD y))) ∧ (∀ i, i < topC C → ∃ p, p < topC C + offC C ∧ vrel β (sL S 47 i) (sL S 48 i) (sA Sr 91 p) (sL Sr 92 p) (sL Sr 93 p)) ∧ ∀ y, y ∈ C → vD y ≠ 0 → ∃ p, p < topC C + offC C ∧ sA Sr 91 p = nI 3 ∧ sL Sr 92 p = lN (β (vD y)) := by
  induction C with
  | nil => exact hc.elim
  | cons x r ih =>
    obtain ⟨h1, h2, h3⟩ := hs
    have et : topC (x :: r) = vB x + vH x := rfl
    have eo : offC (x :: r) = mkb x + offC r := rfl
    have hm : mkb x = if vD x = 0 then 0 else 1 := rfl
    cases r with
    | nil =>
      obtain ⟨q1, q2, q3, q4⟩ := hc
      have e0 : offC ([] : List Lv) = 0 := rfl
      rw [if_pos q3] at hm
      refine ⟨fun p hp => Or.inl ⟨p, by omega, ?_⟩, fun i hi => ⟨i, by omega, ?_⟩, fun y hy hd => ?_⟩
      · have := h1 p (by omega)
        rw [q1, Nat.zero_add, show p + offC [x] = p by omega] at this
        exact this
      · have := h1 i (by omega)
        rw [q1, Nat.zero_add, show i + offC [x] = i by omega] at this
        exact this
      · rcases List.mem_cons.mp hy with e | e
        · subst e; exact absurd q3 hd
        · cases e
    | cons y r =>
      obtain ⟨⟨_, _, _, _, _, q6, _, _, _⟩, q2⟩ := hc
      obtain ⟨i1, i2, i3⟩ := ih q2 h3
      have et2 : topC (y :: r) = vB y + vH y := rfl
      refine ⟨fun p hp => ?_, fun i hi => ?_, fun w hw hd => ?_⟩
      · by_cases c : p < topC (y :: r) + offC (y :: r)
        · rcases i1 p c with ⟨i, hi, h⟩ | ⟨w, hw, h⟩
          · exact Or.inl ⟨i, by omega, h⟩
          · exact Or.inr ⟨w, List.mem_cons_of_mem _ hw, h⟩
        · by_cases c0 : vD x = 0
          · rw [if_pos c0] at hm
            refine Or.inl ⟨p - offC (x :: y :: r), by omega, ?_⟩
            have := h1 (p - offC (x :: y :: r) - vB x) (by omega)
            rw [show vB x + (p - offC (x :: y :: r) - vB x) = p - offC (x :: y :: r) by omega, show p - offC (x :: y :: r) + offC (x :: y :: r) = p by omega] at this
            exact this
          · rw [if_neg c0] at hm
            by_cases c1 : p = vB x + offC (y :: r)
            · subst c1
              exact Or.inr ⟨x, List.mem_cons_self, c0, h2 c0⟩
            · refine Or.inl ⟨p - offC (x :: y :: r), by omega, ?_⟩
              have := h1 (p - offC (x :: y :: r) - vB x) (by omega)
              rw [show vB x + (p - offC (x :: y :: r) - vB x) = p - offC (x :: y :: r) by omega, show p - offC (x :: y :: r) + offC (x :: y :: r) = p by omega] at this
              exact this
      · by_cases c : i < topC (y :: r)
        · obtain ⟨p, hp, h⟩ := i2 i c
          exact ⟨p, by omega, h⟩
        · refine ⟨i + offC (x :: y :: r), by omega, ?_⟩
          have := h1 (i - vB x) (by omega)
          rw [show vB x + (i - vB x) = i by omega] at this
          exact this
      · rcases List.mem_cons.mp hw with e | e
        · subst e
          rw [if_neg hd] at hm
          exact ⟨vB w + offC (y :: r), by omega, h2 hd⟩
        · obtain ⟨p, hp, h⟩ := i3 w e hd
          exact ⟨p, by omega, h⟩
theorem rCal_all (h : rCal β Sr C) : (∀ i, i < C.length → ∃ y, y ∈ C ∧ sA Sr 96 i = if vF y = 0 then Int32.ofInt (-1) else nI (β (vF y))) ∧ ∀ y, y ∈ C → ∃ i, i < C.length ∧ sA Sr 96 i = if vF y = 0 then Int32.ofInt (-1) else nI (β (vF y)) := by
  induction C with
  | nil => exact ⟨fun i hi => absurd hi (Nat.not_lt_zero _), fun y hy => by cases hy⟩
  | cons x r ih =>
    obtain ⟨h1, h2⟩ := h
    obtain ⟨i1, i2⟩ := ih h2
    refine ⟨fun i hi => ?_, fun y hy => ?_⟩
    · rw [List.length_cons] at hi
      by_cases c : i < r.length
      · obtain ⟨y, hy, e⟩ := i1 i c
        exact ⟨y, List.mem_cons_of_mem _ hy, e⟩
      · have : i = r.length := by omega
        subst this
        exact ⟨x, List.mem_cons_self, h1.2.2.1⟩
    · rw [List.length_cons]
      rcases List.mem_cons.mp hy with e | e
      · subst e
        exact ⟨r.length, by omega, h1.2.2.1⟩
      · obtain ⟨i, hi, e⟩ := i2 y e
        exact ⟨i, by omega, e⟩
theorem gC_mem {k : Nat} (h : 0 < gC C k) : k ≠ 0 ∧ ∃ y, y ∈ C ∧ (vF y = k ∨ vD y = k) := by
  induction C with
  | nil => exact absurd h (Nat.lt_irrefl 0)
  | cons x r ih =>
    have e : gC (x :: r) k = dl (vF x) k + dl (vD x) k + gC r k := rfl
    by_cases c1 : vF x ≠ 0 ∧ k = vF x
    · exact ⟨c1.2 ▸ c1.1, x, List.mem_cons_self, Or.inl c1.2.symm⟩
    · by_cases c2 : vD x ≠ 0 ∧ k = vD x
      · exact ⟨c2.2 ▸ c2.1, x, List.mem_cons_self, Or.inr c2.2.symm⟩
      · have d1 : dl (vF x) k = 0 := if_neg c1
        have d2 : dl (vD x) k = 0 := if_neg c2
        obtain ⟨h0, y, hy, hk⟩ := ih (by omega)
        exact ⟨h0, y, List.mem_cons_of_mem _ hy, hk⟩
theorem lvOk_mem (h : lvOk G ty S C) : ∀ y, y ∈ C → (vF y ≠ 0 → lv S (vF y)) ∧ (vD y ≠ 0 → lv S (vD y)) := by
  induction C with
  | nil => intro y hy; cases hy
  | cons x r ih =>
    obtain ⟨_, h2, h3, _, h5⟩ := h
    intro y hy
    rcases List.mem_cons.mp hy with e | e
    · subst e
      exact ⟨fun c => (h2 c).1, fun c => (h3 c).1⟩
    · exact ih h5 y e
theorem ob_k0 {hi lo : Int64} (h : c_kd hi ≠ 4) : ob hi lo = 0 := by
  unfold ob c_obj
  rw [if_neg h]
  rfl
/-- a value of both: the object that it is -/
theorem vr_roo {hi lo a b : Int64} {kd : Int32} (h : vrel β hi lo kd a b) (hb : ∀ k, ob hi lo = k → k ≠ 0 → β k < 1500) : (ob hi lo = 0 → r_o kd a = 0) ∧ (ob hi lo ≠ 0 → r_o kd a = β (ob hi lo) + 1) ∧ r_obj kd a := by
  rcases h with ⟨h1, h2, h3⟩ | ⟨h1, h2, h3⟩ | ⟨h1, h2, h3⟩ | ⟨h1, h2⟩ | ⟨k, k1, k2, h1, h2, h3, h4⟩ | ⟨q, q1, h1, h2, h3, h4⟩
  · have e : ob hi lo = 0 := by rw [h1]; exact ob_k0 (by decide)
    exact ⟨fun _ => by rw [h3]; rfl, fun c => absurd e c, fun c => by rw [h3] at c; exact absurd c (by decide)⟩
  · have e : ob hi lo = 0 := by rw [h1]; exact ob_k0 (by decide)
    exact ⟨fun _ => by rw [h3]; rfl, fun c => absurd e c, fun c => by rw [h3] at c; exact absurd c (by decide)⟩
  · have e : ob hi lo = 0 := by rw [h1]; exact ob_k0 (by decide)
    exact ⟨fun _ => by rw [h2]; rfl, fun c => absurd e c, fun c => by rw [h2] at c; exact absurd c (by decide)⟩
  · have e : ob hi lo = 0 := ob_k0 (by rw [srel_kd h2]; decide)
    exact ⟨fun _ => by rw [h1]; rfl, fun c => absurd e c, fun c => by rw [h1] at c; exact absurd c (by decide)⟩
  · have e : ob hi lo = k := by rw [h1, h2]; exact (ob_obj k2).2
    have hlt := hb k e (by omega)
    have e2 : r_o kd a = β k + 1 := by
      unfold r_o
      rw [if_pos h3, h4, lN_i, gN_nI (by omega)]
    exact ⟨fun c => by omega, fun _ => by rw [e, e2], fun _ => ⟨β k, hlt, by rw [h4, lN_i]⟩⟩
  · have e : ob hi lo = 0 := by rw [h1]; exact ob_k0 (by decide)
    exact ⟨fun _ => by rw [h3]; rfl, fun c => absurd e c, fun c => by rw [h3] at c; exact absurd c (by decide)⟩
theorem r_opt_nn {k : Nat} (hk : k < 2 ^ 20) : r_opt (nI k) = k + 1 := by
  unfold r_opt
  rw [if_neg (nI_nm1 (by omega)), gN_nI (by omega)]
/-- what both machines hold by names, stacks and frames is alike -/
theorem XR_root (h : CI F loc par ty G tq (x :: r) S) (hX : XR P T gT Q β F D z nn g0 g1 g3 g4 g5 gn tq (x :: r) S Sr) : RtQ β (nmE S) (fun k => stE (topC (x :: r)) S k + gC (x :: r) k) S Sr ∧ r_nm Sr ∧ r_wk Sr ∧ (∀ g, sV Sr 6103 = .ref g → g ∉ [87, 89, 90]) ∧ ∀ k, k < 1500 → rRoot Sr k ≤ 1000000 := by
  obtain ⟨⟨b1, _⟩, a2, a3, a4, a5, a6, _⟩ := hX
  obtain ⟨⟨c1, c2, c3, c4, c5, c6⟩, cz, _⟩ := a2
  obtain ⟨r1, ⟨_, _, r3, r4, _⟩, ⟨_, _, k3, k4, _⟩, n1, n2, n3, _, ⟨_, _, q3, _⟩, _⟩ := a3
  obtain ⟨w1, w2, _⟩ := a6
  obtain ⟨l1, l2, l3, l4, l5⟩ := CI_len h
  have ho := offC_le (C := x :: r)
  rw [List.length_cons] at ho
  obtain ⟨s1, s2, s3⟩ := stkR_all h.2.2.2.2.1 a4
  obtain ⟨f1, f2⟩ := rCal_all a5
  have hlv := lvOk_mem h.2.2.2.2.2.1
  have hst := h.1.2.2.2.2.1
  have hnm := h.1.2.2.2.2.2.1
  have hob : ∀ i, i < topC (x :: r) → ob (sL S 47 i) (sL S 48 i) = 0 ∨ lv S (ob (sL S 47 i) (sL S 48 i)) := fun i hi => by
    obtain ⟨o, o1, o2, o3⟩ := hst i hi
    rw [ob_n o2 o1]; exact o3
  have hon : ∀ q, q < 4096 → ob (sL S 21 q) (sL S 22 q) = 0 ∨ lv S (ob (sL S 21 q) (sL S 22 q)) := fun q hq => by
    obtain ⟨o, o1, o2, o3⟩ := hnm q hq
    rw [ob_n o2 o1]; exact o3
  have hb : ∀ {w : Nat}, w = 0 ∨ lv S w → ∀ k, w = k → k ≠ 0 → β k < 1500 := fun hw k hk h0 => by
    subst hk
    exact (b1 _ (hw.resolve_left h0)).1
  have eg3 : r_ref Sr 6103 = g3 := by unfold r_ref; rw [r3]
  have eg4 : r_ref Sr 6104 = g4 := by unfold r_ref; rw [r4]
  have en : gN (sI Sr 6102) = nn := by rw [r1, gN_nI (by omega)]
  have e51 : gN (sI Sr 6151) = topC (x :: r) + offC (x :: r) := by rw [w1, gN_nI (by omega)]
  have e59 : gN (sI Sr 6159) = (x :: r).length := by rw [w2, gN_nI (by omega), List.length_cons]
  have hgl : ∀ i, i < nn → sA Sr g3 i = Int32.ofInt (-1) ∨ ∃ q, q < z ∧ nrel Sr g0 g1 q i ∧ vrel β (sL S 21 q) (sL S 22 q) (sA Sr g3 i) (sL Sr g4 i) (sL Sr g5 i) := fun i hi => by
    by_cases c : ∃ q, q < z ∧ nrel Sr g0 g1 q i
    · obtain ⟨q, q1, q2⟩ := c
      exact Or.inr ⟨q, q1, q2, c3 i q hi q1 q2⟩
    · exact Or.inl (c4 i hi (fun q hq hn => c ⟨q, hq, hn⟩))
  refine ⟨⟨fun o hm => ?_, fun k hk hp => ?_⟩, ?_, ?_, fun g hg => ?_, fun k hk => ?_⟩
  · rcases hm with hm | hm
    · unfold nmL at hm
      rw [eg3, eg4, en] at hm
      obtain ⟨j, _, j2, j3⟩ := seqN_mem hm
      rcases hgl j (by omega) with e | ⟨q, q1, _, q3⟩
      · left; rw [j3, e]; rfl
      · have hq := hon q (by omega)
        obtain ⟨v1, v2, _⟩ := vr_roo q3 (hb hq)
        rcases Nat.eq_zero_or_pos (ob (sL S 21 q) (sL S 22 q)) with e | e
        · left; rw [j3]; exact v1 e
        · right; exact ⟨_, hq.resolve_left (by omega), by rw [j3]; exact v2 (by omega)⟩
    · unfold wkL at hm
      rw [e51, e59] at hm
      rcases List.mem_append.mp hm with hm | hm
      · obtain ⟨j, _, j2, j3⟩ := seqN_mem hm
        rcases s1 j (by omega) with ⟨i, i1, i2⟩ | ⟨y, y1, y2, y3, y4⟩
        · have hq := hob i i1
          obtain ⟨v1, v2, _⟩ := vr_roo i2 (hb hq)
          rcases Nat.eq_zero_or_pos (ob (sL S 47 i) (sL S 48 i)) with e | e
          · left; rw [j3]; exact v1 e
          · right; exact ⟨_, hq.resolve_left (by omega), by rw [j3]; exact v2 (by omega)⟩
        · right
          have hl := (hlv y y1).2 y2
          exact ⟨vD y, hl, by rw [j3]; exact r_o_n y3 y4 (b1 _ hl).1⟩
      · obtain ⟨j, _, j2, j3⟩ := seqN_mem hm
        obtain ⟨y, y1, y2⟩ := f1 j (by omega)
        by_cases c : vF y = 0
        · left; rw [j3, y2, if_pos c]; rfl
        · right
          have hl := (hlv y y1).1 c
          refine ⟨vF y, hl, ?_⟩
          have := (b1 _ hl).1
          rw [j3, y2, if_neg c]
          exact r_opt_nn (by omega)
  · have k0 : k ≠ 0 := by have := hk.1; omega
    rcases Nat.eq_zero_or_pos (nmE S k) with e5 | e5
    · right
      unfold wkL
      rw [e51, e59]
      rcases Nat.eq_zero_or_pos (stE (topC (x :: r)) S k) with e6 | e6
      · obtain ⟨_, y, y1, y2⟩ := gC_mem (C := x :: r) (k := k) (by have := hp; simp only [e5, e6] at this; omega)
        by_cases c : vF y = k
        · obtain ⟨i, i1, i2⟩ := f2 y y1
          rw [if_neg (by omega)] at i2
          refine List.mem_append_right _ ?_
          have hm := seqN_in (f := fun i => r_opt (sA Sr 96 i)) (Nat.zero_le i) (show i < 0 + (x :: r).length by omega)
          rw [show r_opt (sA Sr 96 i) = β k + 1 by rw [i2, c]; exact r_opt_nn (by have := (b1 _ hk).1; omega)] at hm
          exact hm
        · have c2 : vD y = k := y2.resolve_left c
          obtain ⟨p, p1, p2, p3⟩ := s3 y y1 (by omega)
          refine List.mem_append_left _ ?_
          have hm := seqN_in (f := fun i => r_o (sA Sr 91 i) (sL Sr 92 i)) (Nat.zero_le p) (show p < 0 + (topC (x :: r) + offC (x :: r)) by omega)
          rw [show r_o (sA Sr 91 p) (sL Sr 92 p) = β k + 1 by rw [c2] at p3; exact r_o_n p2 p3 (b1 _ hk).1] at hm
          exact hm
      · obtain ⟨i, i1, i2⟩ := sumN_ex e6
        have i3 : ob (sL S 47 i) (sL S 48 i) = k := by
          by_cases c : ob (sL S 47 i) (sL S 48 i) = k
          · exact c
          · rw [if_neg c] at i2; omega
        obtain ⟨p, p1, p2⟩ := s2 i i1
        refine List.mem_append_left _ ?_
        have hm := seqN_in (f := fun i => r_o (sA Sr 91 i) (sL Sr 92 i)) (Nat.zero_le p) (show p < 0 + (topC (x :: r) + offC (x :: r)) by omega)
        rw [show r_o (sA Sr 91 p) (sL Sr 92 p) = β k + 1 by rw [(vr_roo p2 (hb (hob i i1))).2.1 (by omega), i3]] at hm
        exact hm
    · left
      obtain ⟨q, q1, q2⟩ := sumN_ex e5
      have q3 : ob (sL S 21 q) (sL S 22 q) = k := by
        by_cases c : ob (sL S 21 q) (sL S 22 q) = k
        · exact c
        · rw [if_neg c] at q2; omega
      have qz : q < z := by
        rcases Nat.lt_or_ge q z with c | c
        · exact c
        · rw [(c6 q c q1).1] at q3
          rw [ob_k0 (by decide)] at q3
          omega
      have hex : ∃ i, i < nn ∧ nrel Sr g0 g1 q i := by
        by_cases c : ∃ i, i < nn ∧ nrel Sr g0 g1 q i
        · exact c
        · rw [(c5 q qz (fun i hi hn => c ⟨i, hi, hn⟩)).1, ob_k0 (by decide)] at q3
          omega
      obtain ⟨i, i1, i2⟩ := hex
      unfold nmL
      rw [eg3, eg4, en]
      have hm := seqN_in (f := fun i => r_o (sA Sr g3 i) (sL Sr g4 i)) (Nat.zero_le i) (show i < 0 + nn by omega)
      rw [show r_o (sA Sr g3 i) (sL Sr g4 i) = β k + 1 by rw [(vr_roo (c3 i q i1 qz i2) (hb (hon q q1))).2.1 (by omega), q3]] at hm
      exact hm
  · refine ⟨nn, g3, g4, gn, r1, r3, r4, k3, k4, n1, by omega, ?_, fun i hi => ?_⟩
    · simp only [List.mem_cons, List.not_mem_nil, or_false]
      unfold nG at q3
      omega
    · rcases hgl i hi with e | ⟨q, q1, _, q3⟩
      · intro c; rw [e] at c; exact absurd c (by decide)
      · exact (vr_roo q3 (hb (hon q (by omega)))).2.2
  · refine ⟨topC (x :: r) + offC (x :: r), (x :: r).length, w1, by omega, fun p hp => ?_, by rw [w2, List.length_cons], by rw [List.length_cons]; omega, fun i hi => ?_⟩
    · rcases s1 p hp with ⟨i, i1, i2⟩ | ⟨y, y1, y2, y3, y4⟩
      · exact (vr_roo i2 (hb (hob i i1))).2.2
      · exact fun _ => ⟨_, (b1 _ ((hlv y y1).2 y2)).1, by rw [y4, lN_i]⟩
    · obtain ⟨y, y1, y2⟩ := f1 i hi
      by_cases c : vF y = 0
      · left; rw [y2, if_pos c]
      · right; exact ⟨_, (b1 _ ((hlv y y1).1 c)).1, by rw [y2, if_neg c]⟩
  · have e : g = g3 := by rw [r3] at hg; exact (Value.ref.inj hg).symm
    rw [e]
    intro hm
    have hm' : g3 ∈ ([87, 89, 90] : List Nat) := hm
    simp only [List.mem_cons, List.not_mem_nil, or_false] at hm'
    unfold nG at q3
    omega
  · have h1 := List.count_le_length (a := k + 1) (l := nmL Sr)
    have h2 := List.count_le_length (a := k + 1) (l := wkL Sr)
    have e1 : (nmL Sr).length = nn := by unfold nmL; rw [seqN_len, en]
    have e2 : (wkL Sr).length = topC (x :: r) + offC (x :: r) + (x :: r).length := by unfold wkL; rw [List.length_append, seqN_len, seqN_len, e51, e59]
    rw [List.length_cons] at e2
    unfold rRoot
    omega
end
