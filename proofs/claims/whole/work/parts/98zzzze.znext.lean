/-! STATEMENTS OF THE REFERENCE: scopes grow; behind a statement the next one can begin -/
def eqR (E : Nat → Nat → Bool) : Prop := (∀ i j, E i j = true → E j i = true) ∧ ∀ i j k, E i j = true → E j k = true → E i k = true
theorem scL_refl (E : Nat → Nat → Bool) (sc : SCs) : scL E sc sc := ⟨⟨[], (List.append_nil _).symm⟩, fun _ _ _ => Iff.rfl, id⟩
theorem scL_trans {E : Nat → Nat → Bool} {a b c : SCs} (h : scL E a b) (g : scL E b c) : scL E a c := by
  obtain ⟨⟨l, h1⟩, h2, h3⟩ := h
  obtain ⟨⟨l2, g1⟩, g2, g3⟩ := g
  refine ⟨⟨l ++ l2, by rw [g1, h1, List.append_assoc]⟩, fun s j hs => (g2 s j ?_).trans (h2 s j hs), fun q => g3 (h3 q)⟩
  rw [h1, List.length_append]
  omega
theorem scF_A {E : Nat → Nat → Bool} {s k kd s' j : Nat} {sc : SCs} : scF E (scA s k kd sc) s' j = match scF E sc s' j with
    | some e => some e
    | none => if (Nat.beq s s' && E k j) = true then some (s, k, kd) else none := by
  unfold scF scA
  dsimp only
  rw [List.find?_append]
  cases sc.2.find? (fun e => Nat.beq e.1 s' && E e.2.1 j) with
  | some e => rfl
  | none =>
    rw [Option.none_or, List.find?_cons]
    cases h : (Nat.beq s s' && E k j) with
    | true => rfl
    | false => rfl
theorem kp_A {E : Nat → Nat → Bool} {s k kd : Nat} {sc : SCs} (hk : kd ≠ 1) (s' j : Nat) : kp E (scA s k kd sc) s' j ↔ kp E sc s' j := by
  unfold kp
  rw [scF_A]
  cases h : scF E sc s' j with
  | some e => exact Iff.rfl
  | none =>
    dsimp only
    constructor
    · rintro ⟨e, h1, h2⟩
      split at h1
      · injection h1 with h1
        rw [← h1] at h2
        exact absurd h2 hk
      · cases h1
    · rintro ⟨e, h1, _⟩
      cases h1
theorem wfS_A {s k kd : Nat} {sc : SCs} (hs : s < sc.1.length) (h : wfS sc) : wfS (scA s k kd sc) := fun e he => by
  rcases List.mem_append.mp he with q | q
  · exact h e q
  · rw [List.mem_singleton.mp q]
    exact hs
theorem scL_B (E : Nat → Nat → Bool) (s k : Nat) (sc : SCs) (hs : s < sc.1.length) : scL E sc (scB E s k sc) := by
  unfold scB
  split
  · exact scL_refl E sc
  · split
    · exact scL_refl E sc
    · exact ⟨⟨[], (List.append_nil _).symm⟩, fun s' j _ => kp_A (by decide) s' j, wfS_A hs⟩
theorem scL_T (E : Nat → Nat → Bool) (s g k : Nat) (sc : SCs) (hs : s < sc.1.length) : scL E sc (scT E s g k sc) := by
  unfold scT
  split
  · exact scL_B E s k sc hs
  · exact scL_refl E sc
theorem scL_G {E : Nat → Nat → Bool} (hE : eqR E) {s k : Nat} {sc sc1 : SCs} (hs : s < sc.1.length) (h : scG E s k sc = some sc1) : scL E sc sc1 := by
  unfold scG at h
  cases hf : scF E sc s k with
  | none =>
    rw [hf] at h
    injection h with h
    rw [← h]
    exact ⟨⟨[], (List.append_nil _).symm⟩, fun s' j _ => kp_A (by decide) s' j, wfS_A hs⟩
  | some e =>
    rw [hf] at h
    dsimp only at h
    split at h
    · cases h
    · rename_i hk
      injection h with h
      rw [← h]
      refine ⟨⟨[], (List.append_nil _).symm⟩, fun s' j _ => ?_, fun hw e' he' => ?_⟩
      rotate_left
      · obtain ⟨y, hy, hy2⟩ := List.mem_map.mp he'
        have := hw y hy
        rw [← hy2]
        show (if _ then _ else _ : Nat × Nat × Nat).1 < _
        split <;> exact this
      unfold kp scU scF
      dsimp only
      rw [List.find?_map]
      have hp : ((fun e : Nat × Nat × Nat => Nat.beq e.1 s' && E e.2.1 j) ∘ fun e : Nat × Nat × Nat => if (Nat.beq e.1 s && E e.2.1 k) = true then (e.1, e.2.1, 2) else e) = fun e => Nat.beq e.1 s' && E e.2.1 j := by
        funext e
        show (Nat.beq (if _ then _ else _ : Nat × Nat × Nat).1 s' && E (if _ then _ else _ : Nat × Nat × Nat).2.1 j) = _
        split <;> rfl
      rw [hp]
      unfold scF at hf
      cases hg : sc.2.find? (fun e => Nat.beq e.1 s' && E e.2.1 j) with
      | none => exact ⟨fun ⟨e, h1, _⟩ => (by cases h1), fun ⟨e, h1, _⟩ => (by cases h1)⟩
      | some g =>
        have g1 := List.find?_some hg
        rw [Bool.and_eq_true] at g1
        by_cases hm : (Nat.beq g.1 s && E g.2.1 k) = true
        · rw [Bool.and_eq_true] at hm
          have hs : s = s' := (Nat.beq_eq.mp hm.1).symm.trans (Nat.beq_eq.mp g1.1)
          have hjk : ∀ x : Nat, E x j = E x k := fun x => by
            have e1 : E j k = true := hE.2 _ _ _ (hE.1 _ _ g1.2) hm.2
            cases ha : E x j with
            | true => exact (hE.2 _ _ _ ha e1).symm
            | false =>
              cases hb : E x k with
              | false => rfl
              | true =>
                rw [hE.2 _ _ _ hb (hE.1 _ _ e1)] at ha
                cases ha
          have he : g = e := by
            have e2 : (fun e : Nat × Nat × Nat => Nat.beq e.1 s' && E e.2.1 j) = fun e => Nat.beq e.1 s && E e.2.1 k := by
              funext x
              rw [hjk, hs]
            rw [e2] at hg
            rw [hg] at hf
            injection hf
          constructor
          · rintro ⟨x, h1, h2⟩
            rw [Option.map_some, if_pos (by rw [Bool.and_eq_true]; exact hm)] at h1
            injection h1 with h1
            rw [← h1] at h2
            cases h2
          · rintro ⟨x, h1, h2⟩
            injection h1 with h1
            rw [← h1, he] at h2
            exact absurd h2 hk
        · constructor
          · rintro ⟨x, h1, h2⟩
            rw [Option.map_some, if_neg hm] at h1
            exact ⟨x, h1, h2⟩
          · rintro ⟨x, h1, h2⟩
            refine ⟨x, ?_, h2⟩
            injection h1 with h1
            rw [Option.map_some, if_neg hm, h1]
section
variable {β : Nat → Nat} {n : Nat} {E : Nat → Nat → Bool} {V : Nat → Int32} {T : Nat → Nat × Nat} {P : Nat → Int32 → Int32 × Int32} {own0 : Nat → Nat × Nat} {m u k1 : Nat} {S0 S S1 S2 : cS} {H B0 W d l c w t f f1 b j s : Nat} {X Y : Nat → Nat} {o1 o2 : List Op} {A : Prop}
theorem rgn_go {K I : Nat → Nat} {own st k k2 : Nat} (h : rgS K I own st k) (hk : k ≤ k2) (g : ∀ j, k ≤ j → j ≤ k2 → own < I j ∧ K j ≠ 1) : rgn K I own st k2 := Or.inl ⟨Nat.le_trans h.1 hk, fun j h1 h2 => by
  rcases Nat.lt_or_ge j k with h3 | h3
  · exact h.2 j h1 (by omega)
  · exact g j h3 h2⟩
theorem rgn_S {K I : Nat → Nat} {own st k : Nat} (h : rgn K I own st k) (h13 : K k ≠ 13 ∨ K (k - 1) = 2 ∨ k = 0) : rgS K I own st k := by
  rcases h with h | ⟨_, _, h3, h4, h5⟩
  · exact h
  · rcases h13 with q | q | q
    · exact absurd h3 q
    · rw [h4] at q; cases q
    · omega
theorem zSc_go {K I : Nat → Nat} {A' : Prop} {sc sc' : SCs} {F nl no ind ind' k k2 : Nat} (h : zSc K I E V T A sc s F nl no ind k S) (hA : A' → A) (hL : scL E sc sc') (h7 : ∀ i, i < nl → sA S1 74 i = sA S 74 i) (h8 : ∀ i, i < no → sA S1 82 i = sA S 82 i) (h5 : ∀ i, i ≤ F → sA S1 75 i = sA S 75 i ∧ sA S1 76 i = sA S 76 i ∧ sA S1 83 i = sA S 83 i) (hr : ∀ own st, (K k ≠ 1 → ind ≤ I k → rgn K I own st k) → K k2 ≠ 1 → ind' ≤ I k2 → rgn K I own st k2) : zSc K I E V T A' sc' s F nl no ind' k2 S1 := by
  obtain ⟨ls, os, a, b, pm, ch, q, U, c0, cF, cn, hu, hg, hd, hf⟩ := h
  have hle : ∀ d f, 1 ≤ f → f + d = F → a f + (ls f).length ≤ nl ∧ b f + (os f).length ≤ no := by
    intro d
    induction d with
    | zero =>
      intro f h1 h2
      obtain ⟨⟨_, _, _, _, e5, e6, _⟩, _⟩ := hf f h1 (by omega)
      rw [if_pos (by omega)] at e5 e6
      omega
    | succ d ih =>
      intro f h1 h2
      obtain ⟨⟨_, _, _, _, e5, e6, _⟩, _⟩ := hf f h1 (by omega)
      rw [if_neg (by omega)] at e5 e6
      have := ih (f + 1) (by omega) (by omega)
      omega
  refine ⟨ls, os, a, b, pm, ch, q, U, ⟨c0.1, hL.2.2 c0.2⟩, cF, cn, hu, fun f1 e1 e2 => hr _ _ (hg f1) e1 e2, hd, fun f f1 f2 => ?_⟩
  obtain ⟨⟨e1, e2, e3, e4, e5, e6, e7, e8⟩, ⟨g1, g2, g3, g4⟩, g5⟩ := hf f f1 f2
  obtain ⟨q1, q2, q3⟩ := h5 f f2
  obtain ⟨l1, l2⟩ := hle (F - f) f f1 (by omega)
  have hlen : sc.1.length ≤ sc'.1.length := by
    obtain ⟨⟨l, hl⟩, _⟩ := hL
    rw [hl, List.length_append]
    omega
  refine ⟨⟨q1.trans e1, q3.trans e2, q2.trans e3, e4, e5, e6, fun i y hy => ?_, fun i y hy => ?_⟩, ⟨g1, by omega, g3, fun hq => g4 (hA hq)⟩, fun j hj => (hL.2.1 _ j g2).trans (g5 j hj)⟩
  · have := (List.getElem?_eq_some_iff.mp hy).1
    rw [h7 _ (by omega)]
    exact e7 i y hy
  · have := (List.getElem?_eq_some_iff.mp hy).1
    rw [h8 _ (by omega)]
    exact e8 i y hy
theorem agT_L {sc sc' : SCs} (hL : scL E sc sc') (h : agT T sc'.1) : agT T sc.1 := by
  obtain ⟨⟨l, hl⟩, _⟩ := hL
  rw [hl] at h
  exact agT_pre h
theorem kA_74 (h : kA X S S1) : (∀ i, i < X 3 → sA S1 74 i = sA S 74 i) ∧ (∀ i, i < X 4 → sA S1 82 i = sA S 82 i) ∧ ∀ i, i ≤ X 1 → sA S1 75 i = sA S 75 i ∧ sA S1 76 i = sA S 76 i ∧ sA S1 83 i = sA S 83 i := ⟨h.2.2.2.1, h.2.2.2.2.1, h.2.1⟩
theorem qP_mono (β : Nat → Nat) (n : Nat) : ∀ (r k : Nat), qP β n k ≤ qP β n (k + r) := by
  intro r
  induction r with
  | zero => intro k; exact Nat.le_refl _
  | succ r ih => intro k; exact Nat.le_trans (ih k) (Nat.le_trans (show qP β n (k + r) ≤ qE β n (k + r) from (tq_ok β n (k + r)).2.1) (q_mono1 β n (k + r)))
theorem qP_le {k k2 : Nat} (h : k ≤ k2) : qP β n k ≤ qP β n k2 := by
  have := qP_mono β n (k2 - k) k
  rwa [show k + (k2 - k) = k2 by omega] at this
/-- the context behind a piece of a text -/
theorem zCt_go {z dp ind tr af k k2 c2 b2 : Nat} {opn : Nat → Nat} {lp : LpT} {sc sc' : SCs} {A' : Prop} (h : zCt (qK β n) (qI β n) E V T A z opn dp ind s lp tr sc X af b c (qP β n k) k S) (hA : A' → A) (hL : scL E sc sc') (hI : kI S S1) (hkA : kA X S S1) (h39 : z = 0 → sI S1 6139 = sI S 6139) (h391 : z = 1 → ∃ x, sI S1 6139 = nI x ∧ X 6 ≤ x ∧ x ≤ qP β n k2 ∧ Y 6 = x) (hY : ∀ i, i ≠ 6 → Y i = X i) (hY0 : z = 0 → Y 6 = X 6) (hz : z = 0 ∨ z = 1) (hc : c ≤ c2) (hb : ∀ i, i < b2 → ∃ x y, x < X 2 ∧ y < 2 ^ 17 ∧ bkL S1 i = nI x ∧ bkA S1 i = nI y) (hb2 : b2 ≤ qP β n k2) (hk : k ≤ k2) (hr : ∀ own st, (qK β n k ≠ 1 → ind ≤ qI β n k → rgn (qK β n) (qI β n) own st k) → qK β n k2 ≠ 1 → ind ≤ qI β n k2 → rgn (qK β n) (qI β n) own st k2) : zCt (qK β n) (qI β n) E V T A' z opn dp ind s lp tr sc' Y af b2 c2 (qP β n k2) k2 S1 := by
  obtain ⟨⟨h01, h02, h03, h04, h05⟩, ⟨h11, h12⟩, ⟨h21, h22, h23⟩, ⟨tr', h31, h32, h33⟩, h4, h5, ⟨h61, h62⟩, ⟨h71, h72, h73, h74⟩, ⟨h81, h82⟩, h9, h10⟩ := h
  have hq := qP_le (β := β) (n := n) hk
  obtain ⟨a1, a2, a3⟩ := kA_74 hkA
  have y0 := hY 0 (by decide)
  have y1 := hY 1 (by decide)
  have y2 := hY 2 (by decide)
  have y3 := hY 3 (by decide)
  have y4 := hY 4 (by decide)
  have y5 := hY 5 (by decide)
  refine ⟨⟨y0.trans h01, (hI 6117 (by decide)).trans h02, h03, h04, fun i hi => ?_⟩, ⟨by rw [y1]; exact (hI 6122 (by decide)).trans h11, by omega⟩, ⟨by rw [y2]; exact (hI 6126 (by decide)).trans h21, by omega, fun hz0 => ?_⟩, ⟨tr', (hI 6127 (by decide)).trans h31, h32, h33⟩, by rw [y3]; exact (hI 6123 (by decide)).trans h4, by rw [y4]; exact (hI 6137 (by decide)).trans h5, ⟨by rw [y5]; exact (hI 6134 (by decide)).trans h61, by omega⟩, ?_, ⟨by rw [y2]; exact hb, hb2⟩, ?_, by rw [y1]; exact h10⟩
  · rw [hkA.1 i (by omega)]
    exact h05 i hi
  · have h23' := h23 hz0
    rw [y2]
    cases lp with
    | none =>
      rcases h23' with e | ⟨e1, e2⟩
      · exact Or.inl e
      · exact Or.inr ⟨e1, by rw [(hkA.2.2.1 _ (by omega)).1]; exact e2⟩
    | some x =>
      obtain ⟨e1, e2, e3, e4, e5⟩ := h23'
      exact ⟨e1, by omega, by rw [(hkA.2.2.1 _ (by omega)).1]; exact e3, by rw [(hkA.2.2.1 _ (by omega)).2]; exact e4, e5⟩
  · have h40 := (hI 6140 (by decide)).trans h73
    rcases hz with hz | hz
    · rw [hY0 hz, h39 hz]
      exact ⟨h71, by omega, h40, h74⟩
    · obtain ⟨x, x1, x2, x3, x4⟩ := h391 hz
      exact ⟨by rw [x4]; exact x1, by omega, h40, by omega⟩
  · rw [y1, y3, y4]
    exact zSc_go h9 hA hL a1 a2 a3 hr
end
