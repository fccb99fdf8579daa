/-! DEEDS ON BOTH SIDES: equal, unequal, is -/
section
variable {P : Nat → Prop} {T : cS} {gT : Nat} {Q : Nat → Prop} {β : Nat → Nat} {F : Nat → Nat → Nat → Prop} {loc par : Nat → Nat → Nat} {ty : Nat → Nat × Nat} {G : Nat → Nat → Nat → Nat × Nat × LL → Prop} {D K : List Nat} {z nn g0 g1 g3 g4 g5 gn d v o t tp : Nat} {tq : Nat → Nat × Nat} {C r : List Lv} {x : Lv} {Sc Sr S S' W : cS} {hi lo a b hi' lo' a' b' : Int64} {kd kd' : Int32}
theorem srel_eq (h : srel hi lo a b) (h' : srel hi' lo' a' b') : (hi = hi' ∧ lo = lo') ↔ (a = a' ∧ b = b') := by
  obtain ⟨n, f, n15, hf, h1, h2, h3, h4⟩ := h
  obtain ⟨n', f', n15', hf', h1', h2', h3', h4'⟩ := h'
  have f8 : ∀ i, i < n → f i < 256 := fun i hi => by have := hf i hi; omega
  have f8' : ∀ i, i < n' → f' i < 256 := fun i hi => by have := hf' i hi; omega
  constructor
  · rintro ⟨e1, e2⟩
    obtain ⟨e, q⟩ := e_inj n15 n15' f8 f8' (by rw [← h1, ← h1']; exact e1) (by rw [← h2, ← h2']; exact e2)
    subst e
    have ec : (fun i => if i < n then f i else 0) = fun i => if i < n then f' i else 0 := funext fun i => by
      by_cases c : i < n
      · rw [if_pos c, if_pos c, q i c]
      · rw [if_neg c, if_neg c]
    have ed : (fun i => if i = 7 then n else if 8 + i < n then f (8 + i) else 0) = fun i => if i = 7 then n else if 8 + i < n then f' (8 + i) else 0 := funext fun i => by
      by_cases c7 : i = 7
      · rw [if_pos c7, if_pos c7]
      · rw [if_neg c7, if_neg c7]
        by_cases c : 8 + i < n
        · rw [if_pos c, if_pos c, q _ c]
        · rw [if_neg c, if_neg c]
    rw [h3, h3', h4, h4']
    unfold p_A p_B
    rw [ec, ed]
    exact ⟨rfl, rfl⟩
  · rintro ⟨e1, e2⟩
    obtain ⟨e, q⟩ := p_inj n15 n15' f8 f8' (by rw [← h3, ← h3']; exact e1) (by rw [← h4, ← h4']; exact e2)
    subst e
    rw [h1, h1', h2, h2', e_H_congr q, e_L_congr q]
    exact ⟨rfl, rfl⟩
/-- two values are the same in the class if they are in the reference -/
theorem vr_eq (h : vrel β hi lo kd a b) (h' : vrel β hi' lo' kd' a' b') (k0 : c_kind hi ≠ 0) (k0' : c_kind hi' ≠ 0) (hb : ob hi lo ≠ 0 → β (ob hi lo) < 1500) (hb' : ob hi' lo' ≠ 0 → β (ob hi' lo') < 1500) (hj : ob hi lo ≠ 0 → ob hi' lo' ≠ 0 → β (ob hi lo) = β (ob hi' lo') → ob hi lo = ob hi' lo') : (hi = hi' ∧ lo = lo') ↔ (kd = kd' ∧ (kd' = nI 0 ∨ (a = a' ∧ (kd' = nI 2 → b = b')))) := by
  by_cases hk : kd = kd'
  · subst hk
    rcases h with ⟨h1, _, _⟩ | ⟨h1, h2, h3⟩ | ⟨h1, h3, h4⟩ | ⟨h3, hs⟩ | ⟨q, q1, q2, h1, h2, h3, h4⟩ | ⟨q, q1, h1, h2, h3, h4⟩
    · rw [h1] at k0; exact absurd (by decide) k0
    · rcases h' with ⟨g1, _, _⟩ | ⟨g1, g2, g3⟩ | ⟨_, g3, _⟩ | ⟨g3, _⟩ | ⟨_, _, _, _, _, g3, _⟩ | ⟨_, _, _, _, g3, _⟩
      · rw [g1] at k0'; exact absurd (by decide) k0'
      · rw [h1, h2, g1, g2]; exact ⟨fun _ => ⟨rfl, Or.inl h3⟩, fun _ => ⟨rfl, rfl⟩⟩
      · rw [h3] at g3; exact absurd g3 (by decide)
      · rw [h3] at g3; exact absurd g3 (by decide)
      · rw [h3] at g3; exact absurd g3 (by decide)
      · rw [h3] at g3; exact absurd g3 (by decide)
    · rcases h' with ⟨g1, _, _⟩ | ⟨_, _, g3⟩ | ⟨g1, g3, g4⟩ | ⟨g3, _⟩ | ⟨_, _, _, _, _, g3, _⟩ | ⟨_, _, _, _, g3, _⟩
      · rw [g1] at k0'; exact absurd (by decide) k0'
      · rw [h3] at g3; exact absurd g3 (by decide)
      · rw [h1, g1, h4, g4, h3]
        exact ⟨fun c => ⟨rfl, Or.inr ⟨c.2, fun c2 => absurd c2 (by decide)⟩⟩, fun c => ⟨rfl, (c.2.resolve_left (by decide)).1⟩⟩
      · rw [h3] at g3; exact absurd g3 (by decide)
      · rw [h3] at g3; exact absurd g3 (by decide)
      · rw [h3] at g3; exact absurd g3 (by decide)
    · rcases h' with ⟨g1, _, _⟩ | ⟨_, _, g3⟩ | ⟨_, g3, _⟩ | ⟨g3, gs⟩ | ⟨_, _, _, _, _, g3, _⟩ | ⟨_, _, _, _, g3, _⟩
      · rw [g1] at k0'; exact absurd (by decide) k0'
      · rw [h3] at g3; exact absurd g3 (by decide)
      · rw [h3] at g3; exact absurd g3 (by decide)
      · rw [h3, srel_eq hs gs]
        exact ⟨fun c => ⟨rfl, Or.inr ⟨c.1, fun _ => c.2⟩⟩, fun c => ⟨(c.2.resolve_left (by decide)).1, (c.2.resolve_left (by decide)).2 rfl⟩⟩
      · rw [h3] at g3; exact absurd g3 (by decide)
      · rw [h3] at g3; exact absurd g3 (by decide)
    · rcases h' with ⟨g1, _, _⟩ | ⟨_, _, g3⟩ | ⟨_, g3, _⟩ | ⟨g3, _⟩ | ⟨w, w1, w2, g1, g2, g3, g4⟩ | ⟨_, _, _, _, g3, _⟩
      · rw [g1] at k0'; exact absurd (by decide) k0'
      · rw [h3] at g3; exact absurd g3 (by decide)
      · rw [h3] at g3; exact absurd g3 (by decide)
      · rw [h3] at g3; exact absurd g3 (by decide)
      · have e1 : ob hi lo = q := by rw [h1, h2]; exact (ob_obj q2).2
        have e2 : ob hi' lo' = w := by rw [g1, g2]; exact (ob_obj w2).2
        rw [e1] at hb hj
        rw [e2] at hb' hj
        rw [h1, h2, g1, g2, h4, g4, h3]
        refine ⟨fun c => ⟨rfl, Or.inr ⟨?_, fun c2 => absurd c2 (by decide)⟩⟩, fun c => ⟨rfl, ?_⟩⟩
        · have := lN_inj (by omega) (by omega) c.2
          rw [this]
        · have := lN_inj (by have := hb (by omega); omega) (by have := hb' (by omega); omega) (c.2.resolve_left (by decide)).1
          rw [hj (by omega) (by omega) this]
      · rw [h3] at g3; exact absurd g3 (by decide)
    · rcases h' with ⟨g1, _, _⟩ | ⟨_, _, g3⟩ | ⟨_, g3, _⟩ | ⟨g3, _⟩ | ⟨_, _, _, _, _, g3, _⟩ | ⟨w, w1, g1, g2, g3, g4⟩
      · rw [g1] at k0'; exact absurd (by decide) k0'
      · rw [h3] at g3; exact absurd g3 (by decide)
      · rw [h3] at g3; exact absurd g3 (by decide)
      · rw [h3] at g3; exact absurd g3 (by decide)
      · rw [h3] at g3; exact absurd g3 (by decide)
      · rw [h1, h2, g1, g2, h4, g4, h3]
        refine ⟨fun c => ⟨rfl, Or.inr ⟨?_, fun c2 => absurd c2 (by decide)⟩⟩, fun c => ⟨rfl, ?_⟩⟩
        · have := lN_inj (by omega) (by omega) c.2
          rw [show q = w by omega]
        · have := lN_inj (by omega) (by omega) (c.2.resolve_left (by decide)).1
          rw [this]
  · refine ⟨fun c => absurd ?_ hk, fun c => absurd c.1 hk⟩
    obtain ⟨e, e1, e2, e3⟩ := vr_k h k0
    obtain ⟨e', e1', e2', e3'⟩ := vr_k h' k0'
    rw [c.1, e3'] at e3
    have := congrArg gN e3
    rw [gN_nI (by omega), gN_nI (by omega)] at this
    rw [e2, e2', show e = e' by omega]
/-- in the reference a value on the stack and another are the same -/
def rEqv (S : cS) (k : Nat) (kd : Int32) (xa xb : Int64) : Prop := sA S 91 k = kd ∧ (kd = nI 0 ∨ (sL S 92 k = xa ∧ (kd = nI 2 → sL S 93 k = xb)))
theorem rEq_T {k e e' : Nat} {xa xb : Int64} (hk : k < 20480) (he : sA S 91 k = nI e) (me : e ≤ 4) (me' : e' ≤ 4) : (rEqv S k (nI e') xa xb → Ans (d + 9) 402 [.ref 61, .int (nI k), .int (nI e'), .long xa, .long xb] S (some (.int 1)) S) ∧ (¬ rEqv S k (nI e') xa xb → Ans (d + 9) 402 [.ref 61, .int (nI k), .int (nI e'), .long xa, .long xb] S (some (.int 0)) S) := by
  have m := ml_402
  have hn : ∀ {i j : Nat}, i ≤ 4 → j ≤ 4 → nI i = nI j → i = j := fun {i j} hi hj c => by
    have := congrArg gN c
    rw [gN_nI (by omega), gN_nI (by omega)] at this
    exact this
  have go : ∀ {v : Option Value}, Bod (d + 8) 402 0 [(0, .ref 61), (1, .int (nI k)), (2, .int (nI e')), (3, .long xa), (5, .long xb)] [] S v S → Ans (d + 9) 402 [.ref 61, .int (nI k), .int (nI e'), .long xa, .long xb] S v S := fun h => Ans.of (by rw [m]; exact Nat.le_of_ble_eq_true rfl) (Bod.lv (by rfl) h)
  unfold rEqv
  rw [he]
  by_cases c1 : e = e'
  · subst c1
    by_cases c0 : e = 0
    · exact ⟨fun _ => go (rEq_1 (e91 := e) (by omega) (by omega) hk he (by omega) rfl c0), fun c => absurd ⟨rfl, Or.inl (by rw [c0])⟩ c⟩
    · by_cases ca : sL S 92 k = xa
      · by_cases c2 : e = 2
        · by_cases cb : sL S 93 k = xb
          · exact ⟨fun _ => go (rEq_5 (e91 := e) (by omega) (by omega) hk he (by omega) rfl c0 (by rw [ca]; exact lgne_F) c2 (by rw [cb]; exact lgne_F)), fun c => absurd ⟨rfl, Or.inr ⟨ca, fun _ => cb⟩⟩ c⟩
          · refine ⟨fun c => absurd ?_ cb, fun _ => go (rEq_4 (e91 := e) (by omega) (by omega) hk he (by omega) rfl c0 (by rw [ca]; exact lgne_F) c2 (lgne_T cb))⟩
            rcases c.2 with c | c
            · exact absurd (hn me (by omega) c) c0
            · exact c.2 (by rw [c2])
        · exact ⟨fun _ => go (rEq_3 (e91 := e) (by omega) (by omega) hk he (by omega) rfl c0 (by rw [ca]; exact lgne_F) c2), fun c => absurd ⟨rfl, Or.inr ⟨ca, fun c3 => absurd (hn me (by omega) c3) c2⟩⟩ c⟩
      · refine ⟨fun c => absurd ?_ ca, fun _ => go (rEq_2 (e91 := e) (by omega) (by omega) hk he (by omega) rfl c0 (lgne_T ca))⟩
        rcases c.2 with c | c
        · exact absurd (hn me (by omega) c) c0
        · exact c.1
  · exact ⟨fun c => absurd (hn me me' c.1) c1, fun _ => go (rEq_6 (e91 := e) (by omega) (by omega) hk he (by omega) c1)⟩
/-- the objects of values that are related: told in both -/
theorem XR_ob (h : CI F loc par ty G tq (x :: r) Sc) (hX : XR P T gT Q β F D z nn g0 g1 g3 g4 g5 gn tq (x :: r) Sc Sr) {i : Nat} (hi : i < topC (x :: r)) (h0 : ob (sL Sc 47 i) (sL Sc 48 i) ≠ 0) : lv Sc (ob (sL Sc 47 i) (sL Sc 48 i)) ∧ β (ob (sL Sc 47 i) (sL Sc 48 i)) < 1500 := by
  obtain ⟨o, o1, o2, o3⟩ := h.1.2.2.2.2.1 i hi
  have e := ob_n o2 o1
  rw [e] at h0 ⊢
  have hl := o3.resolve_left h0
  exact ⟨hl, hX.1.b hl⟩
end
