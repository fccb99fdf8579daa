/-! ONE THING OF THE REFERENCE CHANGES: what stays; room -/
/-- six arrays, no two the same (of one kind) -/
def dsV (v2 v3 v4 v5 v6 v7 : Nat) : Prop := v2 ≠ v3 ∧ v4 ≠ v5 ∧ v4 ≠ v6 ∧ v4 ≠ v7 ∧ v5 ≠ v6 ∧ v5 ≠ v7 ∧ v6 ≠ v7
/-- the length of a vector that was made behind -/
def tlen (S : cS) (v : Nat) : Nat := match (sS S)[v - 108]? with
  | some x => x.2
  | none => 0
def vC (n : Nat) : Nat := if n ≤ 4 then 0 else if n ≤ 32 then 96 else 1008
def kC (n : Nat) : Nat := if n ≤ 4 then 0 else if n ≤ 32 then 96 else 408
def vN (n : Nat) : Nat := if n ≤ 4 then 0 else if n ≤ 32 then 3 else 6
/-- what thing p has cost: elements, cells -/
def tcC (S : cS) (p : Nat) : Nat := match sQ S 86 p with
  | some t => 37 + vC (tlen S (r_ref S (100 * t + 2))) + kC (tlen S (r_ref S (100 * t + 3)))
  | none => 0
def tcN (S : cS) (p : Nat) : Nat := match sQ S 86 p with
  | some t => 7 + vN (tlen S (r_ref S (100 * t + 2))) + vN (tlen S (r_ref S (100 * t + 3)))
  | none => 0
def tLn (n m : Nat) : Prop := (n = 4 ∨ n = 32 ∨ n = 304) ∧ (m = 4 ∨ m = 32 ∨ m = 104)
/-- a thing as it must be -/
def tOk (S : cS) (p t : Nat) : Prop := ∃ v2 v3 v4 v5 v6 v7 n m : Nat, tRef S p t v2 v3 v4 v5 v6 v7 n m ∧ dsV v2 v3 v4 v5 v6 v7 ∧ tLn n m ∧ ∀ j, j < m → ∃ e, e < 2 ^ 20 ∧ sA S v3 j = nI e
/-- all things; Q: what they never touch -/
def tWf (Q : Nat → Prop) (S : cS) : Prop := (∀ p t, p < 1500 → sQ S 86 p = some t → tOk S p t) ∧ (∀ p q t, p < 1500 → q < 1500 → sQ S 86 p = some t → sQ S 86 q = some t → p = q) ∧ (∀ p q t t' f f' (v : Nat), p < 1500 → q < 1500 → p ≠ q → sQ S 86 p = some t → sQ S 86 q = some t' → 2 ≤ f → f ≤ 7 → 2 ≤ f' → f' ≤ 7 → sV S (100 * t + f) = .ref v → sV S (100 * t' + f') = .ref v → False) ∧ (∀ p t f (v : Nat), p < 1500 → sQ S 86 p = some t → 2 ≤ f → f ≤ 7 → sV S (100 * t + f) = .ref v → ¬ Q v) ∧ (∀ a, a < 108 → Q a) ∧ (∀ a, Q a → a < 108 + (sS S).length)
/-- thing r (at t) alone has changed -/
def tF (r t : Nat) (S W : cS) : Prop := sJ W = sJ S ∧ sQ W = sQ S ∧ (∃ l, sS W = sS S ++ l) ∧ (∀ i, (∀ j, j ≤ 12 → i ≠ 100 * t + j) → sI W i = sI S i ∧ sV W i = sV S i) ∧ (∀ a, a ≠ 87 → a < 108 + (sS S).length → (∀ f, 2 ≤ f → f ≤ 7 → sV S (100 * t + f) ≠ .ref a) → sA W a = sA S a ∧ sL W a = sL S a) ∧ sL W 87 = sL S 87 ∧ (∀ p, p ≠ r → sA W 87 p = sA S 87 p) ∧ (∀ (f v : Nat), 2 ≤ f → f ≤ 7 → sV W (100 * t + f) = .ref v → sV S (100 * t + f) = .ref v ∨ 108 + (sS S).length ≤ v) ∧ mu W + tcC S r = mu S + tcC W r ∧ (sS W).length + tcN S r = (sS S).length + tcN W r
section
variable {S W X : cS} {r t p q v2 v3 v4 v5 v6 v7 n m : Nat} {Q : Nat → Prop}
theorem tF.refl (r t : Nat) (S : cS) : tF r t S S := ⟨rfl, rfl, ⟨[], (List.append_nil _).symm⟩, fun _ _ => ⟨rfl, rfl⟩, fun _ _ _ _ => ⟨rfl, rfl⟩, rfl, fun _ _ => rfl, fun _ _ _ _ h => Or.inl h, rfl, rfl⟩
theorem isK_at {v N k : Nat} (h : isK S v k N) (hv : 108 ≤ v) : v < 108 + (sS S).length ∧ tlen S v = N ∧ (sS S)[v - 108]? = some (k, N) := by
  rcases h with h | h
  · omega
  · have := (List.getElem?_eq_some_iff.mp h.2).1
    refine ⟨by omega, ?_, h.2⟩
    unfold tlen
    rw [h.2]
theorem tc_ref (h : tRef S r t v2 v3 v4 v5 v6 v7 n m) : tcC S r = 37 + vC n + kC m ∧ tcN S r = 7 + vN n + vN m := by
  obtain ⟨h1, h2, h3, h4, h5, h6, h7, h8, h9, k1, k2, k3, k4, k5, k6, hr⟩ := h
  unfold tcC tcN
  rw [h1]
  dsimp only
  rw [r_ref_e h4, r_ref_e h5, (isK_at k1 hr.2.2.1).2.1, (isK_at k2 hr.2.2.2.1).2.1]
  exact ⟨rfl, rfl⟩
/-- the field f of a thing: below the end, above 108 -/
theorem tRef_v (h : tRef S r t v2 v3 v4 v5 v6 v7 n m) {f v : Nat} (f2 : 2 ≤ f) (f7 : f ≤ 7) (hv : sV S (100 * t + f) = .ref v) : 108 ≤ v ∧ v < 108 + (sS S).length ∧ (v = v2 ∧ f = 2 ∨ v = v3 ∧ f = 3 ∨ v = v4 ∧ f = 4 ∨ v = v5 ∧ f = 5 ∨ v = v6 ∧ f = 6 ∨ v = v7 ∧ f = 7) := by
  obtain ⟨h1, h2, h3, h4, h5, h6, h7, h8, h9, k1, k2, k3, k4, k5, k6, g1, g2, g3, g4, g5, g6, g7, g8⟩ := h
  have c : f = 2 ∨ f = 3 ∨ f = 4 ∨ f = 5 ∨ f = 6 ∨ f = 7 := by omega
  rcases c with rfl | rfl | rfl | rfl | rfl | rfl
  · rw [h4] at hv; injection hv with hv; subst hv; exact ⟨g3, (isK_at k1 g3).1, Or.inl ⟨rfl, rfl⟩⟩
  · rw [h5] at hv; injection hv with hv; subst hv; exact ⟨g4, (isK_at k2 g4).1, Or.inr (Or.inl ⟨rfl, rfl⟩)⟩
  · rw [h6] at hv; injection hv with hv; subst hv; exact ⟨g5, (isK_at k3 g5).1, Or.inr (Or.inr (Or.inl ⟨rfl, rfl⟩))⟩
  · rw [h7] at hv; injection hv with hv; subst hv; exact ⟨g6, (isK_at k4 g6).1, Or.inr (Or.inr (Or.inr (Or.inl ⟨rfl, rfl⟩)))⟩
  · rw [h8] at hv; injection hv with hv; subst hv; exact ⟨g7, (isK_at k5 g7).1, Or.inr (Or.inr (Or.inr (Or.inr (Or.inl ⟨rfl, rfl⟩))))⟩
  · rw [h9] at hv; injection hv with hv; subst hv; exact ⟨g8, (isK_at k6 g8).1, Or.inr (Or.inr (Or.inr (Or.inr (Or.inr ⟨rfl, rfl⟩))))⟩
theorem tF.trans (h : tF r t S W) (g : tF r t W X) (hv : ∀ (f v : Nat), 2 ≤ f → f ≤ 7 → sV S (100 * t + f) = .ref v → v < 108 + (sS S).length) : tF r t S X := by
  obtain ⟨a1, a2, ⟨l, a3⟩, a4, a5, a6, a7, a8, a9, a10⟩ := h
  obtain ⟨b1, b2, ⟨l', b3⟩, b4, b5, b6, b7, b8, b9, b10⟩ := g
  have hlen : (sS W).length = (sS S).length + l.length := by rw [a3, List.length_append]
  refine ⟨b1.trans a1, b2.trans a2, ⟨l ++ l', by rw [b3, a3, List.append_assoc]⟩, fun i hi => ⟨(b4 i hi).1.trans (a4 i hi).1, (b4 i hi).2.trans (a4 i hi).2⟩, fun a ha hl hn => ?_, b6.trans a6, fun p hp => (b7 p hp).trans (a7 p hp), fun f v f2 f7 hv' => ?_, by omega, by omega⟩
  · have e := a5 a ha hl hn
    have e' := b5 a ha (by omega) (fun f f2 f7 c => by
      rcases a8 f a f2 f7 c with c | c
      · exact hn f f2 f7 c
      · omega)
    exact ⟨e'.1.trans e.1, e'.2.trans e.2⟩
  · rcases b8 f v f2 f7 hv' with c | c
    · exact a8 f v f2 f7 c
    · exact Or.inr (by omega)
/-- the other things stay -/
theorem tF_o (hQ : tWf Q S) (h : tF r t S W) (hr : r < 1500) (ht : sQ S 86 r = some t) (hp : p < 1500) (hpr : p ≠ r) : thE S W p ∧ tcC W p = tcC S p ∧ tcN W p = tcN S p := by
  obtain ⟨q1, q2, q3, q4, q5, q6⟩ := hQ
  obtain ⟨a1, a2, ⟨l, a3⟩, a4, a5, a6, a7, a8, a9, a10⟩ := h
  have hd : ∀ t', sQ S 86 p = some t' → ∀ i j, i ≤ 12 → j ≤ 12 → 100 * t' + i ≠ 100 * t + j := fun t' ht' i j hi hj c => by
    have : t' = t := by omega
    subst this
    exact hpr (q2 p r t' hp hr ht' ht)
  have key : thE S W p := ⟨a7 p hpr, by rw [a2], ⟨l, a3⟩, fun t' ht' => ⟨fun i hi => a4 _ (fun j hj => hd t' ht' i j hi hj), fun f v f2 f7 hv => by
    obtain ⟨w2, w3, w4, w5, w6, w7, n, m, w, _⟩ := q1 p t' hp ht'
    obtain ⟨c1, c2, _⟩ := tRef_v w f2 f7 hv
    exact a5 v (by omega) c2 (fun f' f2' f7' c => q3 p r t' t f f' v hp hr hpr ht' ht f2 f7 f2' f7' hv c)⟩⟩
  refine ⟨key, ?_⟩
  cases h86 : sQ S 86 p with
  | none =>
    unfold tcC tcN
    rw [a2, h86]
    exact ⟨rfl, rfl⟩
  | some t' =>
    obtain ⟨w2, w3, w4, w5, w6, w7, n, m, w, _⟩ := q1 p t' hp h86
    have w' := (tRef_E w key).1
    rw [(tc_ref w).1, (tc_ref w).2, (tc_ref w').1, (tc_ref w').2]
    exact ⟨rfl, rfl⟩
/-- all things are well-formed after it -/
theorem tF_Wf (hQ : tWf Q S) (h : tF r t S W) (hr : r < 1500) (ht : sQ S 86 r = some t) (hw : tOk W r t) : tWf Q W := by
  have ho := fun p hp hpr => tF_o (p := p) hQ h hr ht hp hpr
  obtain ⟨q1, q2, q3, q4, q5, q6⟩ := hQ
  obtain ⟨a1, a2, ⟨l, a3⟩, a4, a5, a6, a7, a8, a9, a10⟩ := h
  have hlen : (sS W).length = (sS S).length + l.length := by rw [a3, List.length_append]
  have hold : ∀ (p t' f v : Nat), p < 1500 → p ≠ r → sQ S 86 p = some t' → 2 ≤ f → f ≤ 7 → sV W (100 * t' + f) = .ref v → sV S (100 * t' + f) = .ref v ∧ v < 108 + (sS S).length := fun p t' f v hp hpr ht' f2 f7 hv => by
    rw [((ho p hp hpr).1.2.2.2 t' ht').1 f (by omega) |>.2] at hv
    obtain ⟨w2, w3, w4, w5, w6, w7, n, m, w, _⟩ := q1 p t' hp ht'
    exact ⟨hv, (tRef_v w f2 f7 hv).2.1⟩
  refine ⟨fun p t' hp ht' => ?_, fun p q t' hp hq h1 h2 => ?_, fun p q t1 t2 f f' v hp hq hpq h1 h2 f2 f7 f2' f7' hv hv' => ?_, fun p t' f v hp ht' f2 f7 hv => ?_, q5, fun a ha => by have := q6 a ha; omega⟩
  · by_cases hpr : p = r
    · subst hpr
      rw [a2, ht] at ht'
      injection ht' with ht'
      subst ht'
      exact hw
    · rw [a2] at ht'
      obtain ⟨w2, w3, w4, w5, w6, w7, n, m, w, wd, wl, wk⟩ := q1 p t' hp ht'
      obtain ⟨e1, _, _, _, e3, _⟩ := tRef_E w (ho p hp hpr).1
      exact ⟨w2, w3, w4, w5, w6, w7, n, m, e1, wd, wl, fun j hj => by rw [e3]; exact wk j hj⟩
  · rw [a2] at h1 h2
    exact q2 p q t' hp hq h1 h2
  · rw [a2] at h1 h2
    by_cases hpr : p = r
    · subst hpr
      rw [ht] at h1
      injection h1 with h1
      subst h1
      obtain ⟨c1, c2⟩ := hold q t2 f' v hq (fun c => hpq c.symm) h2 f2' f7' hv'
      rcases a8 f v f2 f7 hv with c | c
      · exact q3 p q t t2 f f' v hp hq hpq ht h2 f2 f7 f2' f7' c c1
      · omega
    · obtain ⟨c1, c2⟩ := hold p t1 f v hp hpr h1 f2 f7 hv
      by_cases hqr : q = r
      · subst hqr
        rw [ht] at h2
        injection h2 with h2
        subst h2
        rcases a8 f' v f2' f7' hv' with c | c
        · exact q3 p q t1 t f f' v hp hq hpq h1 ht f2 f7 f2' f7' c1 c
        · omega
      · exact q3 p q t1 t2 f f' v hp hq hpq h1 h2 f2 f7 f2' f7' c1 (hold q t2 f' v hq hqr h2 f2' f7' hv').1
  · rw [a2] at ht'
    by_cases hpr : p = r
    · subst hpr
      rw [ht] at ht'
      injection ht' with ht'
      subst ht'
      rcases a8 f v f2 f7 hv with c | c
      · exact q4 p t f v hp ht f2 f7 c
      · intro hc
        have := q6 v hc
        omega
    · exact q4 p t' f v hp ht' f2 f7 (hold p t' f v hp hpr ht' f2 f7 hv).1
/-- what things never touch stays -/
theorem tF_Q (hQ : tWf Q S) (h : tF r t S W) (hr : r < 1500) (ht : sQ S 86 r = some t) {a : Nat} (ha : Q a) (h87 : a ≠ 87) : sA W a = sA S a ∧ sL W a = sL S a :=
  h.2.2.2.2.1 a h87 (hQ.2.2.2.2.2 a ha) (fun f f2 f7 c => hQ.2.2.2.1 r t f a hr ht f2 f7 c ha)
end
