/-! WHAT ADDRESSES ARE FOR: 0 fixed, 1 rows of the class, 3 arrays of things, 20 to 25 names of the reference; frames by it -/
def FrO (own : Nat → Nat × Nat) (A L LI LV : List Nat) (S S' : cS) : Prop := sJ S' = sJ S ∧ sQ S' = sQ S ∧ (∀ i, i ∉ LI → sI S' i = sI S i) ∧ (∀ i, i ∉ LV → sV S' i = sV S i) ∧ (∃ l, sS S' = sS S ++ l) ∧ (∀ a, a < 108 + (sS S).length → (own a).1 ∉ A → sA S' a = sA S a) ∧ (∀ a, a < 108 + (sS S).length → (own a).1 ∉ L → sL S' a = sL S a)
theorem FrN_O {own : Nat → Nat × Nat} {S S' : cS} (h : FrN own S S') : FrO own [20, 21, 23] [24, 25] [6102] [6100, 6101, 6103, 6104, 6105] S S' := ⟨h.1, h.2.1, fun i hi => h.2.2.1 i (fun e => hi (by rw [e]; decide)), h.2.2.2.1, h.2.2.2.2.1, h.2.2.2.2.2.1, h.2.2.2.2.2.2⟩
def OW (own : Nat → Nat × Nat) (S : cS) : Prop := (∀ a, a < 62 → (own a).1 = 0) ∧ (∀ a, 67 ≤ a → a < 108 → a ≠ 79 → a ≠ 80 → (own a).1 = 0) ∧ (∀ k a, k ≤ 1500 → sQ S 11 k = some a → (own a).1 = 1 ∧ a < 108 + (sS S).length) ∧ (∀ p t, p < 1500 → sQ S 86 p = some t → ∀ f, 2 ≤ f → f ≤ 7 → ∃ v : Nat, sV S (100 * t + f) = .ref v ∧ v < 108 + (sS S).length ∧ (own v).1 = 3)
theorem OW_A {own : Nat → Nat × Nat} {A L LI LV : List Nat} {S S' : cS} (hO : OW own S) (hF : FrO own A L LI LV S S') (h0 : 0 ∉ A) {a : Nat} (ha : a < 62 ∨ (67 ≤ a ∧ a < 108 ∧ a ≠ 79 ∧ a ≠ 80)) : sA S' a = sA S a := hF.2.2.2.2.2.1 a (by omega) (by
  have : (own a).1 = 0 := ha.elim (hO.1 a) (fun h => hO.2.1 a h.1 h.2.1 h.2.2.1 h.2.2.2)
  rw [this]; exact h0)
theorem OW_L {own : Nat → Nat × Nat} {A L LI LV : List Nat} {S S' : cS} (hO : OW own S) (hF : FrO own A L LI LV S S') (h0 : 0 ∉ L) {a : Nat} (ha : a < 62 ∨ (67 ≤ a ∧ a < 108 ∧ a ≠ 79 ∧ a ≠ 80)) : sL S' a = sL S a := hF.2.2.2.2.2.2 a (by omega) (by
  have : (own a).1 = 0 := ha.elim (hO.1 a) (fun h => hO.2.1 a h.1 h.2.1 h.2.2.1 h.2.2.2)
  rw [this]; exact h0)
theorem row_O {own : Nat → Nat × Nat} {A L LI LV : List Nat} {S S' : cS} {k : Nat} (hO : OW own S) (hF : FrO own A L LI LV S S') (h0 : 0 ∉ L) (h1 : 1 ∉ L) (hk : k ≤ 1500) : sL S' (h_row S k) = sL S (h_row S k) := by
  unfold h_row
  cases hq : sQ S 11 k with
  | none => exact OW_L hO hF h0 (a := 0) (Or.inl (by omega))
  | some a =>
    obtain ⟨q1, q2⟩ := hO.2.2.1 k a hk hq
    exact hF.2.2.2.2.2.2 a q2 (by rw [q1]; exact h1)
theorem tgs_O {own : Nat → Nat × Nat} {A L LI LV : List Nat} {S S' : cS} {k : Nat} (hO : OW own S) (hF : FrO own A L LI LV S S') (hA : 0 ∉ A) (h0 : 0 ∉ L) (h1 : 1 ∉ L) (hk : k ≤ 1500) : tgs S' k = tgs S k := by
  have a : ∀ x, x < 62 → sA S' x = sA S x := fun x hx => OW_A hO hF hA (Or.inl hx)
  have hr := row_O hO hF h0 h1 hk
  have e : h_ent S' k = h_ent S k := by
    funext e
    have hrr : h_row S' k = h_row S k := by unfold h_row; rw [hF.2.1]
    unfold h_ent h_hi h_lo h_kd
    rw [hrr, hr, a 3 (by decide)]
  unfold tgs h_n h_z h_kd
  rw [a 3 (by decide), a 7 (by decide), a 8 (by decide), a 10 (by decide), e]
theorem heldBy_O {own : Nat → Nat × Nat} {A L LI LV : List Nat} {S S' : cS} (hO : OW own S) (hF : FrO own A L LI LV S S') (hA : 0 ∉ A) (h0 : 0 ∉ L) (h1 : 1 ∉ L) (t : Nat) : heldBy S' t = heldBy S t := sumN_congr (fun j hj => by
  show (if sA S' 3 j = 0 then 0 else (tgs S' j).count t) = if sA S 3 j = 0 then 0 else (tgs S j).count t
  rw [OW_A hO hF hA (a := 3) (Or.inl (by decide)), tgs_O hO hF hA h0 h1 (by omega)])
theorem Hp_O {own : Nat → Nat × Nat} {A L LI LV : List Nat} {S S' : cS} {e4 e5 e6 : Nat → Nat} (h : Hp e4 e5 e6 S) (hO : OW own S) (hF : FrO own A L LI LV S S') (hA : 0 ∉ A) (h0 : 0 ∉ L) (h1 : 1 ∉ L) (hI : ∀ i, i ∈ LI → i ∉ [213, 214, 215]) : Hp e4 e5 e6 S' := by
  obtain ⟨hok, ⟨p, f, q1, q2, q3, q4, q5, q6, q7, q8, q9⟩, hcn, hcl, hds, hex⟩ := h
  have a : ∀ x, x < 62 → sA S' x = sA S x := fun x hx => OW_A hO hF hA (Or.inl hx)
  have i : ∀ x, x ∈ [213, 214, 215] → sI S' x = sI S x := fun x hx => hF.2.2.1 x (fun c => hI x c hx)
  have hn : nLive S' = nLive S := sumN_congr (fun k _ => by
    show (if sA S' 3 k = 0 then 0 else 1) = if sA S 3 k = 0 then 0 else 1
    rw [a 3 (by decide)])
  obtain ⟨l, hS⟩ := hF.2.2.2.2.1
  refine ⟨?_, ⟨p, f, by rw [i _ (by decide), hn]; exact q1, by rw [i _ (by decide)]; exact q2, by rw [i _ (by decide)]; exact q3, by rw [hn]; exact q4, q5, ?_, ?_, by rw [a 3 (by decide)]; exact q8, by rw [a 3 (by decide)]; exact q9⟩, ?_, ?_, ?_, ?_⟩
  · intro k k1 k2
    obtain ⟨kd', z', x', y', b1, b2, b3, b4, b5, b6, b7, b8, b9, b10, b11⟩ := hok k k1 k2
    refine ⟨kd', z', x', y', b1, by rw [a 3 (by decide)]; exact b2, by rw [a 10 (by decide)]; exact b3, by rw [a 7 (by decide)]; exact b4, by rw [a 8 (by decide)]; exact b5, b6, b7, b8, b9, by rw [hF.2.1]; exact b10, ?_⟩
    rw [hF.2.1]
    intro r hr
    obtain ⟨N, c1, c2, c3, c4, c5⟩ := b11 r hr
    refine ⟨N, c1, sS_old hS c2, c3, c4, ?_⟩
    obtain ⟨o1, o2⟩ := hO.2.2.1 k r k2 hr
    rw [hF.2.2.2.2.2.2 r o2 (by rw [o1]; exact h1)]
    exact c5
  · rw [a 3 (by decide), a 13 (by decide)]; exact q6
  · rw [a 13 (by decide)]; exact q7
  · intro kd k1 k2
    have : nKind S' kd = nKind S kd := sumN_congr (fun k _ => by
      show (if sA S' 3 k = nI kd then 1 else 0) = if sA S 3 k = nI kd then 1 else 0
      rw [a 3 (by decide)])
    rw [this, a 12 (by decide)]
    exact hcn kd k1 k2
  · intro j j1 j2 hl t ht
    rw [tgs_O hO hF hA h0 h1 j2] at ht
    rw [a 3 (by decide)] at hl ⊢
    exact hcl j j1 j2 hl t ht
  · unfold h_ds
    rw [hF.2.1]
    exact hds
  · intro t t1 t2
    rw [heldBy_O hO hF hA h0 h1, a 4 (by decide), a 5 (by decide), a 6 (by decide)]
    exact hex t t1 t2
theorem Hd_O {own : Nat → Nat × Nat} {A L LI LV : List Nat} {S S' : cS} {e4 e5 e6 : Nat → Nat} (h : Hd e4 e5 e6 S) (hO : OW own S) (hF : FrO own A L LI LV S S') (hA : 0 ∉ A) (h0 : 0 ∉ L) (h1 : 1 ∉ L) : Hd e4 e5 e6 S' := by
  intro t t1 t2 hl
  rw [OW_A hO hF hA (a := 3) (Or.inl (by decide))] at hl
  rw [heldBy_O hO hF hA h0 h1]
  exact h t t1 t2 hl
theorem r_ok_O {own : Nat → Nat × Nat} {A L LI LV : List Nat} {S S' : cS} {p : Nat} (hp : p < 1500) (hO : OW own S) (hF : FrO own A L LI LV S S') (hA : 3 ∉ A) (h0 : 3 ∉ L) (hI : ∀ i, i ∈ LI → i < 10800) (hV : ∀ i, i ∈ LV → i < 10800) (h : r_ok S p) : r_ok S' p ∧ rtgs S' p = rtgs S p := by
  obtain ⟨t, N, z, v2, v4, n, hq, ht, hs, hz, e2, e4, hk2, hk4, hzn, hn, hv2, ho, h11, h12⟩ := h
  obtain ⟨l, hS⟩ := hF.2.2.2.2.1
  have hI' : ∀ i, 10800 ≤ i → sI S' i = sI S i := fun i hi => hF.2.2.1 i (fun hm => by have := hI i hm; omega)
  have hV' : ∀ i, 10800 ≤ i → sV S' i = sV S i := fun i hi => hF.2.2.2.1 i (fun hm => by have := hV i hm; omega)
  have hA2 : sA S' v2 = sA S v2 := by
    obtain ⟨v, c1, c2, c3⟩ := hO.2.2.2 p t hp hq 2 (by omega) (by omega)
    rw [e2] at c1
    obtain rfl : v2 = v := by injection c1
    exact hF.2.2.2.2.2.1 v2 c2 (by rw [c3]; exact hA)
  have hL4 : sL S' v4 = sL S v4 := by
    obtain ⟨v, c1, c2, c3⟩ := hO.2.2.2 p t hp hq 4 (by omega) (by omega)
    rw [e4] at c1
    obtain rfl : v4 = v := by injection c1
    exact hF.2.2.2.2.2.2 v4 c2 (by rw [c3]; exact h0)
  refine ⟨⟨t, N, z, v2, v4, n, by rw [hF.2.1]; exact hq, ht, sS_old hS hs, by rw [hI' _ (by omega)]; exact hz, by rw [hV' _ (by omega)]; exact e2, by rw [hV' _ (by omega)]; exact e4, isK_K hS hk2, isK_K hS hk4, hzn, hn, hv2, ?_, by rw [hI' _ (by omega)]; exact h11, by rw [hI' _ (by omega)]; exact h12⟩, ?_⟩
  · rw [hA2, hL4]
    exact ho
  · rw [rtgs_e hq hz (by omega) e2 e4, rtgs_e (S := S') (by rw [hF.2.1]; exact hq) (by rw [hI' _ (by omega)]; exact hz) (by omega) (by rw [hV' _ (by omega)]; exact e2) (by rw [hV' _ (by omega)]; exact e4), hA2, hL4, hI' _ (by omega), hI' _ (by omega)]
theorem GR_O {own : Nat → Nat × Nat} {A L LI LV : List Nat} {β : Nat → Nat} {D : List Nat} {S S' : cS} (hG : GR β D S) (hO : OW own S) (hF : FrO own A L LI LV S S') (hA : 0 ∉ A) (h0 : 0 ∉ L) (h1 : 1 ∉ L) (hA3 : 3 ∉ A) (h3 : 3 ∉ L) (hI : ∀ i, i ∈ LI → i < 10800) (hV : ∀ i, i ∈ LV → i < 10800) : GR β D S' := by
  obtain ⟨g1, g2, g3, g4, g5, g6, g7, g8, g9⟩ := hG
  have a3 : sA S' 3 = sA S 3 := OW_A hO hF hA (Or.inl (by decide))
  have h87 : sA S' 87 = sA S 87 := OW_A hO hF hA (Or.inr (by decide))
  have hlv : ∀ k, lv S' k ↔ lv S k := fun k => by unfold lv; rw [a3]
  have hr : ∀ p, p < 1500 → sA S 87 p ≠ 0 → r_ok S' p ∧ rtgs S' p = rtgs S p := fun p hp h => r_ok_O hp hO hF hA3 h3 hI hV (g9 p hp h)
  have ht : ∀ k, r_t S' k = r_t S k := fun k => by unfold r_t; rw [hF.2.1]
  have hI' : ∀ i, 10800 ≤ i → sI S' i = sI S i := fun i hi => hF.2.2.1 i (fun hm => by have := hI i hm; omega)
  refine ⟨?_, ?_, ?_, ?_, g5, ?_, ?_, ?_, ?_⟩
  · intro k hk
    rw [hlv] at hk
    obtain ⟨a1, a2, b3⟩ := g1 k hk
    obtain ⟨N, t1, t2, t3⟩ := r_ok_t (g9 _ a1 a2)
    exact ⟨a1, by rw [h87]; exact a2, by rw [ht, hI' _ (by omega), a3]; exact b3⟩
  · intro j k hj hk
    rw [hlv] at hj hk
    exact g2 j k hj hk
  · intro p hp h
    rw [h87] at h
    exact (g3 p hp h).imp id (fun ⟨k, hk, e⟩ => ⟨k, (hlv k).mpr hk, e⟩)
  · intro k hk o
    rw [hlv] at hk
    obtain ⟨a1, a2, _⟩ := g1 k hk
    rw [tgs_O hO hF hA h0 h1 hk.2.1, (hr _ a1 a2).2]
    exact g4 k hk o
  · intro x hx
    obtain ⟨x1, x2, x3⟩ := g6 x hx
    exact ⟨x1, by rw [h87]; exact x2, fun k hk => x3 k ((hlv k).mp hk)⟩
  · refine List.Pairwise.imp_of_mem (fun {a b} ha hb hab => ?_) g7
    obtain ⟨b1, b2, _⟩ := g6 b hb
    rw [(hr _ b1 b2).2]; exact hab
  · intro x hx
    obtain ⟨x1, x2, _⟩ := g6 x hx
    rw [(hr _ x1 x2).2]
    exact g8 x hx
  · intro k hk h
    rw [h87] at h
    exact (hr k hk h).1
/-- addresses keep what they are for -/
theorem OW_O {own own' : Nat → Nat × Nat} {A L LI LV : List Nat} {S S' : cS} (hO : OW own S) (hF : FrO own A L LI LV S S') (hV : ∀ i, i ∈ LV → i < 10800) (ho : ∀ a, a < 108 + (sS S).length → own' a = own a) (ht : ∀ p t, p < 1500 → sQ S 86 p = some t → 108 ≤ t) : OW own' S' := by
  obtain ⟨l, hS⟩ := hF.2.2.2.2.1
  have hl : (sS S').length = (sS S).length + l.length := by rw [hS, List.length_append]
  refine ⟨fun a ha => ?_, fun a h1 h2 h3 h4 => ?_, fun k a hk ha => ?_, fun p t hp hq f f1 f2 => ?_⟩
  · rw [ho a (by omega)]; exact hO.1 a ha
  · rw [ho a (by omega)]; exact hO.2.1 a h1 h2 h3 h4
  · rw [hF.2.1] at ha
    obtain ⟨q1, q2⟩ := hO.2.2.1 k a hk ha
    exact ⟨by rw [ho a q2]; exact q1, by omega⟩
  · rw [hF.2.1] at hq
    obtain ⟨v, c1, c2, c3⟩ := hO.2.2.2 p t hp hq f f1 f2
    have := ht p t hp hq
    refine ⟨v, ?_, by omega, by rw [ho v c2]; exact c3⟩
    rw [hF.2.2.2.1 _ (fun hm => by have := hV _ hm; omega)]
    exact c1
