/-! THE REFERENCE'S HEAP: what its operations leave alone; room; what is dead -/
def rtC (S : cS) : Nat := sumN (tcC S) 1500
def rtN (S : cS) : Nat := sumN (tcN S) 1500
/-- only the reference's heap has changed -/
def hpF (Q : Nat → Prop) (S W : cS) : Prop := sJ W = sJ S ∧ ((∀ b, b ≠ 86 → sQ W b = sQ S b) ∧ ∀ p t, sQ S 86 p = some t → sQ W 86 p = some t) ∧ (∃ l, sS W = sS S ++ l) ∧ (∀ i, i < 10800 → i ≠ 6147 → sI W i = sI S i) ∧ (∀ i, i < 10800 → sV W i = sV S i) ∧ (∀ a, Q a → a ∉ [87, 89, 90] → sA W a = sA S a) ∧ (∀ a, Q a → sL W a = sL S a) ∧ (∀ m z, 108 ≤ m → (sS S)[m - 108]? = some (12, z) → ∀ j, j < 100 → sI W (100 * m + j) = sI S (100 * m + j) ∧ sV W (100 * m + j) = sV S (100 * m + j)) ∧ mu W + rtC S = mu S + rtC W ∧ (sS W).length + rtN S = (sS S).length + rtN W
section
variable {Q : Nat → Prop} {β e5 e6 : Nat → Nat} {F : Nat → Nat → Nat → Prop} {D : List Nat} {Sc Sr S W X : cS} {g0 g1 nn k r t p : Nat}
theorem sumN_up {f g : Nat → Nat} {k n : Nat} (hg : ∀ i, i < n → i ≠ k → g i = f i) (hk : k < n) : sumN g n + f k = sumN f n + g k := by
  have h := sumN_upd (f := f) (g := fun i => if i = k then g k else f i) (k := k) (fun i hi => if_neg hi) hk
  rw [if_pos rfl] at h
  rw [← h]
  congr 1
  exact sumN_congr (fun i hi => by
    by_cases c : i = k
    · rw [c, if_pos rfl]
    · rw [if_neg c, hg i hi c])
theorem hpF.refl (Q : Nat → Prop) (S : cS) : hpF Q S S := ⟨rfl, ⟨fun _ _ => rfl, fun _ _ h => h⟩, ⟨[], (List.append_nil _).symm⟩, fun _ _ _ => rfl, fun _ _ => rfl, fun _ _ _ => rfl, fun _ _ => rfl, fun _ _ _ _ _ _ => ⟨rfl, rfl⟩, rfl, rfl⟩
theorem hpF.trans (h : hpF Q S W) (g : hpF Q W X) : hpF Q S X := by
  obtain ⟨a1, a2, ⟨l, a3⟩, a4, a5, a6, a7, a8, a9, a10⟩ := h
  obtain ⟨b1, b2, ⟨l', b3⟩, b4, b5, b6, b7, b8, b9, b10⟩ := g
  exact ⟨b1.trans a1, ⟨fun b hb => (b2.1 b hb).trans (a2.1 b hb), fun p t h => b2.2 p t (a2.2 p t h)⟩, ⟨l ++ l', by rw [b3, a3, List.append_assoc]⟩, fun i h1 h2 => (b4 i h1 h2).trans (a4 i h1 h2), fun i h1 => (b5 i h1).trans (a5 i h1), fun a h1 h2 => (b6 a h1 h2).trans (a6 a h1 h2), fun a h1 => (b7 a h1).trans (a7 a h1), fun m z hm hs j hj => ⟨(b8 m z hm (sS_old a3 hs) j hj).1.trans (a8 m z hm hs j hj).1, (b8 m z hm (sS_old a3 hs) j hj).2.trans (a8 m z hm hs j hj).2⟩, by omega, by omega⟩
theorem hpF_tF (hQ : tWf Q S) (h : tF r t S W) (hr : r < 1500) (ht : sQ S 86 r = some t) : hpF Q S W := by
  have ho := fun p hp hpr => tF_o (p := p) hQ h hr ht hp hpr
  obtain ⟨v2, v3, v4, v5, v6, v7, n, m, w, _⟩ := hQ.1 r t hr ht
  obtain ⟨_, t108, ⟨N, tN⟩, _⟩ := w
  have hq := fun a ha h87 => tF_Q (a := a) hQ h hr ht ha h87
  obtain ⟨a1, a2, ⟨l, a3⟩, a4, a5, a6, a7, a8, a9, a10⟩ := h
  refine ⟨a1, ⟨fun b _ => by rw [a2], fun p t h => by rw [a2]; exact h⟩, ⟨l, a3⟩, fun i hi _ => (a4 i (fun j hj => by omega)).1, fun i hi => (a4 i (fun j hj => by omega)).2, fun a ha hn => (hq a ha (fun c => hn (by rw [c]; decide))).1, fun a ha => ?_, fun m' z hm hs j hj => a4 _ (fun j' hj' c => ?_), ?_, ?_⟩
  · by_cases c : a = 87
    · rw [c]; exact a6
    · exact (hq a ha c).2
  · have : m' = t := by omega
    rw [this, tN] at hs
    injection hs with hs
    injection hs with hs
    omega
  · have := sumN_up (f := tcC S) (g := tcC W) (k := r) (n := 1500) (fun i hi hir => (ho i hi hir).2.1) hr
    show _ + sumN (tcC S) 1500 = _ + sumN (tcC W) 1500
    omega
  · have := sumN_up (f := tcN S) (g := tcN W) (k := r) (n := 1500) (fun i hi hir => (ho i hi hir).2.2) hr
    show _ + sumN (tcN S) 1500 = _ + sumN (tcN W) 1500
    omega
theorem tc_same (hq : sQ W 86 = sQ S 86) (hs : sS W = sS S) (hv : sV W = sV S) : tcC W = tcC S ∧ tcN W = tcN S := by
  constructor
  · funext p
    unfold tcC tlen r_ref
    rw [hq, hs, hv]
  · funext p
    unfold tcN tlen r_ref
    rw [hq, hs, hv]
theorem hpF_L {L2 : List Nat} (h2 : ∀ a, a ∈ L2 → a ∈ [87, 89, 90]) (h : FrL [6147] L2 [] S W) : hpF Q S W := by
  obtain ⟨e1, e2⟩ := tc_same (S := S) (W := W) (by rw [h.2.2.2.1]) h.2.2.2.2.1 h.2.2.1
  refine ⟨h.1, ⟨fun b _ => by rw [h.2.2.2.1], fun p t hq => by rw [h.2.2.2.1]; exact hq⟩, ⟨[], by rw [h.2.2.2.2.1, List.append_nil]⟩, fun i _ hi => h.I (fun c => hi (List.mem_singleton.mp c)), fun i _ => by rw [h.2.2.1], fun a _ ha => h.A (fun c => ha (h2 a c)), fun a _ => h.2.1 a List.not_mem_nil, fun m z hm _ j _ => ⟨h.I (fun c => by have := List.mem_singleton.mp c; omega), by rw [h.2.2.1]⟩, ?_, ?_⟩
  · unfold rtC; rw [e1, h.2.2.2.2.2.1]
  · unfold rtN; rw [e2, h.2.2.2.2.1]
/-- a thing whose marks alone have changed -/
theorem thE_L {L2 : List Nat} (h2 : ∀ a, a ∈ L2 → a ∈ [87, 89, 90]) (h : FrL [6147] L2 [] S W) (hp : tOk S p t) (h87 : sA W 87 p = sA S 87 p) : thE S W p := by
  obtain ⟨v2, v3, v4, v5, v6, v7, n, m, w, _⟩ := hp
  refine ⟨h87, by rw [h.2.2.2.1], ⟨[], by rw [h.2.2.2.2.1, List.append_nil]⟩, fun t' ht' => ?_⟩
  have e : t' = t := by
    have := w.1
    rw [ht'] at this
    injection this
  subst e
  refine ⟨fun i hi => ⟨h.I (fun c => by have := List.mem_singleton.mp c; have := w.2.1; omega), by rw [h.2.2.1]⟩, fun f v f2 f7 hv => ?_⟩
  have := tRef_v w f2 f7 hv
  exact ⟨h.A (fun c => by have := h2 v c; simp only [List.mem_cons, List.not_mem_nil, or_false] at this; omega), h.2.1 v List.not_mem_nil⟩
theorem tWf_L {L2 : List Nat} (h2 : ∀ a, a ∈ L2 → a ∈ [87, 89, 90]) (h : FrL [6147] L2 [] S W) (hQ : tWf Q S) : tWf Q W := by
  obtain ⟨q1, q2, q3, q4, q5, q6⟩ := hQ
  refine ⟨fun p t hp ht => ?_, fun p q t hp hq ha hb => ?_, fun p q t t' f f' v hp hq hpq ha hb => ?_, fun p t f v hp ha => ?_, q5, fun a ha => by rw [h.2.2.2.2.1]; exact q6 a ha⟩
  · rw [h.2.2.2.1] at ht
    obtain ⟨v2, v3, v4, v5, v6, v7, n, m, w, wd, wl, wk⟩ := q1 p t hp ht
    have hv3 : 108 ≤ v3 := w.2.2.2.2.2.2.2.2.2.2.2.2.2.2.2.2.2.2.1
    refine ⟨v2, v3, v4, v5, v6, v7, n, m, ?_, wd, wl, fun j hj => ?_⟩
    · obtain ⟨h1, h2', h3, h4, h5, h6, h7, h8, h9, k1, k2, k3, k4, k5, k6, hr⟩ := w
      have es : sS W = sS S := h.2.2.2.2.1
      exact ⟨by rw [h.2.2.2.1]; exact h1, h2', by rw [es]; exact h3, by rw [h.2.2.1]; exact h4, by rw [h.2.2.1]; exact h5, by rw [h.2.2.1]; exact h6, by rw [h.2.2.1]; exact h7, by rw [h.2.2.1]; exact h8, by rw [h.2.2.1]; exact h9, isK_S es k1, isK_S es k2, isK_S es k3, isK_S es k4, isK_S es k5, isK_S es k6, hr⟩
    · rw [h.A (fun c => by have := h2 v3 c; simp only [List.mem_cons, List.not_mem_nil, or_false] at this; omega)]
      exact wk j hj
  · rw [h.2.2.2.1] at ha hb
    exact q2 p q t hp hq ha hb
  · rw [h.2.2.2.1] at ha hb
    rw [h.2.2.1]
    exact q3 p q t t' f f' v hp hq hpq ha hb
  · rw [h.2.2.2.1] at ha
    rw [h.2.2.1]
    exact q4 p t f v hp ha
/-- some of the dead are gone for good (all of them, or none) -/
theorem HR_L {L2 D' : List Nat} (h2 : ∀ a, a ∈ L2 → a ∈ [87, 89, 90]) (hF' : FrL [6147] L2 [] Sr W) (h : HR Q β F D Sc Sr g0 g1 nn) (hD : D' = D ∧ sA W 87 = sA Sr 87 ∨ D' = [] ∧ ∀ p, p < 1500 → sA W 87 p = if p ∈ D then 0 else sA Sr 87 p) : HR Q β F D' Sc W g0 g1 nn := by
  obtain ⟨a1, a2, a3, a4, a5, a6, a7, a8, a9, a10, a11⟩ := h
  have hth : ∀ p, p < 1500 → sA Sr 87 p ≠ 0 → sA W 87 p = sA Sr 87 p → thE Sr W p := fun p hp h0 he => by
    obtain ⟨N, q1, _⟩ := r_ok_t (a8 p hp h0).1
    exact thE_L h2 hF' (a9.1 p _ hp q1) he
  have hN : tnE Sr W g0 g1 := ⟨hF'.A (fun c => a10.2.1 (h2 _ c)), hF'.A (fun c => a10.2.2.2 (h2 _ c)), hF'.2.1 17 List.not_mem_nil, hF'.2.1 18 List.not_mem_nil⟩
  have hp87 : ∀ p, p < 1500 → p ∉ D → sA W 87 p = sA Sr 87 p := fun p hp hn => by
    rcases hD with ⟨_, e⟩ | ⟨_, e⟩
    · rw [e]
    · rw [e p hp, if_neg hn]
  have hex : ∀ p, p < 1500 → sA W 87 p ≠ 0 → sA Sr 87 p ≠ 0 ∧ (p ∈ D → p ∈ D') ∧ sA W 87 p = sA Sr 87 p := fun p hp h0 => by
    rcases hD with ⟨d, e⟩ | ⟨d, e⟩
    · rw [e] at h0 ⊢
      exact ⟨h0, fun c => by rw [d]; exact c, rfl⟩
    · by_cases c : p ∈ D
      · rw [e p hp, if_pos c] at h0; exact absurd rfl h0
      · have e' := hp87 p hp c
        rw [e'] at h0
        exact ⟨h0, fun c' => absurd c' c, e'⟩
  have hx : ∀ p, p < 1500 → sA W 87 p ≠ 0 → r_ok W p ∧ rtgs W p = rtgs Sr p := fun p hp h0 => by
    obtain ⟨c1, _, c3⟩ := hex p hp h0
    exact r_ok_E (a8 p hp c1).1 (hth p hp c1 c3)
  have hDD : ∀ x, x ∈ D' → x ∈ D ∧ sA W 87 x ≠ 0 := fun x hx => by
    rcases hD with ⟨d, e⟩ | ⟨d, e⟩
    · rw [d] at hx
      exact ⟨hx, by rw [e]; exact (a5 x hx).2.1⟩
    · rw [d] at hx; cases hx
  refine ⟨fun k hk => ?_, a2, fun p hp h0 => ?_, ?_, fun x hx' => ⟨(a5 x (hDD x hx').1).1, (hDD x hx').2, (a5 x (hDD x hx').1).2.2⟩, ?_, fun x hx' => ?_, fun p hp h0 => ?_, tWf_L h2 hF' a9, a10, fun p hp => ?_⟩
  · obtain ⟨b1, b2, _⟩ := a1 k hk
    exact obR_r (a1 k hk) (hth _ b1 b2 (hp87 _ b1 (fun c => (a5 _ c).2.2 k hk rfl))) hN
  · obtain ⟨c1, c2, _⟩ := hex p hp h0
    exact (a3 p hp c1).imp c2 id
  · rcases hD with ⟨d, _⟩ | ⟨d, _⟩
    · rw [d]; exact a4
    · rw [d]; exact List.nodup_nil
  · rcases hD with ⟨d, _⟩ | ⟨d, _⟩
    · rw [d]
      refine List.Pairwise.imp_of_mem (fun {a b} ha hb hab => ?_) a6
      rw [(hx b (a5 b hb).1 (hDD b (by rw [d]; exact hb)).2).2]
      exact hab
    · rw [d]; exact List.Pairwise.nil
  · rw [(hx x (a5 x (hDD x hx').1).1 (hDD x hx').2).2]
    exact a7 x (hDD x hx').1
  · obtain ⟨y1, y2⟩ := hx p hp h0
    exact ⟨y1, by rw [y2]; exact (a8 p hp (hex p hp h0).1).2⟩
  · by_cases c : p ∈ D
    · rcases hD with ⟨_, e⟩ | ⟨_, e⟩
      · rw [e]; exact a11 p hp
      · exact Or.inl (by rw [e p hp, if_pos c])
    · rw [hp87 p hp c]; exact a11 p hp
/-- registers, the stack and what else no thing is made of has changed -/
def rM (S W : cS) : Prop := sS W = sS S ∧ sQ W 86 = sQ S 86 ∧ sV W = sV S ∧ (∀ i, 10800 ≤ i → sI W i = sI S i) ∧ (∀ a, 108 ≤ a → sA W a = sA S a ∧ sL W a = sL S a) ∧ sA W 87 = sA S 87
theorem rM.refl (S : cS) : rM S S := ⟨rfl, rfl, rfl, fun _ _ => rfl, fun _ _ => ⟨rfl, rfl⟩, rfl⟩
theorem rM.trans (h : rM S W) (g : rM W X) : rM S X := ⟨g.1.trans h.1, g.2.1.trans h.2.1, g.2.2.1.trans h.2.2.1, fun i hi => (g.2.2.2.1 i hi).trans (h.2.2.2.1 i hi), fun a ha => ⟨(g.2.2.2.2.1 a ha).1.trans (h.2.2.2.2.1 a ha).1, (g.2.2.2.2.1 a ha).2.trans (h.2.2.2.2.1 a ha).2⟩, g.2.2.2.2.2.trans h.2.2.2.2.2⟩
theorem rM_I {i : Nat} {v : Int32} (hi : i < 10800) (h : rM S W) : rM S (wI i v W) := h.trans ⟨rfl, rfl, rfl, fun j hj => if_neg (by omega), fun _ _ => ⟨rfl, rfl⟩, rfl⟩
theorem rM_A {a i : Nat} {v : Int32} (ha : a < 108 ∧ a ≠ 87) (h : rM S W) : rM S (wA a i v W) := h.trans ⟨rfl, rfl, rfl, fun _ _ => rfl, fun b hb => ⟨if_neg (by omega), rfl⟩, if_neg (by omega)⟩
theorem rM_L {a i : Nat} {v : Int64} (ha : a < 108) (h : rM S W) : rM S (wL a i v W) := h.trans ⟨rfl, rfl, rfl, fun _ _ => rfl, fun b hb => ⟨rfl, if_neg (by omega)⟩, rfl⟩
theorem rM_Q {a i : Nat} {v : Option Nat} (ha : a ≠ 86) (h : rM S W) : rM S (wQ a i v W) := h.trans ⟨rfl, if_neg (by omega), rfl, fun _ _ => rfl, fun _ _ => ⟨rfl, rfl⟩, rfl⟩
theorem thE_M (h : rM S W) (hp : tOk S p t) : thE S W p := by
  obtain ⟨v2, v3, v4, v5, v6, v7, n, m, w, _⟩ := hp
  obtain ⟨b1, b2, b3, b4, b5, b6⟩ := h
  refine ⟨by rw [b6], by rw [b2], ⟨[], by rw [b1, List.append_nil]⟩, fun t' ht' => ?_⟩
  have e : t' = t := by
    have := w.1
    rw [ht'] at this
    injection this
  subst e
  refine ⟨fun i hi => ⟨b4 _ (by have := w.2.1; omega), by rw [b3]⟩, fun f v f2 f7 hv => b5 v (tRef_v w f2 f7 hv).1⟩
theorem tWf_M (h : rM S W) (hQ : tWf Q S) : tWf Q W := by
  have hth := fun p t (hp : tOk S p t) => thE_M h hp
  obtain ⟨q1, q2, q3, q4, q5, q6⟩ := hQ
  obtain ⟨b1, b2, b3, b4, b5, b6⟩ := h
  refine ⟨fun p t hp ht => ?_, fun p q t hp hq ha hb => ?_, fun p q t t' f f' v hp hq hpq ha hb => ?_, fun p t f v hp ha => ?_, q5, fun a ha => by rw [b1]; exact q6 a ha⟩
  · rw [b2] at ht
    have ok := q1 p t hp ht
    have e := hth p t ok
    obtain ⟨v2, v3, v4, v5, v6, v7, n, m, w, wd, wl, wk⟩ := ok
    obtain ⟨e1, _, _, _, e3, _⟩ := tRef_E w e
    exact ⟨v2, v3, v4, v5, v6, v7, n, m, e1, wd, wl, fun j hj => by rw [e3]; exact wk j hj⟩
  · rw [b2] at ha hb
    exact q2 p q t hp hq ha hb
  · rw [b2] at ha hb
    rw [b3]
    exact q3 p q t t' f f' v hp hq hpq ha hb
  · rw [b2] at ha
    rw [b3]
    exact q4 p t f v hp ha
theorem HR_M (hM : rM Sr W) (hN : tnE Sr W g0 g1) (h : HR Q β F D Sc Sr g0 g1 nn) : HR Q β F D Sc W g0 g1 nn := by
  obtain ⟨a1, a2, a3, a4, a5, a6, a7, a8, a9, a10, a11⟩ := h
  have e87 : sA W 87 = sA Sr 87 := hM.2.2.2.2.2
  have hE : ∀ p, p < 1500 → sA Sr 87 p ≠ 0 → thE Sr W p := fun p hp h0 => by
    obtain ⟨N, q1, _⟩ := r_ok_t (a8 p hp h0).1
    exact thE_M hM (a9.1 p _ hp q1)
  have hx : ∀ p, p < 1500 → sA Sr 87 p ≠ 0 → r_ok W p ∧ rtgs W p = rtgs Sr p := fun p hp h0 => r_ok_E (a8 p hp h0).1 (hE p hp h0)
  refine ⟨fun j hj => obR_r (a1 j hj) (hE _ (a1 j hj).1 (a1 j hj).2.1) hN, a2, fun p hp h0 => a3 p hp (by rw [← e87]; exact h0), a4, fun x hx' => ⟨(a5 x hx').1, by rw [e87]; exact (a5 x hx').2.1, (a5 x hx').2.2⟩, List.Pairwise.imp_of_mem (fun {a b} ha hb hab => ?_) a6, fun x hx' => ?_, fun p hp h0 => ?_, tWf_M hM a9, a10, fun p hp => by rw [e87]; exact a11 p hp⟩
  · rw [(hx b (a5 b hb).1 (a5 b hb).2.1).2]; exact hab
  · rw [(hx x (a5 x hx').1 (a5 x hx').2.1).2]; exact a7 x hx'
  · rw [e87] at h0
    obtain ⟨y1, y2⟩ := hx p hp h0
    exact ⟨y1, by rw [y2]; exact (a8 p hp h0).2⟩
/-- names and work of both hold the same -/
def RtQ (β e5 e6 : Nat → Nat) (Sc Sr : cS) : Prop := (∀ o, o ∈ nmL Sr ∨ o ∈ wkL Sr → o = 0 ∨ ∃ k, lv Sc k ∧ o = β k + 1) ∧ (∀ k, lv Sc k → 0 < e5 k + e6 k → β k + 1 ∈ nmL Sr ∨ β k + 1 ∈ wkL Sr)
theorem HR_dead (h : HR Q β F D Sc Sr g0 g1 nn) (hP : Hp no_e e5 e6 Sc) (hd : ∀ k, lv Sc k → 0 < heldBy Sc k + e5 k + e6 k) (hR : RtQ β e5 e6 Sc Sr) : rDead Sr D := by
  have htg := fun q (hq : lv Sc q) => HR_tg h hP.2.2.2.1 (hP.1 q hq.1 hq.2.1) hq
  obtain ⟨a1, a2, a3, a4, a5, a6, a7, a8, a9, a10, a11⟩ := h
  refine ⟨a4, fun x hx => ?_, fun j hj1 hj2 hj x hx hm => ?_, a6, a7, fun p hp1 hp2 hp => ?_⟩
  · obtain ⟨x1, x2, x3⟩ := a5 x hx
    refine ⟨x1, x2, ?_⟩
    rcases Nat.eq_zero_or_pos (rRoot Sr x) with e | e
    · exact e
    · rcases hR.1 _ (root_pos.mp e) with h | ⟨k, hk, h⟩
      · omega
      · exact absurd (by omega) (x3 k hk)
  · rcases a3 j hj1 hj2 with h | ⟨k, hk, e⟩
    · exact hj h
    · subst e
      obtain ⟨t, ht, e⟩ := (htg k hk (x + 1)).mp hm
      rcases hP.2.2.2.1 k hk.1 hk.2.1 hk.2.2 t ht with h | h
      · rw [h] at e
        exact absurd e (by unfold bm; rw [if_pos rfl]; omega)
      · unfold bm at e
        rw [if_neg (by omega)] at e
        exact (a5 x hx).2.2 t h (by omega)
  · rcases a3 p hp1 hp2 with h | ⟨k, hk, e⟩
    · exact absurd h hp
    · subst e
      have hpos := hd k hk
      by_cases h6 : 0 < e5 k + e6 k
      · exact Or.inl (root_pos.mpr (hR.2 k hk h6))
      · have : 0 < heldBy Sc k := by omega
        obtain ⟨j, hj1, hj2⟩ := sumN_ex this
        by_cases hc : sA Sc 3 j = 0
        · rw [if_pos hc] at hj2; omega
        · rw [if_neg hc] at hj2
          have hm := List.count_pos_iff.mp hj2
          have hj0 : 1 ≤ j := by
            rcases Nat.eq_zero_or_pos j with e | e
            · subst e
              obtain ⟨_, _, _, _, _, _, _, _, _, _, q⟩ := hP.2.1
              exact absurd q hc
            · exact e
          have hlj : lv Sc j := ⟨hj0, by omega, hc⟩
          obtain ⟨b1, b2, _⟩ := a1 j hlj
          refine Or.inr ⟨β j, b1, b2, fun h => (a5 _ h).2.2 j hlj rfl, (htg j hlj _).mpr ⟨k, hm, ?_⟩⟩
          unfold bm
          rw [if_neg (by have := hk.1; omega)]
/-- as many live in both -/
theorem HR_live (h : HR Q β F D Sc Sr g0 g1 nn) (h0 : sA Sc 3 0 = 0) : nLive Sc = sumN (fun p => if sA Sr 87 p ≠ 0 ∧ p ∉ D then 1 else 0) 1500 := by
  obtain ⟨a1, a2, a3, a4, a5, _⟩ := h
  have hh : ∀ x, x < 1501 → sA Sc 3 x ≠ 0 → lv Sc x := fun x hx hP => ⟨by
    rcases Nat.eq_zero_or_pos x with e | e
    · subst e; exact absurd h0 hP
    · exact e, by omega, hP⟩
  have := same_count (P := fun k => decide (sA Sc 3 k ≠ 0)) (Q := fun p => decide (sA Sr 87 p ≠ 0 ∧ p ∉ D)) (β := β) (n := 1501) (m := 1500) ?_ ?_ ?_
  · have e : nLive Sc = sumN (fun k => if decide (sA Sc 3 k ≠ 0) = true then 1 else 0) 1501 := sumN_congr (fun k _ => by
      show (if sA Sc 3 k = 0 then 0 else 1) = if decide (sA Sc 3 k ≠ 0) = true then 1 else 0
      rw [← if_dec]
      by_cases h : sA Sc 3 k = 0
      · rw [if_pos h, if_neg (fun c => c h)]
      · rw [if_neg h, if_pos h])
    rw [e, this]
    exact sumN_congr (fun p _ => if_dec.symm)
  · intro k hk hP
    have hl := hh k hk (of_decide_eq_true hP)
    obtain ⟨b1, b2, _⟩ := a1 k hl
    exact ⟨b1, decide_eq_true ⟨b2, fun c => (a5 _ c).2.2 k hl rfl⟩⟩
  · intro j k hj hk hPj hPk e
    exact a2 j k (hh j hj (of_decide_eq_true hPj)) (hh k hk (of_decide_eq_true hPk)) e
  · intro p hp hQ
    obtain ⟨h1, h2⟩ := of_decide_eq_true hQ
    rcases a3 p hp h1 with h | ⟨k, hk, e⟩
    · exact absurd h h2
    · exact ⟨k, by have := hk.2.1; omega, decide_eq_true hk.2.2, e⟩
theorem sumN_full {f : Nat → Nat} : ∀ {n : Nat}, (∀ k, k < n → f k ≤ 1) → sumN f n = n → ∀ k, k < n → f k = 1 := by
  intro n
  induction n with
  | zero => intro _ _ k hk; omega
  | succ n ih =>
    intro hf hs k hk
    have hs' : sumN f n + f n = n + 1 := hs
    have h1 := hf n (by omega)
    have h2 := sumN_le (f := f) (c := 1) (n := n) (fun k hk => hf k (by omega))
    by_cases c : k = n
    · subst c; omega
    · exact ih (fun k hk => hf k (by omega)) (by omega) k (by omega)
theorem sumN_1s {f : Nat → Nat} : ∀ {n : Nat}, (∀ k, k < n → f k = 1) → sumN f n = n := by
  intro n
  induction n with
  | zero => intro _; rfl
  | succ n ih =>
    intro hf
    show sumN f n + f n = n + 1
    rw [ih (fun k hk => hf k (by omega)), hf n (by omega)]
theorem HR_full (h : HR Q β F D Sc Sr g0 g1 nn) (h0 : sA Sc 3 0 = 0) (hn : nLive Sc = 1500) : ∀ p, p < 1500 → sA Sr 87 p ≠ 0 := fun p hp => by
  have hl := HR_live h h0
  rw [hn] at hl
  have := sumN_full (fun k _ => by split <;> omega) hl.symm p hp
  split at this
  · rename_i c; exact c.1
  · cases this
theorem HR_room (h : HR Q β F [] Sc Sr g0 g1 nn) (h0 : sA Sc 3 0 = 0) (hn : nLive Sc < 1500) : ¬ ∀ p, p < 1500 → sA Sr 87 p ≠ 0 := fun hc => by
  have hl := HR_live h h0
  rw [sumN_1s (fun k hk => if_pos ⟨hc k hk, List.not_mem_nil⟩)] at hl
  omega
end
