/-! CODE OF THE CLASS: what the words at a place say; its program as the parser goes on -/
def cvH (β : Nat → Nat) (n k : Nat) : Int64 := if qK β n k = 61 then 1152921504606846976 else if qK β n k = 5 then e_H (fun i => β (qP β n k + 1 + i)) (qE β n k - qP β n k - 2) else 2305843009213693952
def cvL (β : Nat → Nat) (n k : Nat) : Int64 := if qK β n k = 4 then lN (tk_val β (qP β n k) (qE β n k - qP β n k)) else if qK β n k = 5 then e_L (fun i => β (qP β n k + 1 + i)) (qE β n k - qP β n k - 2) else if qK β n k = 62 then 1 else 0
/-- q is the number of the name that token k is -/
def qn (β : Nat → Nat) (n : Nat) (S : cS) (k q : Nat) : Prop := nm_is S β (qP β n k) (qE β n k - qP β n k) q
def bi (q : Nat) : Nat := if 24 ≤ q ∧ q < 34 then q - 23 else 0
def tgC (t : Nat) : Nat := if t = 60 ∨ t = 62 then 4 else if t = 63 then 16 else t
theorem tgC_id {t : Nat} (h : t ≤ 59) : tgC t = t := by
  unfold tgC
  rw [if_neg (by omega), if_neg (by omega)]
/-- the constant of a step: 63 is none without a token -/
def coH (β : Nat → Nat) (n : Nat) (o : Op) : Int64 := if o.1 = 63 then 1152921504606846976 else cvH β n (o.2.1.headD 0)
def coL (β : Nat → Nat) (n : Nat) (o : Op) : Int64 := if o.1 = 63 then 0 else cvL β n (o.2.1.headD 0)
def oC (β : Nat → Nat) (n : Nat) (S : cS) (z c fb a : Nat) (o : Op) : Prop :=
  (o.1 ≠ 61 → sA S 24 a = nI (tgC o.1)) ∧
  (o.1 = 16 ∨ o.1 = 63 → ∃ i, i < c ∧ sA S 24 (a + 1) = nI i ∧ sL S 25 i = coH β n o ∧ sL S 26 i = coL β n o) ∧
  (18 ≤ o.1 ∧ o.1 ≤ 21 → sA S 24 (a + 1) = Int32.ofInt (-1) ∧ ∃ q, q < z ∧ qn β n S (o.2.1.headD 0) q ∧ sA S 24 (a + 2) = nI q ∧ (o.1 = 21 → sA S 24 (a + 3) = nI (bi q))) ∧
  ((4 ≤ o.1 ∧ o.1 ≤ 7) ∨ o.1 = 10 ∨ o.1 = 12 ∨ o.1 = 62 → ∃ t : Nat, sA S 24 (a + 1) = nI t ∧ (t : Int) = a + o.2.2.1) ∧
  (44 ≤ o.1 ∧ o.1 ≤ 48 → ∃ q, q < z ∧ qn β n S (o.2.1.headD 0) q ∧ sA S 24 (a + 1) = nI q) ∧
  (o.1 = 1 ∨ o.1 = 2 ∨ o.1 = 3 ∨ o.1 = 13 ∨ o.1 = 15 ∨ o.1 = 24 ∨ o.1 = 49 ∨ o.1 = 50 ∨ o.1 = 51 → sA S 24 (a + 1) = nI (o.2.1.headD 0)) ∧
  (o.1 = 22 → sA S 24 (a + 1) = nI (fb + o.2.1.headD 0)) ∧
  (o.1 = 23 → sA S 24 (a + 2) = nI (o.2.1.getD 1 0) ∧ sA S 24 (a + 3) = nI (o.2.1.length - 2) ∧ 2 ≤ o.2.1.length ∧ (∃ q, q < z ∧ qn β n S (o.2.1.headD 0) q ∧ sA S 24 (a + 1) = nI q) ∧ ∀ i, i + 2 < o.2.1.length → ∃ q, q < z ∧ qn β n S (o.2.1.getD (2 + i) 0) q ∧ sA S 24 (a + 4 + i) = nI q)
def lsC (β : Nat → Nat) (n : Nat) (S : cS) (z c fb : Nat) : Nat → List Op → Prop
  | _, [] => True
  | a, o :: r => oC β n S z c fb a o ∧ lsC β n S z c fb (a + lC o) r
theorem lsC_app {β : Nat → Nat} {n : Nat} {S : cS} {z c fb : Nat} {o2 : List Op} : ∀ (o1 : List Op) (a : Nat), lsC β n S z c fb a (o1 ++ o2) ↔ lsC β n S z c fb a o1 ∧ lsC β n S z c fb (a + wC o1) o2 := by
  intro o1
  induction o1 with
  | nil => intro a; exact ⟨fun h => ⟨trivial, h⟩, fun h => h.2⟩
  | cons o r ih =>
    intro a
    show oC β n S z c fb a o ∧ lsC β n S z c fb (a + lC o) (r ++ o2) ↔ (oC β n S z c fb a o ∧ lsC β n S z c fb (a + lC o) r) ∧ lsC β n S z c fb (a + (lC o + wC r)) o2
    rw [ih, Nat.add_assoc, and_assoc]
/-- the words of a step stay -/
def sameW (S S1 : cS) (z c z1 c1 lo hi : Nat) : Prop := z ≤ z1 ∧ c ≤ c1 ∧ (∀ i, lo ≤ i → i < hi → sA S1 24 i = sA S 24 i) ∧ (∀ i, i < c → sL S1 25 i = sL S 25 i ∧ sL S1 26 i = sL S 26 i) ∧ ∀ i, i < z → sL S1 17 i = sL S 17 i ∧ sL S1 18 i = sL S 18 i
theorem qn_mono {β : Nat → Nat} {n : Nat} {S S1 : cS} {k q z : Nat} (hq : q < z) (hN : ∀ i, i < z → sL S1 17 i = sL S 17 i ∧ sL S1 18 i = sL S 18 i) (h : qn β n S k q) : qn β n S1 k q := ⟨(hN q hq).1.trans h.1, (hN q hq).2.trans h.2⟩
theorem lC_n {o : Op} (h : 18 ≤ o.1 ∧ o.1 ≤ 20) : lC o = 3 := by
  unfold lC
  rw [if_neg (by omega), if_neg (by omega), if_pos (by omega)]
theorem lC_21 {o : Op} (h : o.1 = 21) : lC o = 4 := by
  unfold lC
  rw [if_neg (by omega), if_pos h]
theorem lC_23 {o : Op} (h : o.1 = 23) : lC o = 2 + o.2.1.length := by
  unfold lC
  rw [if_neg (by omega), if_neg (by omega), if_neg (by omega), if_pos h]
theorem lC_2 {o : Op} (h : (1 ≤ o.1 ∧ o.1 ≤ 7) ∨ o.1 = 10 ∨ o.1 = 12 ∨ o.1 = 13 ∨ o.1 = 15 ∨ o.1 = 16 ∨ o.1 = 22 ∨ o.1 = 24 ∨ (44 ≤ o.1 ∧ o.1 ≤ 60) ∨ o.1 = 62 ∨ o.1 = 63) : lC o = 2 := by
  unfold lC
  rw [if_neg (by omega), if_neg (by omega), if_neg (by omega), if_neg (by omega), if_neg (by omega)]
theorem lC_1 {o : Op} (h : o.1 ≠ 61) : 1 ≤ lC o := by
  unfold lC
  rw [if_neg h]
  repeat' split
  all_goals omega
theorem oC_mono {β : Nat → Nat} {n : Nat} {S S1 : cS} {z c z1 c1 fb a hi : Nat} {o : Op} (hs : sameW S S1 z c z1 c1 a hi) (hh : a + lC o ≤ hi) (h : oC β n S z c fb a o) : oC β n S1 z1 c1 fb a o := by
  obtain ⟨s1, s2, s3, s4, s5⟩ := hs
  obtain ⟨h1, h2, h3, h4, h5, h6, h7, h8⟩ := h
  refine ⟨fun ht => ?_, fun ht => ?_, fun ht => ?_, fun ht => ?_, fun ht => ?_, fun ht => ?_, fun ht => ?_, fun ht => ?_⟩
  · have := lC_1 ht
    rw [s3 a (Nat.le_refl _) (by omega)]; exact h1 ht
  · have := lC_2 (o := o) (by omega)
    obtain ⟨i, i1, i2, i3, i4⟩ := h2 ht
    exact ⟨i, by omega, by rw [s3 _ (by omega) (by omega)]; exact i2, (s4 i i1).1.trans i3, (s4 i i1).2.trans i4⟩
  · have hl : 3 ≤ lC o ∧ (o.1 = 21 → lC o = 4) := by
      by_cases h21 : o.1 = 21
      · rw [lC_21 h21]; omega
      · rw [lC_n (by omega)]; omega
    obtain ⟨i1, q, i2, i3, i4, i5⟩ := h3 ht
    exact ⟨by rw [s3 _ (by omega) (by omega)]; exact i1, q, by omega, qn_mono i2 s5 i3, by rw [s3 _ (by omega) (by omega)]; exact i4, fun h21 => by have := hl.2 h21; rw [s3 _ (by omega) (by omega)]; exact i5 h21⟩
  · have := lC_2 (o := o) (by omega)
    obtain ⟨t, i1, i2⟩ := h4 ht
    exact ⟨t, by rw [s3 _ (by omega) (by omega)]; exact i1, i2⟩
  · have := lC_2 (o := o) (by omega)
    obtain ⟨q, i1, i2, i3⟩ := h5 ht
    exact ⟨q, by omega, qn_mono i1 s5 i2, by rw [s3 _ (by omega) (by omega)]; exact i3⟩
  · have := lC_2 (o := o) (by omega)
    rw [s3 _ (by omega) (by omega)]; exact h6 ht
  · have := lC_2 (o := o) (by omega)
    rw [s3 _ (by omega) (by omega)]; exact h7 ht
  · have hl := lC_23 ht
    obtain ⟨i1, i2, i3, ⟨q, j1, j2, j3⟩, i5⟩ := h8 ht
    refine ⟨by rw [s3 _ (by omega) (by omega)]; exact i1, by rw [s3 _ (by omega) (by omega)]; exact i2, i3, ⟨q, by omega, qn_mono j1 s5 j2, by rw [s3 _ (by omega) (by omega)]; exact j3⟩, fun i hi => ?_⟩
    obtain ⟨q, j1, j2, j3⟩ := i5 i hi
    exact ⟨q, by omega, qn_mono j1 s5 j2, by rw [s3 _ (by omega) (by omega)]; exact j3⟩
theorem lsC_mono {β : Nat → Nat} {n : Nat} {S S1 : cS} {z c z1 c1 fb hi : Nat} : ∀ (os : List Op) (a : Nat), sameW S S1 z c z1 c1 a hi → a + wC os ≤ hi → lsC β n S z c fb a os → lsC β n S1 z1 c1 fb a os := by
  intro os
  induction os with
  | nil => intro a _ _ _; trivial
  | cons o r ih =>
    intro a hs hh h
    have e : wC (o :: r) = lC o + wC r := rfl
    exact ⟨oC_mono hs (by omega) h.1, ih _ ⟨hs.1, hs.2.1, fun i h1 h2 => hs.2.2.1 i (by omega) h2, hs.2.2.2⟩ (by omega) h.2⟩
/-- places that wait for their name's scope -/
def fxC (S : cS) (cur : Nat) : Nat → Nat → List Op → Prop
  | _, _, [] => True
  | f, a, o :: r => (nmO o = 1 → sA S 41 f = nI a ∧ sA S 42 f = nI cur) ∧ fxC S cur (f + nmO o) (a + lC o) r
theorem fxC_app {S : cS} {cur : Nat} {o2 : List Op} : ∀ (o1 : List Op) (f a : Nat), fxC S cur f a (o1 ++ o2) ↔ fxC S cur f a o1 ∧ fxC S cur (f + nmN o1) (a + wC o1) o2 := by
  intro o1
  induction o1 with
  | nil => intro f a; exact ⟨fun h => ⟨trivial, h⟩, fun h => h.2⟩
  | cons o r ih =>
    intro f a
    show (nmO o = 1 → sA S 41 f = nI a ∧ sA S 42 f = nI cur) ∧ fxC S cur (f + nmO o) (a + lC o) (r ++ o2) ↔ ((nmO o = 1 → sA S 41 f = nI a ∧ sA S 42 f = nI cur) ∧ fxC S cur (f + nmO o) (a + lC o) r) ∧ fxC S cur (f + (nmO o + nmN r)) (a + (lC o + wC r)) o2
    rw [ih, ← Nat.add_assoc, ← Nat.add_assoc, and_assoc]
theorem fxC_mono {S S1 : cS} {cur hi : Nat} : ∀ (os : List Op) (f a : Nat), (∀ i, i < hi → sA S1 41 i = sA S 41 i ∧ sA S1 42 i = sA S 42 i) → f + nmN os ≤ hi → fxC S cur f a os → fxC S1 cur f a os := by
  intro os
  induction os with
  | nil => intro f a _ _ _; trivial
  | cons o r ih =>
    intro f a hs hh h
    have e : nmN (o :: r) = nmO o + nmN r := rfl
    exact ⟨fun h1 => by rw [(hs f (by omega)).1, (hs f (by omega)).2]; exact h.1 h1, ih _ _ hs (by omega) h.2⟩
/-- the class's program: top a, constants c, places that wait f, scope cur -/
def eS (S : cS) (a c f cur : Nat) : Prop := sI S 2307 = nI a ∧ sI S 2308 = nI c ∧ sI S 3214 = nI f ∧ sI S 3211 = nI cur ∧ cur < 300
def fxN (cur : Nat) (os : List Op) : Nat := if cur = 0 then 0 else nmN os
theorem fxN_app (cur : Nat) (a b : List Op) : fxN cur (a ++ b) = fxN cur a + fxN cur b := by
  unfold fxN
  split
  · rfl
  · exact nmN_app a b
theorem fxN_le (cur : Nat) (os : List Op) : fxN cur os ≤ nmN os := by
  unfold fxN
  split <;> omega
def xI : List Nat := [3103, 3104, 3105, 3109, 3113, 1607, 2307, 2308, 3214, 4403, 4404]
def kP (a c f : Nat) (S S1 : cS) : Prop := (∀ i, i < a → sA S1 24 i = sA S 24 i) ∧ (∀ i, i < c → sL S1 25 i = sL S 25 i ∧ sL S1 26 i = sL S 26 i) ∧ ∀ i, i < f → sA S1 41 i = sA S 41 i ∧ sA S1 42 i = sA S 42 i
def xF (a c f : Nat) (S S1 : cS) : Prop := FrT xI lxJ [19, 20, 24, 41, 42] [17, 18, 25, 26] S S1 ∧ kP a c f S S1 ∧ nK S S1
theorem xF_trans {a c f a1 c1 f1 : Nat} {S S1 S2 : cS} (h : xF a c f S S1) (g : xF a1 c1 f1 S1 S2) (ha : a ≤ a1) (hc : c ≤ c1) (hf : f ≤ f1) : xF a c f S S2 :=
  ⟨h.1.trans g.1, ⟨fun i hi => (g.2.1.1 i (by omega)).trans (h.2.1.1 i hi), fun i hi => ⟨(g.2.1.2.1 i (by omega)).1.trans (h.2.1.2.1 i hi).1, (g.2.1.2.1 i (by omega)).2.trans (h.2.1.2.1 i hi).2⟩, fun i hi => ⟨(g.2.1.2.2 i (by omega)).1.trans (h.2.1.2.2 i hi).1, (g.2.1.2.2 i (by omega)).2.trans (h.2.1.2.2 i hi).2⟩⟩, nK_trans h.2.2 g.2.2⟩
theorem xF_lx {S S1 : cS} {a c f : Nat} (h : FrT lxI lxJ [19, 20] [17, 18] S S1) (hn : nK S S1) : xF a c f S S1 :=
  ⟨h.mono (by decide) (fun _ h => h) (by decide) (by decide), ⟨fun i _ => by rw [h.2.2.1 24 (by decide)], fun i _ => ⟨by rw [h.2.2.2.1 25 (by decide)], by rw [h.2.2.2.1 26 (by decide)]⟩, fun i _ => ⟨by rw [h.2.2.1 41 (by decide)], by rw [h.2.2.1 42 (by decide)]⟩⟩, hn⟩
theorem eS_lx {S S1 : cS} {a c f cur : Nat} (h : FrT lxI lxJ [19, 20] [17, 18] S S1) (g : eS S a c f cur) : eS S1 a c f cur := ⟨(h.1 _ (by decide)).trans g.1, (h.1 _ (by decide)).trans g.2.1, (h.1 _ (by decide)).trans g.2.2.1, (h.1 _ (by decide)).trans g.2.2.2.1, g.2.2.2.2⟩
/-- the steps os stand at a -/
def cd (β : Nat → Nat) (n : Nat) (S : cS) (fb a : Nat) (os : List Op) : Prop := ∃ z c, sI S 1607 = nI z ∧ z ≤ 4096 ∧ sI S 2308 = nI c ∧ c ≤ 5200 ∧ lsC β n S z c fb a os
theorem cd_mono {β : Nat → Nat} {n : Nat} {S S1 : cS} {fb a a1 c c1 f : Nat} {os : List Op} (h : cd β n S fb a os) (hF : xF a1 c f S S1) (ha : a + wC os ≤ a1) (hc : sI S 2308 = nI c) (hcM : c ≤ 5200) (hc1 : sI S1 2308 = nI c1) (hc1M : c1 ≤ 5200) (hcc : c ≤ c1) : cd β n S1 fb a os := by
  obtain ⟨z, c0, g1, g2, g3, g4, g5⟩ := h
  obtain ⟨w, w1, h1, h2, h3, h4, h5⟩ := hF.2.2
  obtain rfl : z = w := nI_inj (by omega) (by omega) (g1.symm.trans h1)
  obtain rfl : c0 = c := nI_inj (by omega) (by omega) (g3.symm.trans hc)
  exact ⟨w1, c1, h2, h4, hc1, hc1M, lsC_mono os a (hi := a1) ⟨h3, hcc, fun i _ h7 => hF.2.1.1 i h7, hF.2.1.2.1, h5⟩ ha g5⟩
theorem cd_app {β : Nat → Nat} {n : Nat} {S : cS} {fb a : Nat} {o1 o2 : List Op} (h : cd β n S fb a o1) (g : cd β n S fb (a + wC o1) o2) : cd β n S fb a (o1 ++ o2) := by
  obtain ⟨z, c, g1, g2, g3, g4, g5⟩ := h
  obtain ⟨y, b, k1, k2, k3, k4, k5⟩ := g
  obtain rfl : z = y := nI_inj (by omega) (by omega) (g1.symm.trans k1)
  obtain rfl : c = b := nI_inj (by omega) (by omega) (g3.symm.trans k3)
  exact ⟨z, c, g1, g2, g3, g4, (lsC_app o1 a).mpr ⟨g5, k5⟩⟩
def tl1 (g : Nat) : Nat := if g = 1 then 3 else if g = 2 then 1 else 2
/-- the class has read an expression: from token k to k1, its steps are put -/
def eOK (A : Nat → Int32) (n : Nat) (S0 : cS) (z0 fb : Nat) (S : cS) (a c f cur k1 g : Nat) (os : List Op) (S1 : cS) : Prop := cP A n S0 z0 k1 S1 ∧ eS S1 (a + wC os) (c + cnN os) (f + fxN cur os) cur ∧ cd (by1 A) n S1 fb a os ∧ (cur ≠ 0 → fxC S1 cur f a os) ∧ xF a c f S S1 ∧ sI S1 4403 = nI g ∧ (g ≠ 0 → sI S1 4404 = nI (a + wC os - tl1 g))
/-- the latest target, if it is one, stands at a or behind -/
def tgA (S : cS) (a a1 : Nat) : Prop := sI S 4403 = nI 0 ∨ ∃ g tp, sI S 4403 = nI g ∧ 1 ≤ g ∧ g ≤ 3 ∧ sI S 4404 = nI tp ∧ a ≤ tp ∧ tp < a1 ∧ (g = 1 → tp + 3 ≤ a1 ∧ ∃ q, q < 4096 ∧ sA S 24 (tp + 2) = nI q)
/-- or there is a fault on line l -/
def eBD (A : Nat → Int32) (n : Nat) (S0 : cS) (z0 : Nat) (S : cS) (a c f cur l M Mc Mf : Nat) (S1 : cS) : Prop := cB A n S0 z0 l S1 ∧ (∃ a1 c1 f1, eS S1 a1 c1 f1 cur ∧ a ≤ a1 ∧ a1 ≤ M ∧ c ≤ c1 ∧ c1 ≤ Mc ∧ f ≤ f1 ∧ f1 ≤ Mf ∧ tgA S1 a a1) ∧ xF a c f S S1
/-- one behind the other -/
theorem eOK_app {A : Nat → Int32} {n z0 fb a c f cur k1 k2 g1 g2 : Nat} {S0 S S1 S2 : cS} {o1 o2 : List Op} (h : eOK A n S0 z0 fb S a c f cur k1 g1 o1 S1) (g : eOK A n S0 z0 fb S1 (a + wC o1) (c + cnN o1) (f + fxN cur o1) cur k2 g2 o2 S2) (hc : c + cnN o1 + cnN o2 ≤ 5200) : eOK A n S0 z0 fb S a c f cur k2 g2 (o1 ++ o2) S2 := by
  obtain ⟨a1, a2, a3, a4, a5, a6, a7⟩ := h
  obtain ⟨b1, b2, b3, b4, b5, b6, b7⟩ := g
  refine ⟨b1, by rw [wC_app, cnN_app, fxN_app, ← Nat.add_assoc, ← Nat.add_assoc, ← Nat.add_assoc]; exact b2, cd_app (cd_mono a3 b5 (Nat.le_refl _) a2.2.1 (by omega) b2.2.1 (by omega) (by omega)) b3, fun hc => ?_, xF_trans a5 b5 (by omega) (by omega) (by omega), b6, fun hg => by rw [wC_app, ← Nat.add_assoc]; exact b7 hg⟩
  have e : fxN cur o1 = nmN o1 := if_neg hc
  rw [e] at b4 b5
  exact (fxC_app o1 f a).mpr ⟨fxC_mono o1 f a b5.2.1.2.2 (Nat.le_refl _) (a4 hc), b4 hc⟩
theorem eBD_app {A : Nat → Int32} {n z0 fb a c f cur k1 g1 l M Mc Mf : Nat} {S0 S S1 S2 : cS} {o1 : List Op} (h : eOK A n S0 z0 fb S a c f cur k1 g1 o1 S1) (g : eBD A n S0 z0 S1 (a + wC o1) (c + cnN o1) (f + fxN cur o1) cur l M Mc Mf S2) : eBD A n S0 z0 S a c f cur l M Mc Mf S2 := by
  obtain ⟨a1, a2, a3, a4, a5, a6, a7⟩ := h
  obtain ⟨b1, ⟨x, y, w, b2, b3, b4, b5, b6, b7, b8, b10⟩, b9⟩ := g
  refine ⟨b1, ⟨x, y, w, b2, by omega, b4, by omega, b6, by omega, b8, b10.imp id (fun h => ?_)⟩, xF_trans a5 b9 (by omega) (by omega) (by omega)⟩
  obtain ⟨g, tp, h1, h2, h3, h4, h5, h6⟩ := h
  exact ⟨g, tp, h1, h2, h3, h4, by omega, h6⟩
theorem eBD_le {A : Nat → Int32} {n z0 a c f cur l M Mc Mf M1 Mc1 Mf1 : Nat} {S0 S S1 : cS} (h : eBD A n S0 z0 S a c f cur l M Mc Mf S1) (h1 : M ≤ M1) (h2 : Mc ≤ Mc1) (h3 : Mf ≤ Mf1) : eBD A n S0 z0 S a c f cur l M1 Mc1 Mf1 S1 := by
  obtain ⟨b1, ⟨x, y, w, b2, b3, b4, b5, b6, b7, b8, b10⟩, b9⟩ := h
  exact ⟨b1, ⟨x, y, w, b2, b3, by omega, b5, by omega, b7, by omega, b10⟩, b9⟩
/-- a fault, and a step of the lexer that changes nothing -/
theorem eBD_lx {A : Nat → Int32} {n z0 a c f cur l M Mc Mf : Nat} {S0 S S1 S2 : cS} (h : eBD A n S0 z0 S a c f cur l M Mc Mf S1) (g : cB A n S0 z0 l S2) (hF : FrT lxI lxJ [19, 20] [17, 18] S1 S2) (hn : nK S1 S2) : eBD A n S0 z0 S a c f cur l M Mc Mf S2 := by
  obtain ⟨b1, ⟨x, y, w, b2, b3, b4, b5, b6, b7, b8, b10⟩, b9⟩ := h
  refine ⟨g, ⟨x, y, w, eS_lx hF b2, b3, b4, b5, b6, b7, b8, ?_⟩, xF_trans b9 (xF_lx (a := a) (c := c) (f := f) hF hn) (Nat.le_refl _) (Nat.le_refl _) (Nat.le_refl _)⟩
  unfold tgA
  rw [hF.1 4403 (by decide), hF.1 4404 (by decide), hF.2.2.1 24 (by decide)]
  exact b10
/-- a fault, and words that are put -/
theorem eBD_w {A : Nat → Int32} {n z0 a c f cur l M Mc Mf a1 w : Nat} {S0 S S1 S2 : cS} (h : eBD A n S0 z0 S a c f cur l M Mc Mf S1) (ha : sI S1 2307 = nI a1) (hM : M + w ≤ 2 ^ 30) (ha1 : a1 ≤ 2 ^ 30) (hF : FrT [2307, 4403, 4404] [] [24] [] S1 S2) (h24 : ∀ i, i < a → sA S2 24 i = sA S1 24 i) (h7 : sI S2 2307 = nI (a1 + w)) (ht : tgA S2 a (a1 + w)) : eBD A n S0 z0 S a c f cur l (M + w) Mc Mf S2 := by
  obtain ⟨b1, ⟨x, y, w2, b2, b3, b4, b5, b6, b7, b8, b10⟩, b9⟩ := h
  obtain rfl : x = a1 := nI_inj (by omega) (by omega) (b2.1.symm.trans ha)
  refine ⟨cB_S b1 (hF.1 _ (by decide)) (hF.1 _ (by decide)) (hF.1 _ (by decide)) (fun a ha => hF.2.2.1 a (fun hc => ?_)) (fun a ha => hF.2.2.2.1 a (fun hc => by cases hc)), ⟨x + w, y, w2, ⟨h7, (hF.1 _ (by decide)).trans b2.2.1, (hF.1 _ (by decide)).trans b2.2.2.1, (hF.1 _ (by decide)).trans b2.2.2.2.1, b2.2.2.2.2⟩, by omega, by omega, b5, b6, b7, b8, ht⟩, xF_trans (a1 := a) (c1 := c) (f1 := f) b9 ⟨hF.mono (by decide) (fun _ h => by cases h) (by decide) (fun _ h => by cases h), ⟨h24, fun i _ => ⟨by rw [hF.2.2.2.1 25 (by decide)], by rw [hF.2.2.2.1 26 (by decide)]⟩, fun i _ => ⟨by rw [hF.2.2.1 41 (by decide)], by rw [hF.2.2.1 42 (by decide)]⟩⟩, cB_nK b1 (hF.1 _ (by decide)) (fun a ha => hF.2.2.2.1 a (fun hc => by cases hc))⟩ (Nat.le_refl _) (Nat.le_refl _) (Nat.le_refl _)⟩
  rw [List.mem_singleton] at hc
  subst hc
  exact absurd ha (by decide)
