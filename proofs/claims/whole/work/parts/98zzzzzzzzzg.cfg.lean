/-! THE MACHINES, STEP BY STEP: levels of calls; what both machines are between two steps -/
/-- a level: the reference's code; where its values begin; its frame, what it makes, the tries open when it began; both places; height, tries, marks and scope -/
abbrev Lv : Type := Nat × Nat × Nat × Nat × Nat × (Nat × Nat) × (Nat × Nat × LL)
def vM (x : Lv) : Nat := x.1
def vB (x : Lv) : Nat := x.2.1
def vF (x : Lv) : Nat := x.2.2.1
def vD (x : Lv) : Nat := x.2.2.2.1
def vT (x : Lv) : Nat := x.2.2.2.2.1
def vP (x : Lv) : Nat := x.2.2.2.2.2.1.1
def vQ (x : Lv) : Nat := x.2.2.2.2.2.1.2
def vS (x : Lv) : Nat × Nat × LL := x.2.2.2.2.2.2
def vH (x : Lv) : Nat := (vS x).1
def vU (x : Lv) : Nat := (vS x).2.1
def vL (x : Lv) : LL := (vS x).2.2
/-- a level at other places, with another label -/
def vAt (x : Lv) (p q : Nat) (s : Nat × Nat × LL) : Lv := (vM x, vB x, vF x, vD x, vT x, (p, q), s)
def tms : List (Nat × Nat) → Nat
  | [] => 0
  | y :: r => (if y.2 = 0 then 1 else 0) + tms r
def srt : List (Nat × Nat) → Prop
  | [] => True
  | y :: r => lob (r, 0) ≤ y.1 ∧ srt r
def lbo (s : Nat × Nat × LL) : Prop := s.2.1 = tms s.2.2.1 ∧ srt s.2.2.1 ∧ lob s.2.2 ≤ s.1 ∧ s.1 ≤ 600 ∧ s.2.1 ≤ 10
def mkb (x : Lv) : Nat := if vD x = 0 then 0 else 1
def offC : List Lv → Nat
  | [] => 0
  | x :: r => mkb x + offC r
/-- holds by calls -/
def gC : List Lv → Nat → Nat
  | [], _ => 0
  | x :: r, k => dl (vF x) k + dl (vD x) k + gC r k
/-- the class's calls -/
def cCal (S : cS) : List Lv → Prop
  | [] => False
  | [x] => vB x = 0 ∧ vF x = 0 ∧ vD x = 0 ∧ vT x = 0
  | x :: y :: r => (sA S 54 r.length = nI (vP y) ∧ sA S 56 r.length = nI (vB x - 1) ∧ sA S 57 r.length = nI (vT x) ∧ sA S 58 r.length = nI (vF y) ∧ sA S 59 r.length = nI (vD x) ∧ vB x = vB y + vH y ∧ 1 ≤ vH y ∧ vT x = vT y + vU y ∧ vF x ≠ 0 ∧ vP y < 2 ^ 20) ∧ cCal S (y :: r)
/-- the reference's calls -/
def rCal (β : Nat → Nat) (S : cS) : List Lv → Prop
  | [] => True
  | x :: r => (sQ S 94 r.length = some (vM x) ∧ sA S 95 r.length = nI (vQ x) ∧ sA S 96 r.length = (if vF x = 0 then Int32.ofInt (-1) else nI (β (vF x))) ∧ (r ≠ [] → sA S 97 r.length = nI (vB x - 1 + offC r)) ∧ sA S 99 r.length = nI (vT x) ∧ sA S 100 r.length = nI (mkb x) ∧ vQ x < 2 ^ 20) ∧ rCal β S r
/-- the lines of the calls that wait -/
def lnC (Sc Sr : cS) : List Lv → Prop
  | [] => True
  | _ :: r => (∀ i, i < r.length → ∃ e, e < 2 ^ 20 ∧ sA Sc 55 i = nI e ∧ sA Sr 98 i = nI e) ∧ ∃ e, e < 2 ^ 20 ∧ sI Sc 5217 = nI e ∧ sA Sr 98 r.length = nI e
/-- values on both stacks -/
def stkR (β : Nat → Nat) (Sc Sr : cS) : List Lv → Prop
  | [] => True
  | x :: r => (∀ i, i < vH x → vrel β (sL Sc 47 (vB x + i)) (sL Sc 48 (vB x + i)) (sA Sr 91 (vB x + i + offC (x :: r))) (sL Sr 92 (vB x + i + offC (x :: r))) (sL Sr 93 (vB x + i + offC (x :: r)))) ∧ (vD x ≠ 0 → sA Sr 91 (vB x + offC r) = nI 3 ∧ sL Sr 92 (vB x + offC r) = lN (β (vD x))) ∧ stkR β Sc Sr r
/-- what the marks of a level say of its values -/
def mkOk (S : cS) (b h : Nat) (l : LL) : Prop := (∀ i, i < h → c_kind (sL S 47 (b + i)) ≠ 0 ∧ (c_kind (sL S 47 (b + i)) = nI 5 → (i, 1) ∈ l.1)) ∧ ∀ y, (y, 2) ∈ l.1 → (∃ o, lv S o ∧ sA S 3 o = nI 1 ∧ sL S 47 (b + y) = 4611686018427387904 ∧ sL S 48 (b + y) = lN o) ∧ ∃ i, i ≤ 300 ∧ sL S 47 (b + (y + 1)) = 2305843009213693952 ∧ sL S 48 (b + (y + 1)) = lN i
def stkC (S : cS) : List Lv → Prop
  | [] => True
  | x :: r => mkOk S (vB x) (vH x) (vL x) ∧ lbo (vS x) ∧ stkC S r
/-- the open tries; tq: where each is caught, on both sides (a height from 1000 on: G tells of such a place) -/
def triC (G : Nat → Nat → Nat → Nat × Nat × LL → Prop) (tq : Nat → Nat × Nat) (S : cS) : List Lv → Prop
  | [] => True
  | x :: r => (∀ e y l', (vL x).1 = e ++ (y, 0) :: l' → (tq (vT x + tms l')).1 < 2 ^ 20 ∧ (tq (vT x + tms l')).2 < 2 ^ 20 ∧ sA S 60 (3 * (vT x + tms l')) = nI (tq (vT x + tms l')).1 ∧ sA S 60 (3 * (vT x + tms l') + 1) = nI (vB x + y) ∧ sA S 60 (3 * (vT x + tms l') + 2) = nI r.length ∧ G (vM x) (tq (vT x + tms l')).1 (tq (vT x + tms l')).2 (y + 1000, tms l', (l', (vL x).2))) ∧ triC G tq S r
def triX (tq : Nat → Nat × Nat) (S : cS) : List Lv → Prop
  | [] => True
  | x :: r => (∀ e y l', (vL x).1 = e ++ (y, 0) :: l' → sA S 101 (vT x + tms l') = nI r.length ∧ sA S 102 (vT x + tms l') = nI (tq (vT x + tms l')).2 ∧ sA S 103 (vT x + tms l') = nI (vB x + y + offC (x :: r))) ∧ triX tq S r
/-- the frames of the calls fit their scopes; those that wait go on at good places -/
def lvOk (G : Nat → Nat → Nat → Nat × Nat × LL → Prop) (ty : Nat → Nat × Nat) (S : cS) : List Lv → Prop
  | [] => True
  | x :: r => (vF x = 0 → (vL x).2 = 0) ∧ (vF x ≠ 0 → lv S (vF x) ∧ sA S 3 (vF x) = nI 7 ∧ (vL x).2 ≠ 0 ∧ ty (vF x) = (vM x, (vL x).2)) ∧ (vD x ≠ 0 → lv S (vD x) ∧ sA S 3 (vD x) = nI 5) ∧ (∀ y, y ∈ r → G (vM y) (vP y) (vQ y) (vS y) ∧ lob (vL y) < vH y) ∧ lvOk G ty S r
section
variable {β : Nat → Nat} {G : Nat → Nat → Nat → Nat × Nat × LL → Prop} {ty : Nat → Nat × Nat} {S S' Sc Sr : cS} {C r : List Lv} {x y : Lv}
theorem vAt_v (x : Lv) (p q : Nat) (s : Nat × Nat × LL) : vM (vAt x p q s) = vM x ∧ vB (vAt x p q s) = vB x ∧ vF (vAt x p q s) = vF x ∧ vD (vAt x p q s) = vD x ∧ vT (vAt x p q s) = vT x ∧ vP (vAt x p q s) = p ∧ vQ (vAt x p q s) = q ∧ vS (vAt x p q s) = s := ⟨rfl, rfl, rfl, rfl, rfl, rfl, rfl, rfl⟩
theorem vAt_self (x : Lv) : vAt x (vP x) (vQ x) (vS x) = x := rfl
/-- how much lies on the class's stack -/
def topC (C : List Lv) : Nat := match C with
  | [] => 0
  | x :: _ => vB x + vH x
theorem cCal_b (h : cCal S (x :: r)) (hl : stkC S' (x :: r)) : vB x ≤ 600 * r.length ∧ vT x ≤ 10 * r.length := by
  induction r generalizing x with
  | nil =>
    obtain ⟨h1, _, _, h4⟩ := h
    omega
  | cons y r ih =>
    obtain ⟨⟨_, _, _, _, _, h6, _, h8, _⟩, h2⟩ := h
    obtain ⟨_, _, hl2⟩ := hl
    have := ih h2 hl2
    obtain ⟨_, ⟨_, _, _, q4, q5⟩, _⟩ := hl2
    have e1 : vH y ≤ 600 := q4
    have e2 : vU y ≤ 10 := q5
    rw [List.length_cons]
    omega
theorem offC_le : offC C ≤ C.length := by
  induction C with
  | nil => exact Nat.le_refl _
  | cons x r ih =>
    show mkb x + offC r ≤ r.length + 1
    have : mkb x ≤ 1 := by unfold mkb; split <;> omega
    omega
theorem gC_le (k : Nat) : gC C k ≤ 2 * C.length := by
  induction C with
  | nil => exact Nat.le_refl _
  | cons x r ih =>
    show dl (vF x) k + dl (vD x) k + gC r k ≤ 2 * (r.length + 1)
    have h1 : dl (vF x) k ≤ 1 := by unfold dl; split <;> omega
    have h2 : dl (vD x) k ≤ 1 := by unfold dl; split <;> omega
    omega
theorem cCal_E (h : cCal S C) (e : ∀ a, a ∈ [54, 56, 57, 58, 59] → sA S' a = sA S a) : cCal S' C := by
  induction C with
  | nil => exact h
  | cons x r ih =>
    cases r with
    | nil => exact h
    | cons y r =>
      obtain ⟨h1, h2⟩ := h
      exact ⟨by rw [e 54 (by decide), e 56 (by decide), e 57 (by decide), e 58 (by decide), e 59 (by decide)]; exact h1, ih h2⟩
theorem rCal_E (h : rCal β S C) (eq : sQ S' 94 = sQ S 94) (e : ∀ a, a ∈ [95, 96, 97, 99, 100] → sA S' a = sA S a) : rCal β S' C := by
  induction C with
  | nil => exact h
  | cons x r ih =>
    obtain ⟨h1, h2⟩ := h
    exact ⟨by rw [eq, e 95 (by decide), e 96 (by decide), e 97 (by decide), e 99 (by decide), e 100 (by decide)]; exact h1, ih h2⟩
theorem triC_E {tq : Nat → Nat × Nat} (h : triC G tq S C) (e : sA S' 60 = sA S 60) : triC G tq S' C := by
  induction C with
  | nil => exact h
  | cons x r ih =>
    obtain ⟨h1, h2⟩ := h
    refine ⟨fun e' y l' hl => ?_, ih h2⟩
    rw [e]
    exact h1 e' y l' hl
theorem triX_E {tq : Nat → Nat × Nat} (h : triX tq S C) (e : ∀ a, a ∈ [101, 102, 103] → sA S' a = sA S a) : triX tq S' C := by
  induction C with
  | nil => exact h
  | cons x r ih =>
    obtain ⟨h1, h2⟩ := h
    refine ⟨fun e' y l' hl => ?_, ih h2⟩
    rw [e 101 (by decide), e 102 (by decide), e 103 (by decide)]
    exact h1 e' y l' hl
end
