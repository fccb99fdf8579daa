/-! STATEMENTS OF THE REFERENCE: what holds as one begins, what it comes to -/
def flq (l : Nat) : Nat := if 1 < l then l else 1
/-- the loop around -/
def zLp (lp : LpT) (L tr c : Nat) (S : cS) : Prop := match lp with
  | none => L = 0 ∨ 1 ≤ L ∧ sA S 77 (L - 1) = Int32.ofInt (-1)
  | some x => 1 ≤ L ∧ x.2.1 ≤ c ∧ sA S 77 (L - 1) = nI x.2.1 ∧ sA S 78 (L - 1) = nI x.2.2 ∧ x.2.2 ≤ tr
/-- the parser's own places as a statement of indent ind begins, in a block dp deep; qb: bytes so far; af: where the class's attributes begin -/
def zCt (K I : Nat → Nat) (E : Nat → Nat → Bool) (V : Nat → Int32) (T : Nat → Nat × Nat) (A : Prop) (z : Nat) (opn : Nat → Nat) (dp ind s : Nat) (lp : LpT) (tr : Nat) (sc : SCs) (X : Nat → Nat) (af b c qb k : Nat) (S : cS) : Prop :=
  (X 0 = dp ∧ sI S 6117 = nI dp ∧ dp ≤ 10 ∧ opn dp = ind ∧ ∀ i, i ≤ dp → sA S 73 i = nI (opn i) ∧ opn i < 4000) ∧ (sI S 6122 = nI (X 1) ∧ X 1 ≤ dp + 1) ∧ (sI S 6126 = nI (X 2) ∧ X 2 ≤ dp + 1 ∧ (z = 0 → zLp lp (X 2) tr c S)) ∧ (∃ tr', sI S 6127 = nI tr' ∧ tr' ≤ dp + 1 ∧ (z = 0 → tr' = tr)) ∧ sI S 6123 = nI (X 3) ∧ sI S 6137 = nI (X 4) ∧ (sI S 6134 = nI (X 5) ∧ X 5 ≤ qb) ∧ (sI S 6139 = nI (X 6) ∧ X 6 ≤ qb ∧ sI S 6140 = nI af ∧ af ≤ X 6) ∧ ((∀ i, i < b → ∃ x y, x < X 2 ∧ y < 2 ^ 17 ∧ bkL S i = nI x ∧ bkA S i = nI y) ∧ b ≤ qb) ∧ zSc K I E V T A sc s (X 1) (X 3) (X 4) ind k S ∧ (s = 0 ↔ X 1 = 0)
/-- functions told -/
def zDf (K I : Nat → Nat) (V : Nat → Int32) (m : Nat) (l : List (Nat × Nat × Nat × Nat)) (S : cS) : Prop := ∀ i e, l[i + 1]? = some e → dNm S m i = V e.2.2.2 ∧ dAt S m i = nI e.2.2.1 ∧ dPa S m i = nI (prmL K V 9 (e.2.2.2 + 2)).length ∧ dLo S m i = nI (lcO K I V e.2.2.2).1.length
/-- room -/
def zRm (β : Nat → Nat) (n H W k c w t f : Nat) : Prop := c + 13 * rem β n k ≤ H ∧ w + rem β n k ≤ W ∧ t + rem β n k ≤ W ∧ f + rem β n k ≤ W ∧ H ≤ 40000 ∧ W ≤ 40000
/-- attributes of a class so far, from af on -/
def zAt (K : Nat → Nat) (V : Nat → Int32) (af : Nat) (l : List Nat) (S : cS) : Prop := sI S 6139 = nI (af + l.length) ∧ ∀ i k, l[i]? = some k → sA S 84 (af + i) = V k ∧ K k = 3
/-- scopes are added, parameters stay -/
def scL (E : Nat → Nat → Bool) (sc sc' : SCs) : Prop := (∃ l, sc'.1 = sc.1 ++ l) ∧ (∀ s j, s < sc.1.length → (kp E sc' s j ↔ kp E sc s j)) ∧ (wfS sc → wfS sc')
section
variable (β : Nat → Nat) (n : Nat) (E : Nat → Nat → Bool) (V : Nat → Int32) (T : Nat → Nat × Nat) (own0 : Nat → Nat × Nat) (m u k1 : Nat) (S0 : cS) (H B0 W : Nat)
/-- z: 0 a statement, 1 a class's; anywhere in its line -/
def zI0 (z : Nat) (opn : Nat → Nat) (dp ind s : Nat) (lp : LpT) (tr : Nat) (sc : SCs) (at' : List Nat) (X : Nat → Nat) (af c w t b k : Nat) (S : cS) : Prop :=
  zE own0 m u S0 H B0 c w t (sc.1.length - 1) b S ∧ sI S 6115 = nI k ∧ sI S 6116 = nI 0 ∧ zCt (qK β n) (qI β n) E V T (agT T sc.1) z opn dp ind s lp tr sc X af b c (qP β n k) k S ∧ zDf (qK β n) (qI β n) V m sc.1 S ∧ s < sc.1.length ∧ k ≤ k1 ∧ (z = 1 → lp = none ∧ X 6 = af + at'.length ∧ zAt (qK β n) V af at' S) ∧ w ≤ W ∧ t ≤ W ∧ sc.1.length - 1 ≤ W ∧ H ≤ 40000 ∧ W ≤ 40000
/-- as it begins -/
def zIn (z : Nat) (opn : Nat → Nat) (dp ind s : Nat) (lp : LpT) (tr : Nat) (sc : SCs) (at' : List Nat) (X : Nat → Nat) (af c w t b k : Nat) (S : cS) : Prop :=
  zI0 β n E V T own0 m u k1 S0 H B0 W z opn dp ind s lp tr sc at' X af c w t b k S ∧ zRm β n H W k c w t (sc.1.length - 1) ∧ (qK β n (k - 1) = 2 ∨ k = 0) ∧ X 1 ≤ dp ∧ X 2 ≤ dp ∧ (z = 0 → tr ≤ dp)
/-- bad, on line l -/
def zBd (opn : Nat → Nat) (dp : Nat) (r : PSr) (l : Nat) : Prop := (∃ q, r = .inl q ∧ l = flq q) ∨ ∃ x, r = .inr x ∧ qK β n x.1 ≠ 1 ∧ (∀ i, i < dp → opn i ≠ qI β n x.1) ∧ l = fl β n x.1
/-- good: as much as the pure parser says of x -/
def zG (z ind : Nat) (lp : LpT) (sc : SCs) (at' : List Nat) (X : Nat → Nat) (af : Nat) (S : cS) (c w t b k : Nat) (x : PT) (S1 : cS) : Prop :=
  zO β n V (zPT (qK β n) (qI β n) V T) (agT T x.2.2.1.1) own0 m u S0 H B0 X (X 2 - 1) S c w t (sc.1.length - 1) b x.1 x.2.1 (x.2.2.1.1.length - 1) S1 ∧ kI S S1 ∧ (z = 0 → sI S1 6139 = sI S 6139) ∧ (z = 1 → zAt (qK β n) V af x.2.2.2 S1 ∧ x.2.2.2.length + qP β n k ≤ at'.length + qP β n x.1 ∧ at'.length ≤ x.2.2.2.length) ∧ zDf (qK β n) (qI β n) V m x.2.2.1.1 S1 ∧ (lp = none → n60 x.2.1) ∧ wR (qK β n) x.2.1 + 13 * rem β n x.1 ≤ 13 * rem β n k ∧ nwN (qK β n) x.2.1 + rem β n x.1 ≤ rem β n k ∧ ntN (qK β n) x.2.1 + rem β n x.1 ≤ rem β n k ∧ x.2.2.1.1.length + rem β n x.1 ≤ sc.1.length + rem β n k ∧ (zbk (qK β n) c x.2.1).length + qP β n k ≤ qP β n x.1 ∧ (∀ j, k ≤ j → j < x.1 → ind ≤ qI β n j ∧ qK β n j ≠ 1) ∧ x.1 ≤ k1 ∧ (k < x.1 → qK β n (x.1 - 1) = 2) ∧ k ≤ x.1 ∧ scL E sc x.2.2.1
/-- of a statement, a sequence, a block: in blocks of indents below dp -/
def zOu (z : Nat) (opn : Nat → Nat) (dp ind : Nat) (lp : LpT) (sc : SCs) (at' : List Nat) (X : Nat → Nat) (af : Nat) (S : cS) (c w t b k : Nat) (r : PSr) (v : Int32) (S1 : cS) : Prop :=
  (∃ l, zBd β n opn dp r l ∧ v = nI 0 ∧ zB own0 m u S0 H B0 W l S1) ∨ ∃ x, r = .inr x ∧ v = nI 1 ∧ zG β n E V T own0 m u k1 S0 H B0 z ind lp sc at' X af S c w t b k x S1
end
/-- how deep a statement goes -/
def lvZ (dp : Nat) : Nat := 260 + 4 * (12 - dp)
section
variable {β : Nat → Nat} {n : Nat} {E : Nat → Nat → Bool} {V : Nat → Int32} {T : Nat → Nat × Nat} {P : Nat → Int32 → Int32 × Int32} {own0 : Nat → Nat × Nat} {m u k1 : Nat} {S0 S S1 S2 : cS} {H B0 W d l c w t f f1 b j s : Nat} {X Y : Nat → Nat} {o1 o2 : List Op} {A : Prop}
theorem zB_in {opn : Nat → Nat} {dp q l : Nat} (h : l = flq q) : zBd β n opn dp (.inl q) l := Or.inl ⟨q, rfl, h⟩
end
