/-! THE CLASS'S HEAP as numbers: what an object holds, how often each is held -/
def gN (x : Int32) : Nat := x.toNatClampNeg
theorem gN_nI {n : Nat} (h : n < 2 ^ 31) : gN (nI n) = n := nI_clamp (by omega)
def sumN (f : Nat → Nat) : Nat → Nat
  | 0 => 0
  | n + 1 => sumN f n + f n
theorem sumN_congr {f g : Nat → Nat} : ∀ {n : Nat}, (∀ k, k < n → f k = g k) → sumN f n = sumN g n := by
  intro n
  induction n with
  | zero => intro _; rfl
  | succ n ih => intro h; show sumN f n + f n = sumN g n + g n; rw [ih (fun k hk => h k (by omega)), h n (by omega)]
theorem sumN_upd {f g : Nat → Nat} {k : Nat} (hg : ∀ i, i ≠ k → g i = f i) : ∀ {n : Nat}, k < n → sumN g n + f k = sumN f n + g k := by
  intro n
  induction n with
  | zero => intro h; omega
  | succ n ih =>
    intro h
    show sumN g n + g n + f k = sumN f n + f n + g k
    by_cases hk : k = n
    · subst hk
      rw [sumN_congr (fun i hi => hg i (by omega))]
      omega
    · have := ih (by omega)
      rw [hg n (by omega)]
      omega
theorem sumN_add (f g : Nat → Nat) : ∀ n : Nat, sumN (fun i => f i + g i) n = sumN f n + sumN g n := by
  intro n
  induction n with
  | zero => rfl
  | succ n ih => show sumN _ n + (f n + g n) = sumN f n + f n + (sumN g n + g n); rw [ih]; omega
theorem sumN_zero {f : Nat → Nat} : ∀ {n : Nat}, sumN f n = 0 → ∀ k, k < n → f k = 0 := by
  intro n
  induction n with
  | zero => intro _ k hk; omega
  | succ n ih =>
    intro h k hk
    have h1 : sumN f n + f n = 0 := h
    by_cases e : k = n
    · subst e; omega
    · exact ih (by omega) k (by omega)
theorem sumN_le {f : Nat → Nat} {c : Nat} : ∀ {n : Nat}, (∀ k, k < n → f k ≤ c) → sumN f n ≤ c * n := by
  intro n
  induction n with
  | zero => intro _; exact Nat.zero_le _
  | succ n ih =>
    intro h
    show sumN f n + f n ≤ c * (n + 1)
    have h1 := ih (fun k hk => h k (by omega))
    have h2 := h n (by omega)
    rw [Nat.mul_succ]
    omega
theorem sumN_pos {f : Nat → Nat} {k : Nat} : ∀ {n : Nat}, k < n → f k ≤ sumN f n := by
  intro n
  induction n with
  | zero => intro h; omega
  | succ n ih =>
    intro h
    show f k ≤ sumN f n + f n
    by_cases e : k = n
    · subst e; omega
    · have := ih (by omega); omega
/-- values of a function from a place on -/
def seqN (f : Nat → Nat) : Nat → Nat → List Nat
  | _, 0 => []
  | i, r + 1 => f i :: seqN f (i + 1) r
theorem seqN_mem {f : Nat → Nat} {x : Nat} : ∀ {r i : Nat}, x ∈ seqN f i r → ∃ j, i ≤ j ∧ j < i + r ∧ x = f j := by
  intro r
  induction r with
  | zero => intro i h; cases h
  | succ r ih =>
    intro i h
    rcases List.mem_cons.mp h with h | h
    · exact ⟨i, by omega, by omega, h⟩
    · obtain ⟨j, h1, h2, h3⟩ := ih h
      exact ⟨j, by omega, by omega, h3⟩
theorem seqN_congr {f g : Nat → Nat} : ∀ {r i : Nat}, (∀ j, i ≤ j → j < i + r → f j = g j) → seqN f i r = seqN g i r := by
  intro r
  induction r with
  | zero => intro i _; rfl
  | succ r ih => intro i h; show f i :: seqN f (i + 1) r = g i :: seqN g (i + 1) r; rw [h i (by omega) (by omega), ih (fun j h1 h2 => h j (by omega) (by omega))]
theorem seqN_len {f : Nat → Nat} : ∀ {r i : Nat}, (seqN f i r).length = r := by
  intro r
  induction r with
  | zero => intro i; rfl
  | succ r ih => intro i; show (seqN f (i + 1) r).length + 1 = r + 1; rw [ih]
/-- the object that a value is: 0, if none -/
def ob (hi lo : Int64) : Nat := gN (c_obj hi lo)
def h_row (S : cS) (k : Nat) : Nat := (sQ S 11 k).getD 0
def h_kd (S : cS) (k : Nat) : Nat := gN (sA S 3 k)
def h_z (S : cS) (k : Nat) : Nat := gN (sA S 10 k)
/-- a value of an object: its place in the row -/
def h_at (w e : Nat) : Nat := w * e + w - 2
def h_hi (S : cS) (k e : Nat) : Int64 := sL S (h_row S k) (h_at (c_width (h_kd S k)) e)
def h_lo (S : cS) (k e : Nat) : Int64 := sL S (h_row S k) (h_at (c_width (h_kd S k)) e + 1)
def h_ent (S : cS) (k e : Nat) : Nat := ob (h_hi S k e) (h_lo S k e)
def h_n (S : cS) (k : Nat) : Nat := if c_width (h_kd S k) = 0 then 0 else h_z S k
/-- what an object holds, as often as it holds it -/
def tgs (S : cS) (k : Nat) : List Nat := gN (sA S 7 k) :: gN (sA S 8 k) :: seqN (h_ent S k) 0 (h_n S k)
/-- how often all that exists holds one -/
def heldBy (S : cS) (t : Nat) : Nat := sumN (fun j => if sA S 3 j = 0 then 0 else (tgs S j).count t) 1501
/-- an object as it must be -/
def h_ok (S : cS) (k : Nat) : Prop := ∃ kd z x y, kd ≤ 7 ∧ sA S 3 k = nI kd ∧ sA S 10 k = nI z ∧ sA S 7 k = nI x ∧ sA S 8 k = nI y ∧ x ≤ 1500 ∧ y ≤ 1500 ∧ z ≤ c_most kd ∧ (c_width kd = 0 → z = 0) ∧ (sQ S 11 k = none → z = 0) ∧
  (∀ a, sQ S 11 k = some a → ∃ N, 108 ≤ a ∧ (sS S)[a - 108]? = some (1, N) ∧ c_width kd * z ≤ N ∧ N ≤ 600 ∧ ∀ e, e < z → ∃ o, o ≤ 1500 ∧ c_obj (sL S a (h_at (c_width kd) e)) (sL S a (h_at (c_width kd) e + 1)) = nI o)
theorem c_most_le (kd : Nat) : c_most kd ≤ 300 := by
  unfold c_most
  split
  · omega
  · split <;> omega
theorem c_width_or (kd : Nat) : c_width kd = 0 ∨ c_width kd = 2 ∨ c_width kd = 4 := by
  unfold c_width
  split
  · exact Or.inr (Or.inl rfl)
  · split
    · exact Or.inr (Or.inr rfl)
    · exact Or.inl rfl
theorem h_at2 (e : Nat) : h_at 2 e = 2 * e := by unfold h_at; omega
theorem h_at4 (e : Nat) : h_at 4 e = 4 * e + 2 := by unfold h_at; omega
/-- all but some ints and arrays is as it was -/
def Fr (L1 L2 : List Nat) (S0 S : cS) : Prop := sJ S = sJ S0 ∧ sL S = sL S0 ∧ sV S = sV S0 ∧ sQ S = sQ S0 ∧ sS S = sS S0 ∧ mu S = mu S0 ∧ (∀ i, i ∉ L1 → sI S i = sI S0 i) ∧ (∀ a, a ∉ L2 → sA S a = sA S0 a)
theorem Fr.refl (L1 L2 : List Nat) (S : cS) : Fr L1 L2 S S := ⟨rfl, rfl, rfl, rfl, rfl, rfl, fun _ _ => rfl, fun _ _ => rfl⟩
theorem Fr.trans {L1 L2 : List Nat} {S0 S1 S2 : cS} (h : Fr L1 L2 S0 S1) (g : Fr L1 L2 S1 S2) : Fr L1 L2 S0 S2 :=
  ⟨g.1.trans h.1, g.2.1.trans h.2.1, g.2.2.1.trans h.2.2.1, g.2.2.2.1.trans h.2.2.2.1, g.2.2.2.2.1.trans h.2.2.2.2.1, g.2.2.2.2.2.1.trans h.2.2.2.2.2.1, fun i hi => (g.2.2.2.2.2.2.1 i hi).trans (h.2.2.2.2.2.2.1 i hi), fun a ha => (g.2.2.2.2.2.2.2 a ha).trans (h.2.2.2.2.2.2.2 a ha)⟩
theorem Fr.mono {L1 L2 M1 M2 : List Nat} {S0 S : cS} (h : Fr L1 L2 S0 S) (h1 : ∀ i, i ∈ L1 → i ∈ M1) (h2 : ∀ i, i ∈ L2 → i ∈ M2) : Fr M1 M2 S0 S :=
  ⟨h.1, h.2.1, h.2.2.1, h.2.2.2.1, h.2.2.2.2.1, h.2.2.2.2.2.1, fun i hi => h.2.2.2.2.2.2.1 i (fun c => hi (h1 i c)), fun a ha => h.2.2.2.2.2.2.2 a (fun c => ha (h2 a c))⟩
theorem Fr_wI {L1 L2 : List Nat} {S0 S : cS} {k : Nat} {v : Int32} (hk : k ∈ L1) (h : Fr L1 L2 S0 S) : Fr L1 L2 S0 (wI k v S) :=
  ⟨h.1, h.2.1, h.2.2.1, h.2.2.2.1, h.2.2.2.2.1, h.2.2.2.2.2.1, fun i hi => (rIn (k := k) v S (i := i) (fun e => hi (e ▸ hk))).trans (h.2.2.2.2.2.2.1 i hi), h.2.2.2.2.2.2.2⟩
theorem Fr_wA {L1 L2 : List Nat} {S0 S : cS} {a k : Nat} {v : Int32} (ha : a ∈ L2) (h : Fr L1 L2 S0 S) : Fr L1 L2 S0 (wA a k v S) :=
  ⟨h.1, h.2.1, h.2.2.1, h.2.2.2.1, h.2.2.2.2.1, h.2.2.2.2.2.1, h.2.2.2.2.2.2.1, fun b hb => (rAn (a := a) k v S (b := b) (fun e => hb (e ▸ ha))).trans (h.2.2.2.2.2.2.2 b hb)⟩
theorem Fr.I {L1 L2 : List Nat} {S0 S : cS} (h : Fr L1 L2 S0 S) {i : Nat} (hi : i ∉ L1) : sI S i = sI S0 i := h.2.2.2.2.2.2.1 i hi
theorem Fr.A {L1 L2 : List Nat} {S0 S : cS} (h : Fr L1 L2 S0 S) {a : Nat} (ha : a ∉ L2) : sA S a = sA S0 a := h.2.2.2.2.2.2.2 a ha
/-- lists of different numbers -/
theorem sumN_z {f : Nat → Nat} : ∀ {n : Nat}, (∀ k, k < n → f k = 0) → sumN f n = 0 := by
  intro n
  induction n with
  | zero => intro _; rfl
  | succ n ih => intro h; show sumN f n + f n = 0; rw [ih (fun k hk => h k (by omega)), h n (by omega)]
theorem count_cons' (a b : Nat) (l : List Nat) : (b :: l).count a = l.count a + (if b = a then 1 else 0) := by
  rw [List.count_cons]
  by_cases h : b = a
  · subst h; simp only [beq_self_eq_true, if_true]
  · rw [if_neg h, if_neg (by simpa using h)]
theorem len_count {n : Nat} : ∀ {l : List Nat}, (∀ x, x ∈ l → 1 ≤ x ∧ x ≤ n) → sumN (fun k => l.count (k + 1)) n = l.length := by
  intro l
  induction l with
  | nil => intro _; exact sumN_z (fun k _ => List.count_nil)
  | cons x l ih =>
    intro h
    have hx := h x List.mem_cons_self
    have e1 : sumN (fun k => (x :: l).count (k + 1)) n = sumN (fun k => l.count (k + 1) + (if x = k + 1 then 1 else 0)) n := sumN_congr (fun k _ => count_cons' _ _ _)
    have e2 := sumN_upd (f := fun _ => 0) (g := fun k => if x = k + 1 then 1 else 0) (k := x - 1) (fun i hi => if_neg (by omega)) (n := n) (by omega)
    have e3 : sumN (fun _ => 0) n = 0 := sumN_z (fun _ _ => rfl)
    have e4 : (if x = x - 1 + 1 then 1 else 0) = 1 := if_pos (by omega)
    rw [e1, sumN_add, ih (fun y hy => h y (List.mem_cons_of_mem _ hy)), List.length_cons]
    simp only [e4, e3] at e2
    omega
theorem nodup_count {l : List Nat} (h : l.Nodup) (a : Nat) : l.count a ≤ 1 := by
  induction l with
  | nil => rw [List.count_nil]; omega
  | cons x l ih =>
    have h2 := List.nodup_cons.mp h
    rw [count_cons']
    by_cases e : x = a
    · subst e
      rw [if_pos rfl, List.count_eq_zero.mpr h2.1]
      omega
    · rw [if_neg e]
      exact ih h2.2
theorem nodup_len {n : Nat} {l : List Nat} (h : l.Nodup) (hb : ∀ x, x ∈ l → 1 ≤ x ∧ x ≤ n) : l.length ≤ n := by
  have h1 := len_count hb
  have h2 := sumN_le (f := fun k => l.count (k + 1)) (c := 1) (n := n) (fun k _ => nodup_count h _)
  omega
theorem nd_one (a : Nat) : [a].Nodup := List.nodup_cons.mpr ⟨List.not_mem_nil, List.nodup_nil⟩
