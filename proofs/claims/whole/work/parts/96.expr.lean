/-! EXPRESSIONS, pure: over the kinds of a row of tokens.  A step is (number of the class's sign, tokens or numbers, jump of the class's words, jump of the other's words); an expression gives the token behind it, what it is as a target (0 none, 1 name, 2 index, 3 attribute), its steps -/
abbrev Op : Type := Nat × List Nat × Int × Int
abbrev PR : Type := Option (Nat × Nat × List Op)
/-- words of a step in the class's code, in the other's -/
def lC (o : Op) : Nat :=
  if o.1 = 61 then 0 else if o.1 = 21 then 4 else if o.1 = 18 ∨ o.1 = 19 ∨ o.1 = 20 then 3 else if o.1 = 23 then 2 + o.2.1.length
  else if o.1 = 0 ∨ o.1 = 8 ∨ o.1 = 9 ∨ o.1 = 11 ∨ o.1 = 14 ∨ o.1 = 17 ∨ (25 ≤ o.1 ∧ o.1 ≤ 43) then 1 else 2
def wC : List Op → Nat
  | [] => 0
  | o :: r => lC o + wC r
theorem wC_app (a b : List Op) : wC (a ++ b) = wC a + wC b := by
  induction a with
  | nil => exact (Nat.zero_add _).symm
  | cons o r ih => show lC o + wC (r ++ b) = lC o + wC r + wC b; rw [ih]; omega
/-- of what kind a constant is: 0 none, 1 number, 2 text -/
def kcst (kd : Nat) : Nat := if kd = 61 then 0 else if kd = 5 then 2 else 1
def lR (K : Nat → Nat) (o : Op) : Nat :=
  if o.1 = 62 then 0 else if 18 ≤ o.1 ∧ o.1 ≤ 21 then 4 else if o.1 = 23 then 2 + o.2.1.length
  else if o.1 = 16 then (if K (o.2.1.headD 0) = 61 then 1 else 2)
  else if 27 ≤ o.1 ∧ o.1 ≤ 38 then 2
  else if o.1 = 40 then 2 else if o.1 = 45 then 3
  else if o.1 = 13 then o.2.1.headD 0
  else if o.1 = 0 ∨ o.1 = 8 ∨ o.1 = 9 ∨ o.1 = 11 ∨ o.1 = 14 ∨ o.1 = 15 ∨ o.1 = 17 ∨ o.1 = 25 ∨ o.1 = 26 ∨ o.1 = 39 ∨ o.1 = 41 ∨ o.1 = 42 ∨ o.1 = 43 ∨ o.1 = 61 ∨ o.1 = 63 then 1 else 2
def wR (K : Nat → Nat) : List Op → Nat
  | [] => 0
  | o :: r => lR K o + wR K r
theorem wR_app (K : Nat → Nat) (a b : List Op) : wR K (a ++ b) = wR K a + wR K b := by
  induction a with
  | nil => exact (Nat.zero_add _).symm
  | cons o r ih => show lR K o + wR K (r ++ b) = lR K o + wR K r + wR K b; rw [ih]; omega
def cmpO (k : Nat) : Nat := if k = 26 then 32 else if k = 60 then 32 else if k = 27 then 33 else if k = 20 then 34 else if k = 28 then 35 else if k = 21 then 36 else if k = 29 then 37 else if k = 45 then 38 else 0
def trmO (k : Nat) : Nat := if k = 17 then 29 else if k = 22 then 30 else if k = 18 then 31 else 0
def most (b : Nat) : Nat := if b = 7 then 8 else if b = 9 then 40 else 20
def jmp (K : Nat → Nat) (t : Nat) (o : List Op) : Op := (t, [], ((2 + wC o : Nat) : Int), ((1 + wR K o : Nat) : Int))
section
variable (K : Nat → Nat) (R : Nat → Nat → Nat → Nat → Nat → PR)
/-- a rule and its loop -/
def pxL (t u d k : Nat) : PR := (R t d k 0 0).bind fun r => (R u d r.1 r.2.1 0).bind fun s => some (s.1, s.2.1, r.2.2 ++ s.2.2)
/-- the loop of or, and -/
def pxJ (w op t u d k a : Nat) : PR := if K k = w then ((R t d (k + 1) 0 0).bind fun r => (R u d r.1 0 0).bind fun s => some (s.1, 0, jmp K op r.2.2 :: (r.2.2 ++ s.2.2))) else some (k, a, [])
/-- the loop of signs -/
def pxO (op : Nat → Nat) (t u d k a : Nat) : PR := if op (K k) ≠ 0 then ((R t d (k + 1) 0 0).bind fun r => (R u d r.1 0 0).bind fun s => some (s.1, 0, r.2.2 ++ (op (K k), [K k], 0, 0) :: s.2.2)) else some (k, a, [])
def sumO (k : Nat) : Nat := if k = 15 then 27 else if k = 16 then 28 else 0
/-- a sign ahead -/
def pxU (w op t u d k : Nat) : PR := if K k = w then (if 12 ≤ d then none else (R t (d + 1) (k + 1) 0 0).bind fun r => some (r.1, 0, r.2.2 ++ [(op, [], 0, 0)])) else R u d k 0 0
def px5 (d k : Nat) : PR := (R 6 d k 0 0).bind fun r => if cmpO (K r.1) = 0 then some r else (R 6 d (r.1 + 1) 0 0).bind fun s => some (s.1, 0, r.2.2 ++ (s.2.2 ++ [(cmpO (K r.1), [K r.1], 0, 0)]))
def px12 (d k a : Nat) : PR :=
  if K k = 6 then (if 12 ≤ d then none else (R 13 (d + 1) (k + 1) 0 7).bind fun r => (R 12 d r.1 0 0).bind fun s => some (s.1, s.2.1, r.2.2 ++ (51, [r.2.1], 0, 0) :: s.2.2))
  else if K k = 8 then (if 12 ≤ d then none else (R 0 (d + 1) (k + 1) 0 0).bind fun r => if K r.1 = 9 then ((R 12 d (r.1 + 1) 2 0).bind fun s => some (s.1, s.2.1, r.2.2 ++ (39, [], 0, 0) :: s.2.2)) else none)
  else if K k = 14 then (if K (k + 1) = 3 then ((R 12 d (k + 2) 3 0).bind fun s => some (s.1, s.2.1, (44, [k + 1], 0, 0) :: s.2.2)) else none)
  else some (k, a, [])
/-- behind a bracket: values up to its end b, a so far; gives how many -/
def px13 (d k a b : Nat) : PR :=
  if a = 0 ∧ K k = b then some (k + 1, 0, [])
  else if most b ≤ a then none
  else (R 0 d k 0 0).bind fun r =>
    if K r.1 = b then some (r.1 + 1, a + 1, r.2.2)
    else if K r.1 = 12 then ((R 13 d (r.1 + 1) (a + 1) b).bind fun s => some (s.1, s.2.1, r.2.2 ++ s.2.2)) else none
def px14 (d k a : Nat) : PR :=
  if a = 0 ∧ K k = 11 then some (k + 1, 0, [])
  else if 20 ≤ a then none
  else (R 0 d k 0 0).bind fun r => if K r.1 = 13 then ((R 0 d (r.1 + 1) 0 0).bind fun u =>
    if K u.1 = 11 then some (u.1 + 1, a + 1, r.2.2 ++ u.2.2)
    else if K u.1 = 12 then ((R 14 d (u.1 + 1) (a + 1) 0).bind fun s => some (s.1, s.2.1, r.2.2 ++ (u.2.2 ++ s.2.2))) else none) else none
def px15 (d k : Nat) : PR :=
  if K k = 3 then some (k + 1, (if K (k + 1) = 6 then 0 else 1), [((if K (k + 1) = 6 then 21 else 18), [k], 0, 0)])
  else if K k = 4 ∨ K k = 5 ∨ K k = 61 ∨ K k = 62 ∨ K k = 63 then some (k + 1, 0, [(16, [k], 0, 0)])
  else if K k = 6 then (if 12 ≤ d then none else (R 0 (d + 1) (k + 1) 0 0).bind fun r => if K r.1 = 7 then some (r.1 + 1, 0, r.2.2) else none)
  else if K k = 8 then (if 12 ≤ d then none else (R 13 (d + 1) (k + 1) 0 9).bind fun r => some (r.1, 0, r.2.2 ++ [(49, [r.2.1], 0, 0)]))
  else if K k = 10 then (if 12 ≤ d then none else (R 14 (d + 1) (k + 1) 0 0).bind fun r => some (r.1, 0, r.2.2 ++ [(50, [r.2.1], 0, 0)]))
  else none
def pxS (t d k a b : Nat) : PR :=
  match t with
  | 0 => pxL R 2 1 d k
  | 1 => pxJ K R 58 7 2 1 d k a
  | 2 => pxL R 4 3 d k
  | 3 => pxJ K R 57 6 4 3 d k a
  | 4 => pxU K R 59 25 4 5 d k
  | 5 => px5 K R d k
  | 6 => pxL R 8 7 d k
  | 7 => pxO K R sumO 8 7 d k a
  | 8 => pxL R 10 9 d k
  | 9 => pxO K R trmO 10 9 d k a
  | 10 => pxU K R 16 26 10 11 d k
  | 11 => pxL R 15 12 d k
  | 12 => px12 K R d k a
  | 13 => px13 K R d k a b
  | 14 => px14 K R d k a
  | _ => px15 K R d k
end
def px (K : Nat → Nat) : Nat → Nat → Nat → Nat → Nat → Nat → PR
  | 0, _, _, _, _, _ => none
  | f + 1, t, d, k, a, b => pxS K (px K f) t d k a b
def nmO (o : Op) : Nat := if 18 ≤ o.1 ∧ o.1 ≤ 21 then 1 else 0
def cnO (o : Op) : Nat := if o.1 = 16 ∨ o.1 = 63 then 1 else 0
def nmN : List Op → Nat
  | [] => 0
  | o :: r => nmO o + nmN r
def cnN : List Op → Nat
  | [] => 0
  | o :: r => cnO o + cnN r
theorem nmN_app (a b : List Op) : nmN (a ++ b) = nmN a + nmN b := by
  induction a with
  | nil => exact (Nat.zero_add _).symm
  | cons o r ih => show nmO o + nmN (r ++ b) = nmO o + nmN r + nmN b; rw [ih]; omega
theorem cnN_app (a b : List Op) : cnN (a ++ b) = cnN a + cnN b := by
  induction a with
  | nil => exact (Nat.zero_add _).symm
  | cons o r ih => show cnO o + cnN (r ++ b) = cnO o + cnN r + cnN b; rw [ih]; omega
def e6 (K : Nat → Nat) (k : Nat) : Nat := if K k = 6 then 1 else 0
theorem e6_le (K : Nat → Nat) (k : Nat) : e6 K k ≤ 1 := by unfold e6; split <;> omega
theorem e6_0 {K : Nat → Nat} {k : Nat} (h : K k ≠ 6) : e6 K k = 0 := if_neg h
theorem e6_1 {K : Nat → Nat} {k : Nat} (h : K k = 6) : e6 K k = 1 := if_pos h
/-- what an expression takes: m tokens at least, that are some; words, names, constants -/
def pxq (K : Nat → Nat) (m c x y k k1 : Nat) (os : List Op) : Prop := k + m ≤ k1 ∧ (∀ j, k ≤ j → j < k1 → 3 ≤ K j) ∧ wC os + x ≤ 3 * (k1 - k) + y ∧ 2 * nmN os ≤ (k1 - k) + c ∧ 2 * cnN os ≤ (k1 - k) + c
def pxG (K : Nat → Nat) (R : Nat → Nat → Nat → Nat → Nat → PR) : Prop :=
  (∀ t, t ∈ [0, 2, 4, 5, 6, 8, 10, 11] → ∀ d k a b r, R t d k a b = some r → pxq K 1 1 0 0 k r.1 r.2.2) ∧
  (∀ t, t ∈ [1, 3, 7, 9] → ∀ d k a b r, R t d k a b = some r → pxq K 0 0 0 0 k r.1 r.2.2) ∧
  (∀ d k a b r, R 12 d k a b = some r → pxq K 0 0 (e6 K k) 0 k r.1 r.2.2) ∧
  (∀ d k a b r, 3 ≤ b → R 13 d k a b = some r → pxq K 1 0 0 0 k r.1 r.2.2) ∧
  (∀ d k a b r, R 14 d k a b = some r → pxq K 1 0 0 0 k r.1 r.2.2) ∧
  (∀ d k a b r, R 15 d k a b = some r → pxq K 1 1 0 (e6 K r.1) k r.1 r.2.2)
theorem sumO_ok {k : Nat} (h : sumO k ≠ 0) : 3 ≤ k ∧ 27 ≤ sumO k ∧ sumO k ≤ 28 := by
  unfold sumO at *
  repeat' split at h
  all_goals first | omega | (repeat' split) <;> omega
theorem trmO_ok {k : Nat} (h : trmO k ≠ 0) : 3 ≤ k ∧ 29 ≤ trmO k ∧ trmO k ≤ 31 := by
  unfold trmO at *
  repeat' split at h
  all_goals first | omega | (repeat' split) <;> omega
theorem cmpO_ok {k : Nat} (h : cmpO k ≠ 0) : 3 ≤ k ∧ 32 ≤ cmpO k ∧ cmpO k ≤ 38 := by
  unfold cmpO at *
  repeat' split at h
  all_goals first | omega | (repeat' split) <;> omega
theorem lC_op {t : Nat} {p : List Nat} {x y : Int} (h : 25 ≤ t ∧ t ≤ 43) : lC (t, p, x, y) = 1 := by
  unfold lC
  dsimp only
  rw [if_neg (by omega), if_neg (by omega), if_neg (by omega), if_neg (by omega), if_pos (by omega)]
theorem nmO_op {t : Nat} {p : List Nat} {x y : Int} (h : 22 ≤ t) : nmO (t, p, x, y) = 0 := if_neg (by dsimp only; omega)
theorem cnO_op {t : Nat} {p : List Nat} {x y : Int} (h : t ≠ 16 ∧ t ≠ 63) : cnO (t, p, x, y) = 0 := if_neg (by dsimp only; omega)
theorem kd_ext {K : Nat → Nat} {k a k1 : Nat} (h0 : ∀ j, k ≤ j → j < k + a → 3 ≤ K j) (h : ∀ j, k + a ≤ j → j < k1 → 3 ≤ K j) : ∀ j, k ≤ j → j < k1 → 3 ≤ K j := fun j h1 h2 => by
  rcases Nat.lt_or_ge j (k + a) with h3 | h3
  · exact h0 j h1 h3
  · exact h j h3 h2
theorem kd_snoc {K : Nat → Nat} {k k1 : Nat} (h : ∀ j, k ≤ j → j < k1 → 3 ≤ K j) (h1 : 3 ≤ K k1) : ∀ j, k ≤ j → j < k1 + 1 → 3 ≤ K j := fun j h2 h3 => by
  rcases Nat.lt_or_ge j k1 with h4 | h4
  · exact h j h2 h4
  · obtain rfl : j = k1 := by omega
    exact h1
theorem kd_app {K : Nat → Nat} {k k1 k2 : Nat} (h : ∀ j, k ≤ j → j < k1 → 3 ≤ K j) (h1 : ∀ j, k1 ≤ j → j < k2 → 3 ≤ K j) : ∀ j, k ≤ j → j < k2 → 3 ≤ K j := fun j h2 h3 => by
  rcases Nat.lt_or_ge j k1 with h4 | h4
  · exact h j h2 h4
  · exact h1 j h4 h3
theorem kd_cons {K : Nat → Nat} {k k1 : Nat} (h1 : 3 ≤ K k) (h : ∀ j, k + 1 ≤ j → j < k1 → 3 ≤ K j) : ∀ j, k ≤ j → j < k1 → 3 ≤ K j := fun j h2 h3 => by
  rcases Nat.lt_or_ge k j with h4 | h4
  · exact h j h4 h3
  · obtain rfl : j = k := by omega
    exact h1
theorem kd_0 {K : Nat → Nat} {k : Nat} : ∀ j, k ≤ j → j < k → 3 ≤ K j := fun j h1 h2 => by omega
theorem kd_1 {K : Nat → Nat} {k : Nat} (h : 3 ≤ K k) : ∀ j, k ≤ j → j < k + 1 → 3 ≤ K j := kd_snoc kd_0 h
section
variable {K : Nat → Nat} {R : Nat → Nat → Nat → Nat → Nat → PR}
theorem pxL_q (hG : pxG K R) {t u : Nat} (ht : t ∈ [0, 2, 4, 5, 6, 8, 10, 11]) (hu : u ∈ [1, 3, 7, 9]) {d k : Nat} {r : Nat × Nat × List Op} (h : pxL R t u d k = some r) : pxq K 1 1 0 0 k r.1 r.2.2 := by
  unfold pxL at h
  obtain ⟨r1, h1, h⟩ := Option.bind_eq_some_iff.mp h
  obtain ⟨r2, h2, h⟩ := Option.bind_eq_some_iff.mp h
  injection h with h
  subst h
  obtain ⟨a1, a2, a3, a4, a5⟩ := hG.1 t ht _ _ _ _ _ h1
  obtain ⟨b1, b2, b3, b4, b5⟩ := hG.2.1 u hu _ _ _ _ _ h2
  exact ⟨by dsimp only; omega, kd_app a2 b2, by dsimp only; rw [wC_app]; omega, by dsimp only; rw [nmN_app]; omega, by dsimp only; rw [cnN_app]; omega⟩
theorem pxL_q15 (hG : pxG K R) {d k : Nat} {r : Nat × Nat × List Op} (h : pxL R 15 12 d k = some r) : pxq K 1 1 0 0 k r.1 r.2.2 := by
  unfold pxL at h
  obtain ⟨r1, h1, h⟩ := Option.bind_eq_some_iff.mp h
  obtain ⟨r2, h2, h⟩ := Option.bind_eq_some_iff.mp h
  injection h with h
  subst h
  obtain ⟨a1, a2, a3, a4, a5⟩ := hG.2.2.2.2.2 _ _ _ _ _ h1
  obtain ⟨b1, b2, b3, b4, b5⟩ := hG.2.2.1 _ _ _ _ _ h2
  exact ⟨by dsimp only; omega, kd_app a2 b2, by dsimp only; rw [wC_app]; omega, by dsimp only; rw [nmN_app]; omega, by dsimp only; rw [cnN_app]; omega⟩
theorem pxJ_q (hG : pxG K R) {w op t u : Nat} (hw : 3 ≤ w) (hop : op = 6 ∨ op = 7) (ht : t ∈ [0, 2, 4, 5, 6, 8, 10, 11]) (hu : u ∈ [1, 3, 7, 9]) {d k a : Nat} {r : Nat × Nat × List Op} (h : pxJ K R w op t u d k a = some r) : pxq K 0 0 0 0 k r.1 r.2.2 := by
  unfold pxJ at h
  split at h
  · rename_i hk
    obtain ⟨r1, h1, h⟩ := Option.bind_eq_some_iff.mp h
    obtain ⟨r2, h2, h⟩ := Option.bind_eq_some_iff.mp h
    injection h with h
    subst h
    obtain ⟨a1, a2, a3, a4, a5⟩ := hG.1 t ht _ _ _ _ _ h1
    obtain ⟨b1, b2, b3, b4, b5⟩ := hG.2.1 u hu _ _ _ _ _ h2
    have e1 : lC (jmp K op r1.2.2) = 2 := by rcases hop with rfl | rfl <;> rfl
    have e2 : nmO (jmp K op r1.2.2) = 0 := by rcases hop with rfl | rfl <;> rfl
    have e3 : cnO (jmp K op r1.2.2) = 0 := by rcases hop with rfl | rfl <;> rfl
    refine ⟨by dsimp only; omega, kd_cons (by omega) (kd_app a2 b2), ?_, ?_, ?_⟩
    · show lC _ + wC _ + 0 ≤ _; rw [wC_app, e1]; dsimp only; omega
    · show 2 * (nmO _ + nmN _) ≤ _; rw [nmN_app, e2]; dsimp only; omega
    · show 2 * (cnO _ + cnN _) ≤ _; rw [cnN_app, e3]; dsimp only; omega
  · injection h with h
    subst h
    exact ⟨Nat.le_refl _, kd_0, Nat.zero_le _, Nat.zero_le _, Nat.zero_le _⟩
theorem pxO_q (hG : pxG K R) {op : Nat → Nat} (hop : ∀ x, op x ≠ 0 → 3 ≤ x ∧ 25 ≤ op x ∧ op x ≤ 43) {t u : Nat} (ht : t ∈ [0, 2, 4, 5, 6, 8, 10, 11]) (hu : u ∈ [1, 3, 7, 9]) {d k a : Nat} {r : Nat × Nat × List Op} (h : pxO K R op t u d k a = some r) : pxq K 0 0 0 0 k r.1 r.2.2 := by
  unfold pxO at h
  split at h
  · rename_i hk
    obtain ⟨r1, h1, h⟩ := Option.bind_eq_some_iff.mp h
    obtain ⟨r2, h2, h⟩ := Option.bind_eq_some_iff.mp h
    injection h with h
    subst h
    obtain ⟨a1, a2, a3, a4, a5⟩ := hG.1 t ht _ _ _ _ _ h1
    obtain ⟨b1, b2, b3, b4, b5⟩ := hG.2.1 u hu _ _ _ _ _ h2
    obtain ⟨c1, c2⟩ := hop _ hk
    refine ⟨by dsimp only; omega, kd_cons c1 (kd_app a2 b2), ?_, ?_, ?_⟩
    · dsimp only; rw [wC_app]; show wC _ + (lC _ + wC _) + 0 ≤ _; rw [lC_op (by omega)]; omega
    · dsimp only; rw [nmN_app]; show 2 * (nmN _ + (nmO _ + nmN _)) ≤ _; rw [nmO_op (by omega)]; omega
    · dsimp only; rw [cnN_app]; show 2 * (cnN _ + (cnO _ + cnN _)) ≤ _; rw [cnO_op (by omega)]; omega
  · injection h with h
    subst h
    exact ⟨Nat.le_refl _, kd_0, Nat.zero_le _, Nat.zero_le _, Nat.zero_le _⟩
theorem pxU_q (hG : pxG K R) {w op t u : Nat} (hw : 3 ≤ w) (hop : op = 25 ∨ op = 26) (ht : t ∈ [0, 2, 4, 5, 6, 8, 10, 11]) (hu : u ∈ [0, 2, 4, 5, 6, 8, 10, 11]) {d k : Nat} {r : Nat × Nat × List Op} (h : pxU K R w op t u d k = some r) : pxq K 1 1 0 0 k r.1 r.2.2 := by
  unfold pxU at h
  split at h
  · rename_i hk
    split at h
    · cases h
    obtain ⟨r1, h1, h⟩ := Option.bind_eq_some_iff.mp h
    injection h with h
    subst h
    obtain ⟨a1, a2, a3, a4, a5⟩ := hG.1 t ht _ _ _ _ _ h1
    refine ⟨by dsimp only; omega, kd_cons (by omega) a2, ?_, ?_, ?_⟩
    · dsimp only; rw [wC_app]; show wC _ + (lC _ + 0) + 0 ≤ _; rw [lC_op (by omega)]; omega
    · dsimp only; rw [nmN_app]; show 2 * (nmN _ + (nmO _ + 0)) ≤ _; rw [nmO_op (by omega)]; omega
    · dsimp only; rw [cnN_app]; show 2 * (cnN _ + (cnO _ + 0)) ≤ _; rw [cnO_op (by omega)]; omega
  · exact hG.1 u hu _ _ _ _ _ h
theorem px5_q (hG : pxG K R) {d k : Nat} {r : Nat × Nat × List Op} (h : px5 K R d k = some r) : pxq K 1 1 0 0 k r.1 r.2.2 := by
  unfold px5 at h
  obtain ⟨r1, h1, h⟩ := Option.bind_eq_some_iff.mp h
  have q1 := hG.1 6 (by decide) _ _ _ _ _ h1
  split at h
  · injection h with h
    subst h
    exact q1
  · rename_i hk
    obtain ⟨r2, h2, h⟩ := Option.bind_eq_some_iff.mp h
    injection h with h
    subst h
    obtain ⟨a1, a2, a3, a4, a5⟩ := q1
    obtain ⟨b1, b2, b3, b4, b5⟩ := hG.1 6 (by decide) _ _ _ _ _ h2
    obtain ⟨c1, c2⟩ := cmpO_ok hk
    refine ⟨by dsimp only; omega, kd_app a2 (kd_cons c1 b2), ?_, ?_, ?_⟩
    · dsimp only; rw [wC_app, wC_app]; show wC _ + (wC _ + (lC _ + 0)) + 0 ≤ _; rw [lC_op (by omega)]; omega
    · dsimp only; rw [nmN_app, nmN_app]; show 2 * (nmN _ + (nmN _ + (nmO _ + 0))) ≤ _; rw [nmO_op (by omega)]; omega
    · dsimp only; rw [cnN_app, cnN_app]; show 2 * (cnN _ + (cnN _ + (cnO _ + 0))) ≤ _; rw [cnO_op (by omega)]; omega
theorem px12_q (hG : pxG K R) {d k a : Nat} {r : Nat × Nat × List Op} (h : px12 K R d k a = some r) : pxq K 0 0 (e6 K k) 0 k r.1 r.2.2 := by
  unfold px12 at h
  split at h
  · rename_i hk
    split at h
    · cases h
    obtain ⟨r1, h1, h⟩ := Option.bind_eq_some_iff.mp h
    obtain ⟨r2, h2, h⟩ := Option.bind_eq_some_iff.mp h
    injection h with h
    subst h
    obtain ⟨a1, a2, a3, a4, a5⟩ := hG.2.2.2.1 _ _ _ _ _ (by decide) h1
    obtain ⟨b1, b2, b3, b4, b5⟩ := hG.2.2.1 _ _ _ _ _ h2
    have he := e6_le K k
    refine ⟨by dsimp only; omega, kd_cons (by omega) (kd_app a2 b2), ?_, ?_, ?_⟩
    · dsimp only; rw [wC_app]; show wC _ + (2 + wC _) + _ ≤ _; omega
    · dsimp only; rw [nmN_app]; show 2 * (nmN _ + (0 + nmN _)) ≤ _; omega
    · dsimp only; rw [cnN_app]; show 2 * (cnN _ + (0 + cnN _)) ≤ _; omega
  rename_i hk6
  rw [e6_0 hk6]
  split at h
  · rename_i hk
    split at h
    · cases h
    obtain ⟨r1, h1, h⟩ := Option.bind_eq_some_iff.mp h
    split at h
    · rename_i hk9
      obtain ⟨r2, h2, h⟩ := Option.bind_eq_some_iff.mp h
      injection h with h
      subst h
      obtain ⟨a1, a2, a3, a4, a5⟩ := hG.1 0 (by decide) _ _ _ _ _ h1
      obtain ⟨b1, b2, b3, b4, b5⟩ := hG.2.2.1 _ _ _ _ _ h2
      refine ⟨by dsimp only; omega, kd_cons (by omega) (kd_app a2 (kd_cons (by omega) b2)), ?_, ?_, ?_⟩
      · dsimp only; rw [wC_app]; show wC _ + (1 + wC _) + 0 ≤ _; omega
      · dsimp only; rw [nmN_app]; show 2 * (nmN _ + (0 + nmN _)) ≤ _; omega
      · dsimp only; rw [cnN_app]; show 2 * (cnN _ + (0 + cnN _)) ≤ _; omega
    · cases h
  split at h
  · rename_i hk
    split at h
    · rename_i hk3
      obtain ⟨r2, h2, h⟩ := Option.bind_eq_some_iff.mp h
      injection h with h
      subst h
      obtain ⟨b1, b2, b3, b4, b5⟩ := hG.2.2.1 _ _ _ _ _ h2
      refine ⟨by dsimp only; omega, kd_cons (by omega) (kd_cons (by omega) b2), ?_, ?_, ?_⟩
      · show 2 + wC _ + 0 ≤ _; dsimp only; omega
      · show 2 * (0 + nmN _) ≤ _; dsimp only; omega
      · show 2 * (0 + cnN _) ≤ _; dsimp only; omega
    · cases h
  · injection h with h
    subst h
    exact ⟨Nat.le_refl _, kd_0, Nat.zero_le _, Nat.zero_le _, Nat.zero_le _⟩
theorem px13_q (hG : pxG K R) {d k a b : Nat} (hb : 3 ≤ b) {r : Nat × Nat × List Op} (h : px13 K R d k a b = some r) : pxq K 1 0 0 0 k r.1 r.2.2 := by
  unfold px13 at h
  split at h
  · rename_i hk
    injection h with h
    subst h
    exact ⟨Nat.le_refl _, kd_1 (by omega), Nat.zero_le _, Nat.zero_le _, Nat.zero_le _⟩
  split at h
  · cases h
  obtain ⟨r1, h1, h⟩ := Option.bind_eq_some_iff.mp h
  obtain ⟨a1, a2, a3, a4, a5⟩ := hG.1 0 (by decide) _ _ _ _ _ h1
  split at h
  · rename_i hk
    injection h with h
    subst h
    exact ⟨by dsimp only; omega, kd_snoc a2 (by omega), by dsimp only; omega, by dsimp only; omega, by dsimp only; omega⟩
  split at h
  · rename_i hk
    obtain ⟨r2, h2, h⟩ := Option.bind_eq_some_iff.mp h
    injection h with h
    subst h
    obtain ⟨b1, b2, b3, b4, b5⟩ := hG.2.2.2.1 _ _ _ _ _ hb h2
    exact ⟨by dsimp only; omega, kd_app a2 (kd_cons (by omega) b2), by dsimp only; rw [wC_app]; omega, by dsimp only; rw [nmN_app]; omega, by dsimp only; rw [cnN_app]; omega⟩
  · cases h
theorem px14_q (hG : pxG K R) {d k a : Nat} {r : Nat × Nat × List Op} (h : px14 K R d k a = some r) : pxq K 1 0 0 0 k r.1 r.2.2 := by
  unfold px14 at h
  split at h
  · rename_i hk
    injection h with h
    subst h
    exact ⟨Nat.le_refl _, kd_1 (by omega), Nat.zero_le _, Nat.zero_le _, Nat.zero_le _⟩
  split at h
  · cases h
  obtain ⟨r1, h1, h⟩ := Option.bind_eq_some_iff.mp h
  obtain ⟨a1, a2, a3, a4, a5⟩ := hG.1 0 (by decide) _ _ _ _ _ h1
  split at h
  · rename_i hk13
    obtain ⟨u, hu, h⟩ := Option.bind_eq_some_iff.mp h
    obtain ⟨u1, u2, u3, u4, u5⟩ := hG.1 0 (by decide) _ _ _ _ _ hu
    split at h
    · rename_i hk
      injection h with h
      subst h
      exact ⟨by dsimp only; omega, kd_app a2 (kd_cons (by omega) (kd_snoc u2 (by omega))), by dsimp only; rw [wC_app]; omega, by dsimp only; rw [nmN_app]; omega, by dsimp only; rw [cnN_app]; omega⟩
    split at h
    · rename_i hk
      obtain ⟨r2, h2, h⟩ := Option.bind_eq_some_iff.mp h
      injection h with h
      subst h
      obtain ⟨b1, b2, b3, b4, b5⟩ := hG.2.2.2.2.1 _ _ _ _ _ h2
      exact ⟨by dsimp only; omega, kd_app a2 (kd_cons (by omega) (kd_app u2 (kd_cons (by omega) b2))), by dsimp only; rw [wC_app, wC_app]; omega, by dsimp only; rw [nmN_app, nmN_app]; omega, by dsimp only; rw [cnN_app, cnN_app]; omega⟩
    · cases h
  · cases h
theorem px15_q (hG : pxG K R) {d k : Nat} {r : Nat × Nat × List Op} (h : px15 K R d k = some r) : pxq K 1 1 0 (e6 K r.1) k r.1 r.2.2 := by
  unfold px15 at h
  split at h
  · rename_i hk
    injection h with h
    subst h
    refine ⟨Nat.le_refl _, kd_1 (by omega), ?_, ?_, ?_⟩
    · dsimp only
      by_cases h6 : K (k + 1) = 6
      · rw [if_pos h6, e6_1 h6]; show 4 + 0 ≤ _; omega
      · rw [if_neg h6]; show 3 + 0 ≤ _; omega
    · dsimp only
      by_cases h6 : K (k + 1) = 6
      · rw [if_pos h6]; show 2 * (1 + 0) ≤ _; omega
      · rw [if_neg h6]; show 2 * (1 + 0) ≤ _; omega
    · dsimp only
      by_cases h6 : K (k + 1) = 6
      · rw [if_pos h6]; show 2 * (0 + 0) ≤ _; omega
      · rw [if_neg h6]; show 2 * (0 + 0) ≤ _; omega
  split at h
  · rename_i hk
    injection h with h
    subst h
    exact ⟨Nat.le_refl _, kd_1 (by omega), (show 2 + 0 ≤ _ by dsimp only; omega), (show 2 * (0 + 0) ≤ _ by omega), (show 2 * (1 + 0) ≤ _ by dsimp only; omega)⟩
  split at h
  · rename_i hk
    split at h
    · cases h
    obtain ⟨r1, h1, h⟩ := Option.bind_eq_some_iff.mp h
    obtain ⟨a1, a2, a3, a4, a5⟩ := hG.1 0 (by decide) _ _ _ _ _ h1
    split at h
    · rename_i hk7
      injection h with h
      subst h
      exact ⟨by dsimp only; omega, kd_cons (by omega) (kd_snoc a2 (by omega)), by dsimp only; omega, by dsimp only; omega, by dsimp only; omega⟩
    · cases h
  split at h
  · rename_i hk
    split at h
    · cases h
    obtain ⟨r1, h1, h⟩ := Option.bind_eq_some_iff.mp h
    obtain ⟨a1, a2, a3, a4, a5⟩ := hG.2.2.2.1 _ _ _ _ _ (by decide) h1
    injection h with h
    subst h
    exact ⟨by dsimp only; omega, kd_cons (by omega) a2, by dsimp only; rw [wC_app]; show wC _ + (2 + 0) ≤ _; omega, by dsimp only; rw [nmN_app]; show 2 * (nmN _ + (0 + 0)) ≤ _; omega, by dsimp only; rw [cnN_app]; show 2 * (cnN _ + (0 + 0)) ≤ _; omega⟩
  split at h
  · rename_i hk
    split at h
    · cases h
    obtain ⟨r1, h1, h⟩ := Option.bind_eq_some_iff.mp h
    obtain ⟨a1, a2, a3, a4, a5⟩ := hG.2.2.2.2.1 _ _ _ _ _ h1
    injection h with h
    subst h
    exact ⟨by dsimp only; omega, kd_cons (by omega) a2, by dsimp only; rw [wC_app]; show wC _ + (2 + 0) ≤ _; omega, by dsimp only; rw [nmN_app]; show 2 * (nmN _ + (0 + 0)) ≤ _; omega, by dsimp only; rw [cnN_app]; show 2 * (cnN _ + (0 + 0)) ≤ _; omega⟩
  · cases h
theorem pxS_G (hG : pxG K R) : pxG K (pxS K R) := by
  refine ⟨fun t ht d k a b r h => ?_, fun t ht d k a b r h => ?_, fun d k a b r h => px12_q hG h, fun d k a b r hb h => px13_q hG hb h, fun d k a b r h => px14_q hG h, fun d k a b r h => px15_q hG h⟩
  · simp only [List.mem_cons, List.not_mem_nil, or_false] at ht
    rcases ht with rfl | rfl | rfl | rfl | rfl | rfl | rfl | rfl
    · exact pxL_q hG (by decide) (by decide) h
    · exact pxL_q hG (by decide) (by decide) h
    · exact pxU_q hG (by decide) (Or.inl rfl) (by decide) (by decide) h
    · exact px5_q hG h
    · exact pxL_q hG (by decide) (by decide) h
    · exact pxL_q hG (by decide) (by decide) h
    · exact pxU_q hG (by decide) (Or.inr rfl) (by decide) (by decide) h
    · exact pxL_q15 hG h
  · simp only [List.mem_cons, List.not_mem_nil, or_false] at ht
    rcases ht with rfl | rfl | rfl | rfl
    · exact pxJ_q hG (by decide) (Or.inr rfl) (by decide) (by decide) h
    · exact pxJ_q hG (by decide) (Or.inl rfl) (by decide) (by decide) h
    · exact pxO_q hG (fun x hx => by have := sumO_ok hx; omega) (by decide) (by decide) h
    · exact pxO_q hG (fun x hx => by have := trmO_ok hx; omega) (by decide) (by decide) h
end
theorem px_G (K : Nat → Nat) : ∀ f, pxG K (px K f) := by
  intro f
  induction f with
  | zero => exact ⟨fun _ _ _ _ _ _ _ h => (by cases h), fun _ _ _ _ _ _ _ h => (by cases h), fun _ _ _ _ _ h => (by cases h), fun _ _ _ _ _ _ h => (by cases h), fun _ _ _ _ _ h => (by cases h), fun _ _ _ _ _ h => (by cases h)⟩
  | succ f ih => exact pxS_G ih
