/-! HEIGHTS (pure): labelled rows of steps -/
/-- what is not to be touched: (x, 2) the list and the int of an open loop, (x, 1) what is to be called, (x, 0) where a try began; the scope -/
abbrev LL : Type := List (Nat × Nat) × Nat
/-- a label: none (never reached) or the height above the call's base, the tries that are open, the loops and the scope -/
abbrev HS : Type := Option (Nat × Nat × LL)
def lob (l : LL) : Nat := match l.1 with
  | [] => 0
  | x :: _ => x.1 + x.2
def lcn (x : Nat) (l : LL) : LL := ((x, 2) :: l.1, l.2)
def lcl (x : Nat) (l : LL) : LL := ((x, 1) :: l.1, l.2)
def ltr (x : Nat) (l : LL) : LL := ((x, 0) :: l.1, l.2)
def ldr (n : Nat) (l : LL) : LL := (l.1.drop n, l.2)
/-- the last n are tries -/
def tmk (l : LL) (n : Nat) : Prop := n ≤ l.1.length ∧ ∀ y, y ∈ l.1.take n → y.2 = 0
theorem tmk_0 (l : LL) : tmk l 0 := ⟨Nat.zero_le _, fun y hy => by rw [List.take_zero] at hy; cases hy⟩
theorem tmk_s {l : LL} {n x : Nat} (h : tmk l n) : tmk (ltr x l) (n + 1) := ⟨Nat.succ_le_succ h.1, fun y hy => by
  have hy : y ∈ (x, 0) :: l.1.take n := hy
  rcases List.mem_cons.mp hy with e | e
  · rw [e]
  · exact h.2 y e⟩
/-- what a step that puts what is to be called makes of it -/
def hcl (o : Op) (x : Nat) (l : LL) : LL := if o.1 = 21 then lcl x l else l
theorem hcl_n {o : Op} {x : Nat} {l : LL} (h : o.1 ≠ 21) : hcl o x l = l := if_neg h
/-- what a step takes off, what it puts -/
def hpp (o : Op) : Nat × Nat :=
  if o.1 = 16 ∨ o.1 = 18 ∨ o.1 = 21 ∨ o.1 = 22 ∨ o.1 = 63 ∨ o.1 = 61 then (0, 1)
  else if o.1 = 1 ∨ o.1 = 2 ∨ o.1 = 3 ∨ o.1 = 20 ∨ o.1 = 62 then (0, 0)
  else if o.1 = 25 ∨ o.1 = 26 ∨ o.1 = 44 then (1, 1)
  else if 27 ≤ o.1 ∧ o.1 ≤ 39 then (2, 1)
  else if o.1 = 40 then (2, 3)
  else if o.1 = 41 ∨ o.1 = 42 then (3, 0)
  else if o.1 = 43 ∨ o.1 = 46 ∨ o.1 = 47 then (2, 0)
  else if o.1 = 45 then (1, 2)
  else if o.1 = 24 then (o.2.1.headD 0 + 1, o.2.1.headD 0)
  else if o.1 = 23 then (o.2.1.length - 2 + (o.2.1.drop 1).headD 0, 1)
  else if o.1 = 49 then (o.2.1.headD 0, 1)
  else if o.1 = 50 then (2 * o.2.1.headD 0, 1)
  else if o.1 = 51 then (o.2.1.headD 0 + 1, 1)
  else (1, 0)
/-- a name without a scope, or of this one -/
def hnm (o : Op) (s : Nat) : Prop := 18 ≤ o.1 → o.1 ≤ 21 → o.2.1.length ≤ 1 ∨ o.2.1.getD 1 0 = s
def hlm (o : Op) : Prop := (o.1 = 24 → ∃ x, 1 ≤ x ∧ o.2.1 = [x, x]) ∧ (o.1 = 23 → 2 ≤ o.2.1.length ∧ o.2.1.length ≤ 42 ∧ (o.2.1.drop 1).headD 0 ≤ 1) ∧ (o.1 = 49 → o.2.1.headD 0 ≤ 40) ∧ (o.1 = 50 → o.2.1.headD 0 ≤ 20) ∧ (o.1 = 51 → o.2.1.headD 0 ≤ 8)
/-- from h, t, l on to the step behind -/
def hef (o : Op) (h t : Nat) (l : LL) (s' : HS) : Prop :=
  if o.1 = 9 then lob l + 1 ≤ h ∧ s' = some (h + 1, t, lcn (h - 1) l)
  else if o.1 = 10 then (∃ x l', l = lcn x l' ∧ h = x + 2) ∧ s' = some (h + 1, t, l)
  else if o.1 = 11 then ∃ x l', l = lcn x l' ∧ h = x + 2 ∧ s' = some (x, t, l')
  else if o.1 = 12 then lob l ≤ h ∧ s' = some (h, t + 1, ltr h l)
  else if o.1 = 13 then o.2.1.headD 0 ≤ t ∧ tmk l (o.2.1.headD 0) ∧ s' = some (h, t - o.2.1.headD 0, ldr (o.2.1.headD 0) l)
  else if o.1 = 0 ∨ o.1 = 4 ∨ o.1 = 60 then True
  else if o.1 = 15 then o.2.1 = [8]
  else if o.1 = 8 ∨ o.1 = 14 then lob l + 1 ≤ h
  else (hlm o ∧ hnm o l.2 ∧ lob l + (hpp o).1 ≤ h ∧ s' = some (h - (hpp o).1 + (hpp o).2, t, hcl o h l)) ∨ (o.1 = 51 ∧ hlm o ∧ ∃ x l', l = lcl x l' ∧ lob l' ≤ x ∧ h = x + 1 + o.2.1.headD 0 ∧ s' = some (x + 1, t, l'))
/-- where a jump goes to -/
def hjs (o : Op) (h t : Nat) (l : LL) : Nat × Nat × LL := if o.1 = 5 then (h - 1, t, l) else (h, t, l)
abbrev LO : Type := List (Op × HS)
def hhd (w : LO) (e : HS) : HS := match w with
  | [] => e
  | x :: _ => x.2
def lbb (s : HS) : Prop := ∀ h t l, s = some (h, t, l) → h ≤ 600 ∧ t ≤ 10
/-- (p, q) is the place of a step (or of the end), with this label -/
def hbn (K : Nat → Nat) (e : HS) : LO → Int → Int → Int → Int → Nat × Nat × LL → Prop
  | [], c, r, p, q, s => p = c ∧ q = r ∧ e = some s
  | x :: w, c, r, p, q, s => (p = c ∧ q = r ∧ x.2 = some s) ∨ hbn K e w (c + (lC x.1 : Nat)) (r + (lR K x.1 : Nat)) p q s
def hA (K : Nat → Nat) (T : Int → Int → Nat × Nat × LL → Prop) (ls e : HS) : LO → Int → Int → Prop
  | [], _, _ => True
  | x :: w, c, r => (lbb x.2 ∧ ∀ h t l, x.2 = some (h, t, l) → hef x.1 h t l (hhd w e) ∧ (isJ x.1.1 → T (c + x.1.2.2.1) (r + 1 + x.1.2.2.2) (hjs x.1 h t l)) ∧ (x.1.1 = 60 → ls = some (h, t, l)) ∧ (x.1.1 = 22 → T (-((x.1.2.1.headD 0 + 1 : Nat) : Int)) 0 (0, 0, ([], l.2)))) ∧ hA K T ls e w (c + (lC x.1 : Nat)) (r + (lR K x.1 : Nat))
section
variable {K : Nat → Nat} {T T' : Int → Int → Nat × Nat × LL → Prop} {a b w : LO} {e e' ls ls' : HS} {c r p q : Int} {s : Nat × Nat × LL} {o : Op}
abbrev opsO (w : LO) : List Op := w.map (fun x => x.1)
theorem hhd_app : hhd (a ++ b) e = hhd a (hhd b e) := by cases a <;> rfl
theorem hbn_l : ∀ {a : LO} {c r : Int}, hbn K (hhd b e) a c r p q s → hbn K e (a ++ b) c r p q s := by
  intro a
  induction a with
  | nil =>
    intro c r h
    obtain ⟨h1, h2, h3⟩ := h
    cases b with
    | nil => exact ⟨h1, h2, h3⟩
    | cons x w => exact Or.inl ⟨h1, h2, h3⟩
  | cons x w ih =>
    intro c r h
    rcases h with h | h
    · exact Or.inl h
    · exact Or.inr (ih h)
theorem hbn_at {c' r' : Int} (h : hbn K e a c r p q s) (hc : c = c') (hr : r = r') : hbn K e a c' r' p q s := by rw [← hc, ← hr]; exact h
theorem hbn_pq {p' q' : Int} (h : hbn K e a c r p q s) (hp : p' = p) (hq : q' = q) : hbn K e a c r p' q' s := by rw [hp, hq]; exact h
theorem hbn_r : ∀ {a : LO} {c r : Int}, hbn K e b (c + (wC (opsO a) : Nat)) (r + (wR K (opsO a) : Nat)) p q s → hbn K e (a ++ b) c r p q s := by
  intro a
  induction a with
  | nil => intro c r h; exact hbn_at h (by show c + 0 = c; omega) (by show r + 0 = r; omega)
  | cons x w ih =>
    intro c r h
    refine Or.inr (ih (hbn_at h ?_ ?_))
    · show c + ((lC x.1 + wC (opsO w) : Nat) : Int) = _; omega
    · show r + ((lR K x.1 + wR K (opsO w) : Nat) : Int) = _; omega
theorem hbn_0 (h : hhd a e = some s) : hbn K e a c r c r s := by
  cases a with
  | nil => exact ⟨rfl, rfl, h⟩
  | cons x w => exact Or.inl ⟨rfl, rfl, h⟩
theorem hbn_e : ∀ {a : LO} {c r : Int}, hbn K (some s) a c r (c + (wC (opsO a) : Nat)) (r + (wR K (opsO a) : Nat)) s := by
  intro a
  induction a with
  | nil => intro c r; exact ⟨by show c + 0 = c; omega, by show r + 0 = r; omega, rfl⟩
  | cons x w ih =>
    intro c r
    refine Or.inr (hbn_pq ih ?_ ?_)
    · show c + ((lC x.1 + wC (opsO w) : Nat) : Int) = _; omega
    · show r + ((lR K x.1 + wR K (opsO w) : Nat) : Int) = _; omega
theorem hbn_mv (u v : Int) : ∀ {a : LO} {c r : Int}, hbn K e a c r p q s → hbn K e a (c + u) (r + v) (p + u) (q + v) s := by
  intro a
  induction a with
  | nil => intro c r h; exact ⟨by rw [h.1], by rw [h.2.1], h.2.2⟩
  | cons x w ih =>
    intro c r h
    rcases h with h | h
    · exact Or.inl ⟨by rw [h.1], by rw [h.2.1], h.2.2⟩
    · exact Or.inr (hbn_at (ih h) (by omega) (by omega))
theorem hA_app : ∀ {a : LO} {c r : Int}, hA K T ls (hhd b e) a c r → hA K T ls e b (c + (wC (opsO a) : Nat)) (r + (wR K (opsO a) : Nat)) → hA K T ls e (a ++ b) c r := by
  intro a
  induction a with
  | nil =>
    intro c r _ h
    have e1 : c + ((wC (opsO []) : Nat) : Int) = c := by show c + 0 = c; omega
    have e2 : r + ((wR K (opsO []) : Nat) : Int) = r := by show r + 0 = r; omega
    rw [e1, e2] at h
    exact h
  | cons x w ih =>
    intro c r h1 h2
    refine ⟨⟨h1.1.1, fun h t l hx => ?_⟩, ih h1.2 ?_⟩
    · have := h1.1.2 h t l hx
      rw [← hhd_app] at this
      exact this
    · have e1 : c + ((wC (opsO (x :: w)) : Nat) : Int) = c + (lC x.1 : Nat) + (wC (opsO w) : Nat) := by show c + ((lC x.1 + wC (opsO w) : Nat) : Int) = _; omega
      have e2 : r + ((wR K (opsO (x :: w)) : Nat) : Int) = r + (lR K x.1 : Nat) + (wR K (opsO w) : Nat) := by show r + ((lR K x.1 + wR K (opsO w) : Nat) : Int) = _; omega
      rw [e1, e2] at h2
      exact h2
theorem hA_at {c' r' : Int} (h : hA K T ls e a c r) (hc : c = c') (hr : r = r') : hA K T ls e a c' r' := by rw [← hc, ← hr]; exact h
theorem hA_T : ∀ {a : LO} {c r : Int}, hA K T ls e a c r → (∀ p q s, T p q s → T' p q s) → hA K T' ls e a c r := by
  intro a
  induction a with
  | nil => intro c r _ _; exact True.intro
  | cons x w ih =>
    intro c r h hT
    exact ⟨⟨h.1.1, fun h' t l hx => ⟨(h.1.2 h' t l hx).1, fun hj => hT _ _ _ ((h.1.2 h' t l hx).2.1 hj), (h.1.2 h' t l hx).2.2.1, fun h2 => hT _ _ _ ((h.1.2 h' t l hx).2.2.2 h2)⟩⟩, ih h.2 hT⟩
/-- no loop was told of: it fits every loop -/
theorem hA_ls : ∀ {a : LO} {c r : Int}, hA K T none e a c r → hA K T ls e a c r := by
  intro a
  induction a with
  | nil => intro c r _; exact True.intro
  | cons x w ih =>
    intro c r h
    exact ⟨⟨h.1.1, fun h' t l hx => ⟨(h.1.2 h' t l hx).1, (h.1.2 h' t l hx).2.1, (fun h6 => by have := (h.1.2 h' t l hx).2.2.1 h6; cases this), (h.1.2 h' t l hx).2.2.2⟩⟩, ih h.2⟩
theorem hA_1 (hb : lbb e') (h : ∀ h t l, e' = some (h, t, l) → hef o h t l e ∧ (isJ o.1 → T (c + o.2.2.1) (r + 1 + o.2.2.2) (hjs o h t l)) ∧ (o.1 = 60 → ls = some (h, t, l)) ∧ (o.1 = 22 → T (-((o.2.1.headD 0 + 1 : Nat) : Int)) 0 (0, 0, ([], l.2)))) : hA K T ls e [(o, e')] c r := ⟨⟨hb, h⟩, True.intro⟩
theorem lbb_0 : lbb none := fun _ _ _ h => by cases h
theorem lbb_s {h t : Nat} {l : LL} (h1 : h ≤ 600) (h2 : t ≤ 10) : lbb (some (h, t, l)) := fun h' t' l' e => by
  injection e with e
  injection e with e1 e2
  injection e2 with e2 e3
  omega
/-- a label's scope -/
def lsc (s : Nat) (e : HS) : Prop := ∀ h t l, e = some (h, t, l) → l.2 = s
/-- jumps that land inside, with no loop around, in scope g, without functions -/
def hF (K : Nat → Nat) (g : Nat) (os : List Op) (s0 s1 : HS) : Prop := ∃ w : LO, opsO w = os ∧ hhd w s1 = s0 ∧ (∀ c r, hA K (fun p q s => hbn K s1 w c r p q s) none s1 w c r) ∧ ∀ x, x ∈ w → lsc g x.2 ∧ x.1.1 ≠ 22
variable {g : Nat}
theorem hF_nil : hF K g [] e e := ⟨[], rfl, rfl, fun _ _ => True.intro, fun x hx => by cases hx⟩
theorem hF_app {os os' : List Op} {s0 s1 s2 : HS} (h1 : hF K g os s0 s1) (h2 : hF K g os' s1 s2) : hF K g (os ++ os') s0 s2 := by
  obtain ⟨a, a1, a2, a3, a4⟩ := h1
  obtain ⟨b, b1, b2, b3, b4⟩ := h2
  refine ⟨a ++ b, by unfold opsO; rw [List.map_append, ← a1, ← b1], by rw [hhd_app, b2, a2], fun c r => hA_app ?_ ?_, fun x hx => (List.mem_append.mp hx).elim (a4 x) (b4 x)⟩
  · rw [b2]
    exact hA_T (a3 c r) (fun p q s g => hbn_l (by rw [b2]; exact g))
  · exact hA_T (b3 _ _) (fun p q s g => hbn_r g)
theorem lsc_0 : lsc g none := fun _ _ _ h => by cases h
theorem lsc_s {h t : Nat} {l : LL} (hl : l.2 = g) : lsc g (some (h, t, l)) := fun h' t' l' e => by
  injection e with e
  injection e with e1 e2
  injection e2 with e2 e3
  rw [← e3]; exact hl
/-- a step that is no jump -/
theorem hF_1 {s0 s1 : HS} (hj : ¬ isJ o.1) (h6 : o.1 ≠ 60) (h2 : o.1 ≠ 22) (hb : lbb s0) (hs : lsc g s0) (h : ∀ h t l, s0 = some (h, t, l) → hef o h t l s1) : hF K g [o] s0 s1 :=
  ⟨[(o, s0)], rfl, rfl, fun c r => hA_1 hb (fun h' t' l' e => ⟨h h' t' l' e, fun c => absurd c hj, fun c => absurd c h6, fun c => absurd c h2⟩), fun x hx => by
    rw [List.mem_singleton] at hx
    rw [hx]
    exact ⟨hs, h2⟩⟩
/-- a step that takes and puts -/
theorem hef_p {h t u : Nat} {l : LL} (h1 : 16 ≤ o.1 ∨ o.1 = 1 ∨ o.1 = 2 ∨ o.1 = 3) (h6 : o.1 ≠ 60) (hl : hlm o) (hn : hnm o l.2) (hm : lob l + (hpp o).1 ≤ h) (hu : u + (hpp o).1 = h + (hpp o).2) (h21 : o.1 ≠ 21 := by (try dsimp only); omega) : hef o h t l (some (u, t, l)) := by
  unfold hef
  rw [if_neg (by omega), if_neg (by omega), if_neg (by omega), if_neg (by omega), if_neg (by omega), if_neg (by omega), if_neg (by omega), if_neg (by omega)]
  exact Or.inl ⟨hl, hn, hm, by rw [hcl_n h21, show u = h - (hpp o).1 + (hpp o).2 by omega]⟩
theorem hF_p {h t u : Nat} {l : LL} (h1 : 16 ≤ o.1 ∨ o.1 = 1 ∨ o.1 = 2 ∨ o.1 = 3) (h6 : o.1 ≠ 60) (h2 : o.1 ≠ 22) (hl : hlm o) (hn : hnm o l.2) (hm : lob l + (hpp o).1 ≤ h) (hu : u + (hpp o).1 = h + (hpp o).2) (hh : h ≤ 600) (ht : t ≤ 10) (h21 : o.1 ≠ 21 := by (try dsimp only); omega) : hF K l.2 [o] (some (h, t, l)) (some (u, t, l)) :=
  hF_1 (by unfold isJ; omega) h6 h2 (lbb_s hh ht) (lsc_s rfl) (fun h' t' l' e => by
    injection e with e
    injection e with e1 e2
    injection e2 with e2 e3
    subst e1; subst e2; subst e3
    exact hef_p h1 h6 hl hn hm hu h21)
/-- what is never reached -/
theorem hF_dead (s1 : HS) : ∀ {os : List Op}, os ≠ [] → (∀ o, o ∈ os → o.1 ≠ 22) → hF K g os none s1 := by
  intro os hne h2
  have key : ∀ (os : List Op) (T : Int → Int → Nat × Nat × LL → Prop) (c r : Int), hA K T none s1 (os.map (fun o => (o, (none : HS)))) c r := by
    intro os
    induction os with
    | nil => intro T c r; exact True.intro
    | cons o os ih => intro T c r; exact ⟨⟨lbb_0, fun h t l e => by cases e⟩, ih T _ _⟩
  refine ⟨os.map (fun o => (o, none)), ?_, ?_, fun c r => key _ _ _ _, fun x hx => ?_⟩
  · unfold opsO
    rw [List.map_map]
    exact List.map_id' _
  · cases os with
    | nil => exact absurd rfl hne
    | cons o os => rfl
  · obtain ⟨o, ho, e⟩ := List.mem_map.mp hx
    rw [← e]
    exact ⟨lsc_0, h2 o ho⟩
end
