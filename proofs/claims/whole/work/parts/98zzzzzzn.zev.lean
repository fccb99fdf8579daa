/-! WHERE NAMES ARE, PURE: events of a scope (a name bound, a name told global), in one pass and in two -/
/-- e: is the name of token e.2 told global? -/
def evB (V : Nat → Int32) (l : List Int32) (e : Bool × Nat) : List Int32 := if e.1 = true then l else bindH l (V e.2)
def evG (V : Nat → Int32) (p : Nat) (lo : List Int32 × List Int32) (e : Bool × Nat) : List Int32 × List Int32 := if e.1 = true then (erH p lo.1 (V e.2), lo.2 ++ [V e.2]) else lo
/-- entries: names and kinds -/
def evS (V : Nat → Int32) (l : List (Int32 × Nat)) (e : Bool × Nat) : List (Int32 × Nat) :=
  if V e.2 ∈ l.map Prod.fst then (if e.1 = true then l.map (fun y => if y.1 = V e.2 then (y.1, 2) else y) else l) else l ++ [(V e.2, if e.1 = true then 2 else 0)]
def evOk (V : Nat → Int32) : List (Int32 × Nat) → List (Bool × Nat) → Prop
  | _, [] => True
  | l, e :: M => (e.1 = true → (V e.2, 1) ∉ l) ∧ evOk V (evS V l e) M
def noG (G l : List Int32) : List Int32 := l.filter (fun x => decide (x ∉ G))
def gsM (V : Nat → Int32) (M : List (Bool × Nat)) : List Int32 := (M.filter (fun e => e.1)).map (fun e => V e.2)
section
variable {V : Nat → Int32} {l : List (Int32 × Nat)} {B G : List Int32} {e : Bool × Nat} {x : Int32}
theorem noG_app (G a b : List Int32) : noG G (a ++ b) = noG G a ++ noG G b := List.filter_append ..
theorem noG_in (h : x ∈ G) : noG G [x] = [] := by
  unfold noG
  rw [List.filter_cons_of_neg (by simp [h])]; rfl
theorem noG_mem : x ∈ noG G B ↔ x ∈ B ∧ x ∉ G := by
  unfold noG
  rw [List.mem_filter, decide_eq_true_iff]
theorem evS_fst (V : Nat → Int32) (l : List (Int32 × Nat)) (e : Bool × Nat) : (evS V l e).map Prod.fst = if V e.2 ∈ l.map Prod.fst then l.map Prod.fst else l.map Prod.fst ++ [V e.2] := by
  unfold evS
  split
  · split
    · rw [List.map_map]
      exact List.map_congr_left (fun y _ => by
        show (if y.1 = V e.2 then (y.1, 2) else y).1 = y.1
        split <;> rfl)
    · rfl
  · rw [List.map_append]; rfl
theorem evS_nd (h : (l.map Prod.fst).Nodup) : ((evS V l e).map Prod.fst).Nodup := by
  rw [evS_fst]
  split
  · exact h
  · rename_i hn
    exact List.nodup_append.mpr ⟨h, List.nodup_cons.mpr ⟨List.not_mem_nil, List.nodup_nil⟩, fun a ha b hb => by
      rw [List.mem_singleton] at hb
      intro e2
      exact hn (by rw [← hb, ← e2]; exact ha)⟩
/-- kinds: what is told global stays so, a parameter stays one -/
theorem evS_2 (h : (x, 2) ∈ l) : (x, 2) ∈ evS V l e := by
  unfold evS
  split
  · split
    · refine List.mem_map.mpr ⟨(x, 2), h, ?_⟩
      show (if x = V e.2 then (x, 2) else (x, 2)) = _
      split <;> rfl
    · exact h
  · exact List.mem_append_left _ h
theorem evS_1 (h : (x, 1) ∈ l) (hn : e.1 = true → V e.2 ≠ x) : (x, 1) ∈ evS V l e := by
  unfold evS
  split
  · split
    · rename_i he
      refine List.mem_map.mpr ⟨(x, 1), h, ?_⟩
      show (if x = V e.2 then (x, 2) else (x, 1)) = _
      rw [if_neg (fun q => hn he q.symm)]
    · exact h
  · exact List.mem_append_left _ h
theorem evS_g (he : e.1 = true) : (V e.2, 2) ∈ evS V l e := by
  unfold evS
  split
  · rename_i hm
    try rw [if_pos he]
    obtain ⟨y, y1, y2⟩ := List.mem_map.mp hm
    refine List.mem_map.mpr ⟨y, y1, ?_⟩
    show (if y.1 = V e.2 then (y.1, 2) else y) = _
    rw [if_pos y2, y2]
  · try rw [if_pos he]
    exact List.mem_append_right _ (List.mem_singleton_self _)
theorem evS_2r (h : (x, 2) ∈ evS V l e) : (x, 2) ∈ l ∨ (e.1 = true ∧ V e.2 = x) := by
  unfold evS at h
  split at h
  · split at h
    · rename_i he
      obtain ⟨y, y1, y2⟩ := List.mem_map.mp h
      have y2' : (if y.1 = V e.2 then (y.1, 2) else y) = (x, 2) := y2
      split at y2'
      · rename_i hy
        injection y2' with q1 q2
        exact Or.inr ⟨he, by rw [← hy]; exact q1⟩
      · rw [y2'] at y1
        exact Or.inl y1
    · exact Or.inl h
  · rcases List.mem_append.mp h with h | h
    · exact Or.inl h
    · rw [List.mem_singleton] at h
      injection h with q1 q2
      split at q2
      · rename_i he
        exact Or.inr ⟨he, q1.symm⟩
      · cases q2
/-- one pass, two passes: alike but for what is told global -/
def evQ (l : List (Int32 × Nat)) (B : List Int32) : Prop := ∀ G : List Int32, (∀ x, (x, 2) ∈ l → x ∈ G) → noG G (l.map Prod.fst) = noG G B
theorem evQ_ev (h : evQ l B) : evQ (evS V l e) (evB V B e) := by
  intro G hG
  have hG0 : ∀ x, (x, 2) ∈ l → x ∈ G := fun x hx => hG x (evS_2 hx)
  have h0 := h G hG0
  have hme : ∀ x, x ∉ G → (x ∈ l.map Prod.fst ↔ x ∈ B) := fun x hx => by
    constructor
    · intro q
      have : x ∈ noG G B := by rw [← h0]; exact noG_mem.mpr ⟨q, hx⟩
      exact (noG_mem.mp this).1
    · intro q
      have : x ∈ noG G (l.map Prod.fst) := by rw [h0]; exact noG_mem.mpr ⟨q, hx⟩
      exact (noG_mem.mp this).1
  rw [evS_fst]
  by_cases he : e.1 = true
  · have hx : V e.2 ∈ G := hG _ (evS_g he)
    unfold evB
    rw [if_pos he]
    split
    · exact h0
    · rw [noG_app, noG_in hx, List.append_nil]; exact h0
  · unfold evB bindH
    rw [if_neg he]
    by_cases hx : V e.2 ∈ G
    · have a1 : noG G (if V e.2 ∈ l.map Prod.fst then l.map Prod.fst else l.map Prod.fst ++ [V e.2]) = noG G (l.map Prod.fst) := by
        split
        · rfl
        · rw [noG_app, noG_in hx, List.append_nil]
      have a2 : noG G (if V e.2 ∈ B then B else B ++ [V e.2]) = noG G B := by
        split
        · rfl
        · rw [noG_app, noG_in hx, List.append_nil]
      rw [a1, a2]
      exact h0
    · by_cases hm : V e.2 ∈ l.map Prod.fst
      · rw [if_pos hm, if_pos ((hme _ hx).mp hm)]; exact h0
      · rw [if_neg hm, if_neg (fun q => hm ((hme _ hx).mpr q)), noG_app, noG_app, h0]
theorem ev_all : ∀ (M : List (Bool × Nat)) (l : List (Int32 × Nat)) (B : List Int32), evQ l B → (l.map Prod.fst).Nodup → evQ (M.foldl (evS V) l) (M.foldl (evB V) B) ∧ ((M.foldl (evS V) l).map Prod.fst).Nodup := by
  intro M
  induction M with
  | nil => intro l B h1 h2; exact ⟨h1, h2⟩
  | cons e M ih => intro l B h1 h2; exact ih _ _ (evQ_ev h1) (evS_nd h2)
theorem ev_gs : ∀ (M : List (Bool × Nat)) (l : List (Int32 × Nat)), (x, 2) ∈ M.foldl (evS V) l ↔ (x, 2) ∈ l ∨ x ∈ gsM V M := by
  intro M
  induction M with
  | nil => intro l; exact ⟨Or.inl, fun h => h.elim id (fun q => by cases q)⟩
  | cons e M ih =>
    intro l
    have hg : x ∈ gsM V (e :: M) ↔ (e.1 = true ∧ V e.2 = x) ∨ x ∈ gsM V M := by
      unfold gsM
      by_cases he : e.1 = true
      · rw [List.filter_cons_of_pos he, List.map_cons, List.mem_cons]
        exact ⟨fun h => h.imp (fun q => ⟨he, q.symm⟩) id, fun h => h.imp (fun q => q.2.symm) id⟩
      · rw [List.filter_cons_of_neg he]
        exact ⟨Or.inr, fun h => h.elim (fun q => absurd q.1 he) id⟩
    show (x, 2) ∈ M.foldl (evS V) (evS V l e) ↔ _
    rw [ih, hg]
    constructor
    · rintro (h | h)
      · rcases evS_2r h with q | q
        · exact Or.inl q
        · exact Or.inr (Or.inl q)
      · exact Or.inr (Or.inr h)
    · rintro (h | ⟨h1, h2⟩ | h)
      · exact Or.inl (evS_2 h)
      · exact Or.inl (by rw [← h2]; exact evS_g h1)
      · exact Or.inr h
/-- a parameter is not told global -/
theorem ev_p : ∀ (M : List (Bool × Nat)) (l : List (Int32 × Nat)), evOk V l M → (x, 1) ∈ l → x ∉ gsM V M := by
  intro M
  induction M with
  | nil => intro l _ _ h; cases h
  | cons e M ih =>
    intro l ho hx
    have hn : e.1 = true → V e.2 ≠ x := fun he q => ho.1 he (by rw [q]; exact hx)
    have := ih _ ho.2 (evS_1 hx hn)
    unfold gsM at this ⊢
    by_cases he : e.1 = true
    · rw [List.filter_cons_of_pos he, List.map_cons, List.mem_cons]
      exact fun h => h.elim (fun q => hn he q.symm) this
    · rw [List.filter_cons_of_neg he]; exact this
theorem er_no {p : Nat} {l : List Int32} (hn : l.Nodup) (hp : x ∉ l.take p) : erH p l x = noG [x] l := by
  have key : ∀ (l : List Int32), l.Nodup → (∀ i, l.findIdx? (fun y => y == x) = some i → l.eraseIdx i = noG [x] l) ∧ (l.findIdx? (fun y => y == x) = none → l = noG [x] l) := by
    intro l
    induction l with
    | nil => intro _; exact ⟨(fun i hi => by cases hi), fun _ => rfl⟩
    | cons y r ih =>
      intro hn
      obtain ⟨hn1, hn2⟩ := List.nodup_cons.mp hn
      obtain ⟨i1, i2⟩ := ih hn2
      rw [List.findIdx?_cons]
      by_cases hy : y = x
      · rw [if_pos (by rw [hy]; exact beq_self_eq_true x)]
        refine ⟨fun i hi => ?_, fun h => by cases h⟩
        injection hi with hi
        subst hi
        show r = noG [x] (y :: r)
        have h1 : noG [x] (y :: r) = noG [x] r := List.filter_cons_of_neg (by simp [hy])
        rw [h1]
        symm
        exact List.filter_eq_self.mpr (fun z hz => decide_eq_true (fun q => by
          rw [List.mem_singleton] at q
          exact hn1 (by rw [hy, ← q]; exact hz)))
      · rw [if_neg (by simp [hy])]
        have h1 : noG [x] (y :: r) = y :: noG [x] r := List.filter_cons_of_pos (by simp [hy])
        rw [h1]
        constructor
        · intro i hi
          cases hf : r.findIdx? (fun y => y == x) with
          | none => rw [hf] at hi; cases hi
          | some j =>
            rw [hf] at hi
            have hi' : j + 1 = i := by
              injection hi
            rw [← hi']
            show y :: r.eraseIdx j = _
            rw [i1 j hf]
        · intro hi
          cases hf : r.findIdx? (fun y => y == x) with
          | none => rw [← i2 hf]
          | some j => rw [hf] at hi; cases hi
  obtain ⟨k1, k2⟩ := key l hn
  unfold erH
  cases hf : l.findIdx? (fun y => y == x) with
  | none => exact k2 hf
  | some i =>
    dsimp only
    rw [if_neg (fun hi => ?_)]
    · exact k1 i hf
    · obtain ⟨h1, h2, h3⟩ := List.findIdx?_eq_some_iff_getElem.mp hf
      refine hp ?_
      have h4 : l[i] = x := by simpa using h2
      rw [← h4]
      exact List.mem_take_iff_getElem.mpr ⟨i, by omega, rfl⟩
theorem noG_take {p : Nat} {l : List Int32} (hp : x ∉ l.take p) : (noG [x] l).take p = l.take p := by
  induction l generalizing p with
  | nil => rfl
  | cons y r ih =>
    cases p with
    | zero => rfl
    | succ p =>
      rw [List.take_succ_cons, List.mem_cons] at hp
      have h1 : noG [x] (y :: r) = y :: noG [x] r := List.filter_cons_of_pos (by
        rw [decide_eq_true_iff, List.mem_singleton]
        exact fun q => hp (Or.inl q.symm))
      rw [h1, List.take_succ_cons, List.take_succ_cons, ih (fun q => hp (Or.inr q))]
theorem ev_LO {p : Nat} : ∀ (M : List (Bool × Nat)) (B O : List Int32), B.Nodup → (∀ x, x ∈ B.take p → x ∉ gsM V M) → M.foldl (evG V p) (B, O) = (noG (gsM V M) B, O ++ gsM V M) := by
  intro M
  induction M with
  | nil =>
    intro B O _ _
    show (B, O) = (noG [] B, O ++ [])
    rw [List.append_nil]
    have : noG [] B = B := List.filter_eq_self.mpr (fun z _ => decide_eq_true (fun q => by cases q))
    rw [this]
  | cons e M ih =>
    intro B O hn hp
    show M.foldl (evG V p) (evG V p (B, O) e) = _
    by_cases he : e.1 = true
    · have hg : gsM V (e :: M) = V e.2 :: gsM V M := by
        unfold gsM
        rw [List.filter_cons_of_pos he, List.map_cons]
      have hx : V e.2 ∉ B.take p := fun q => hp _ q (by rw [hg]; exact List.mem_cons_self ..)
      have e1 : evG V p (B, O) e = (noG [V e.2] B, O ++ [V e.2]) := by
        unfold evG
        rw [if_pos he, er_no hn hx]
      rw [e1, ih (noG [V e.2] B) _ (List.Pairwise.filter _ hn) (fun y hy => by
        rw [noG_take hx] at hy
        have := hp y hy
        rw [hg] at this
        exact fun q => this (List.mem_cons_of_mem _ q)), hg, List.append_assoc]
      have e2 : noG (gsM V M) (noG [V e.2] B) = noG (V e.2 :: gsM V M) B := by
        unfold noG
        rw [List.filter_filter]
        refine List.filter_congr (fun z _ => ?_)
        rw [Bool.eq_iff_iff, Bool.and_eq_true, decide_eq_true_iff, decide_eq_true_iff, decide_eq_true_iff]
        exact ⟨fun q h => (List.mem_cons.mp h).elim (fun h => q.2 (by rw [h]; exact List.mem_cons_self ..)) q.1, fun q => ⟨fun h => q (List.mem_cons_of_mem _ h), fun h => q (by
          rw [List.mem_singleton] at h
          rw [h]; exact List.mem_cons_self ..)⟩⟩
      rw [e2]
      rfl
    · have hg : gsM V (e :: M) = gsM V M := by
        unfold gsM
        rw [List.filter_cons_of_neg he]
      have e1 : evG V p (B, O) e = (B, O) := by
        unfold evG
        rw [if_neg he]
      rw [e1, hg]
      exact ih _ _ hn (fun y hy => by rw [← hg]; exact hp y hy)
theorem evB_nd : ∀ (M : List (Bool × Nat)) (B : List Int32), B.Nodup → (M.foldl (evB V) B).Nodup ∧ ∃ r, M.foldl (evB V) B = B ++ r := by
  intro M
  induction M with
  | nil => intro B h; exact ⟨h, [], (List.append_nil _).symm⟩
  | cons e M ih =>
    intro B h
    have h1 : (evB V B e).Nodup ∧ ∃ r, evB V B e = B ++ r := by
      unfold evB bindH
      split
      · exact ⟨h, [], (List.append_nil _).symm⟩
      · split
        · exact ⟨h, [], (List.append_nil _).symm⟩
        · rename_i hn
          exact ⟨List.nodup_append.mpr ⟨h, List.nodup_cons.mpr ⟨List.not_mem_nil, List.nodup_nil⟩, fun a ha b hb e2 => hn (by
            rw [List.mem_singleton] at hb
            rw [← hb, ← e2]; exact ha)⟩, _, rfl⟩
    obtain ⟨r, hr⟩ := h1.2
    obtain ⟨i1, r2, i2⟩ := ih _ h1.1
    exact ⟨i1, r ++ r2, by
      show M.foldl (evB V) (evB V B e) = _
      rw [i2, hr, List.append_assoc]⟩
/-- a scope's entries are what the two passes find -/
theorem ev_fin {p : List Int32} {M : List (Bool × Nat)} (hn : p.Nodup) (ho : evOk V (p.map fun x => (x, 1)) M) : M.foldl (evG V p.length) (M.foldl (evB V) p, []) = (((M.foldl (evS V) (p.map fun x => (x, 1))).filter (fun y => decide (y.2 ≠ 2))).map Prod.fst, gsM V M) ∧ (∀ x, x ∈ gsM V M ↔ (x, 2) ∈ M.foldl (evS V) (p.map fun x => (x, 1))) := by
  have h0 : (p.map fun x => (x, 1)).map Prod.fst = p := by
    rw [List.map_map]
    exact List.map_id _
  have hq : evQ (p.map fun x => (x, 1)) p := fun G _ => by rw [h0]
  obtain ⟨q1, q2⟩ := ev_all (V := V) M _ _ hq (by rw [h0]; exact hn)
  have hg : ∀ x, x ∈ gsM V M ↔ (x, 2) ∈ M.foldl (evS V) (p.map fun x => (x, 1)) := fun x => by
    rw [ev_gs]
    exact ⟨Or.inr, fun h => h.elim (fun q => by
      obtain ⟨y, _, y2⟩ := List.mem_map.mp q
      injection y2 with _ y3
      cases y3) id⟩
  obtain ⟨n1, r, n2⟩ := evB_nd (V := V) M p hn
  refine ⟨?_, hg⟩
  rw [ev_LO M _ _ n1 (fun x hx => ?_), List.nil_append, ← q1 (gsM V M) (fun x hx => (hg x).mpr hx)]
  · congr 1
    unfold noG
    rw [List.filter_map]
    congr 1
    refine List.filter_congr (fun y hy => ?_)
    show decide (y.1 ∉ gsM V M) = _
    rw [Bool.eq_iff_iff, decide_eq_true_iff, decide_eq_true_iff]
    constructor
    · intro h h2
      exact h ((hg _).mpr (by rw [← h2]; exact hy))
    · intro h h2
      have h3 := (hg _).mp h2
      obtain ⟨i, i1, i2⟩ := List.mem_iff_getElem.mp hy
      obtain ⟨j, j1, j2⟩ := List.mem_iff_getElem.mp h3
      have h4 := List.pairwise_iff_getElem.mp q2
      have e1 : ∀ (k : Nat) (hk : k < (M.foldl (evS V) (p.map fun x => (x, 1))).length), ((M.foldl (evS V) (p.map fun x => (x, 1))).map Prod.fst)[k]'(by rw [List.length_map]; exact hk) = ((M.foldl (evS V) (p.map fun x => (x, 1)))[k]).1 := fun k hk => List.getElem_map ..
      rcases Nat.lt_trichotomy i j with q | q | q
      · refine h4 i j (by rw [List.length_map]; exact i1) (by rw [List.length_map]; exact j1) q ?_
        rw [e1 i i1, e1 j j1, i2, j2]
      · subst q
        rw [i2] at j2
        exact h (by rw [j2])
      · refine h4 j i (by rw [List.length_map]; exact j1) (by rw [List.length_map]; exact i1) q ?_
        rw [e1 i i1, e1 j j1, i2, j2]
  · have : x ∈ p := by
      rw [n2, List.take_append_of_le_length (Nat.le_refl _), List.take_length] at hx
      exact hx
    exact ev_p M _ ho (List.mem_map.mpr ⟨x, this, rfl⟩)
end
