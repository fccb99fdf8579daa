/-! HEIGHTS (pure): pieces at their places -/
/-- functions: the scope's number, its entry -/
abbrev FS : Type := List (Nat × Nat × Nat × Nat × Nat)
/-- the scope around function p (told as a place below 0) -/
def fnP (fs : FS) (p : Int) (s : Nat × Nat × LL) : Prop := ∃ f, f ∈ fs ∧ p = -(f.1 : Int) ∧ s.2.2.2 = f.2.1
theorem fnP_m {fs fs' : FS} {p : Int} {s : Nat × Nat × LL} (hm : ∀ f, f ∈ fs → f ∈ fs') (h : fnP fs p s) : fnP fs' p s := by
  obtain ⟨f, f1, f2⟩ := h
  exact ⟨f, hm f f1, f2⟩
/-- os at ca, ra goes from s0 to s1; where functions begin the height is 0 -/
def hO (K : Nat → Nat) (lp : LpT) (ls : HS) (ca ra : Nat) (os : List Op) (s0 s1 : HS) (fs : FS) : Prop := ∃ w : LO, opsO w = os ∧ hhd w s1 = s0 ∧ hA K (fun p q s => hbn K s1 w ca ra p q s ∨ (lpP lp p q ∧ ls = some s) ∨ fnP fs p s) ls s1 w ca ra ∧ ∀ f, f ∈ fs → hbn K s1 w ca ra (f.2.2.1 : Nat) (f.2.2.2.1 : Nat) (0, 0, ([], f.1))
section
variable {K : Nat → Nat} {lp : LpT} {ls s0 s1 s2 : HS} {ca ra g : Nat} {os os' : List Op} {fs fs' : FS} {o : Op} {h tr : Nat} {l : LL} {T : Int → Int → Nat × Nat × LL → Prop} {e e' : HS} {w : LO} {c r : Int}
theorem opsO_app (a b : LO) : opsO (a ++ b) = opsO a ++ opsO b := List.map_append
theorem hO_nil : hO K lp ls ca ra [] s0 s0 [] := ⟨[], rfl, rfl, True.intro, fun f hf => by cases hf⟩
theorem hO_app {ca' ra' : Nat} (h1 : hO K lp ls ca ra os s0 s1 fs) (h2 : hO K lp ls ca' ra' os' s1 s2 fs') (hc : ca' = ca + wC os) (hr : ra' = ra + wR K os) : hO K lp ls ca ra (os ++ os') s0 s2 (fs ++ fs') := by
  obtain ⟨a, a1, a2, a3, a4⟩ := h1
  obtain ⟨b, b1, b2, b3, b4⟩ := h2
  have e1 : (ca' : Int) = (ca : Int) + (wC (opsO a) : Nat) := by rw [a1]; omega
  have e2 : (ra' : Int) = (ra : Int) + (wR K (opsO a) : Nat) := by rw [a1]; omega
  rw [e1, e2] at b3 b4
  refine ⟨a ++ b, by rw [opsO_app, a1, b1], by rw [hhd_app, b2, a2], hA_app ?_ ?_, fun f hf => ?_⟩
  · rw [b2]
    exact hA_T a3 (fun p q s g => g.elim (fun g => Or.inl (hbn_l (by rw [b2]; exact g))) (fun g => Or.inr (g.imp id (fnP_m (fun f => List.mem_append_left _)))))
  · exact hA_T b3 (fun p q s g => g.elim (fun g => Or.inl (hbn_r g)) (fun g => Or.inr (g.imp id (fnP_m (fun f => List.mem_append_right _)))))
  · rcases List.mem_append.mp hf with hf | hf
    · exact hbn_l (by rw [b2]; exact a4 f hf)
    · exact hbn_r (b4 f hf)
theorem hO_F (h : hF K g os s0 s1) : hO K lp ls ca ra os s0 s1 [] := by
  obtain ⟨w, w1, w2, w3, w4⟩ := h
  exact ⟨w, w1, w2, hA_ls (hA_T (w3 ca ra) (fun p q s g => Or.inl g)), fun f hf => by cases hf⟩
theorem hO_w (h : hO K none none ca ra os s0 s1 fs) : hO K lp ls ca ra os s0 s1 fs := by
  obtain ⟨w, w1, w2, w3, w4⟩ := h
  exact ⟨w, w1, w2, hA_ls (hA_T w3 (fun p q s g => g.elim Or.inl (fun g => g.elim (fun g => g.1.elim) (fun g => Or.inr (Or.inr g))))), w4⟩
theorem hO_c (h1 : hF K g [o] s0 s1) (h2 : hO K lp ls (ca + lC o) (ra + lR K o) os s1 s2 fs) : hO K lp ls ca ra (o :: os) s0 s2 fs := hO_app (os := [o]) (fs := []) (hO_F h1) h2 (by rw [(w1 (K := K) o).1]) (by rw [(w1 o).2])
/-- breaks become jumps -/
def rsvL (K : Nat → Nat) (ce re : Nat) : Nat → Nat → LO → LO
  | _, _, [] => []
  | c, r, x :: l => ((if x.1.1 = 60 then (4, [], (ce : Int) - c, (re : Int) - (r + 1)) else x.1), x.2) :: rsvL K ce re (c + lC x.1) (r + lR K x.1) l
theorem rsvL_o {ce re : Nat} : ∀ (w : LO) (c r : Nat), opsO (rsvL K ce re c r w) = rsv K ce re c r (opsO w) := by
  intro w
  induction w with
  | nil => intro c r; rfl
  | cons x w ih =>
    intro c r
    show _ :: opsO (rsvL K ce re (c + lC x.1) (r + lR K x.1) w) = _ :: _
    rw [ih]
theorem rsvL_h {ce re : Nat} (w : LO) (c r : Nat) (e : HS) : hhd (rsvL K ce re c r w) e = hhd w e := by cases w <;> rfl
theorem rsv_l1 {ce re c r : Nat} (o : Op) : lC (if o.1 = 60 then ((4, [], (ce : Int) - c, (re : Int) - (r + 1)) : Op) else o) = lC o ∧ lR K (if o.1 = 60 then ((4, [], (ce : Int) - c, (re : Int) - (r + 1)) : Op) else o) = lR K o := by
  by_cases h : o.1 = 60
  · rw [if_pos h, lC_60 h, lR_60 h]; exact ⟨rfl, rfl⟩
  · rw [if_neg h]; exact ⟨rfl, rfl⟩
theorem rsvL_b {ce re : Nat} {p q : Int} {s : Nat × Nat × LL} : ∀ (w : LO) (c0 r0 : Nat) (c r : Int), hbn K e w c r p q s → hbn K e (rsvL K ce re c0 r0 w) c r p q s := by
  intro w
  induction w with
  | nil => intro c0 r0 c r h; exact h
  | cons x w ih =>
    intro c0 r0 c r h
    rcases h with h | h
    · exact Or.inl h
    · refine Or.inr ?_
      show hbn K e _ (c + (lC (if x.1.1 = 60 then ((4, [], (ce : Int) - c0, (re : Int) - (r0 + 1)) : Op) else x.1) : Nat)) (r + (lR K (if x.1.1 = 60 then ((4, [], (ce : Int) - c0, (re : Int) - (r0 + 1)) : Op) else x.1) : Nat)) p q s
      rw [(rsv_l1 (K := K) x.1).1, (rsv_l1 x.1).2]
      exact ih _ _ _ _ h
theorem rsvL_A {ce re : Nat} {ls' : HS} : ∀ (w : LO) (c r : Nat), hA K T ls' e w c r → (∀ s, ls' = some s → T (ce : Nat) (re : Nat) s) → hA K T ls e (rsvL K ce re c r w) c r := by
  intro w
  induction w with
  | nil => intro c r _ _; exact True.intro
  | cons x w ih =>
    intro c r h hT
    have ih' := ih (c + lC x.1) (r + lR K x.1) (hA_at h.2 (by omega) (by omega)) hT
    refine ⟨⟨h.1.1, fun h' t l hx => ?_⟩, ?_⟩
    · obtain ⟨g1, g2, g3, g4⟩ := h.1.2 h' t l hx
      rw [rsvL_h]
      by_cases h6 : x.1.1 = 60
      · dsimp only
        rw [if_pos h6]
        have e1 : (c : Int) + ((ce : Int) - c) = (ce : Nat) := by omega
        have e2 : (r : Int) + 1 + ((re : Int) - (r + 1)) = (re : Nat) := by omega
        refine ⟨?_, fun _ => ?_, (fun c => by cases c), fun c => by cases c⟩
        · unfold hef
          dsimp only
          rw [if_neg (by omega), if_neg (by omega), if_neg (by omega), if_neg (by omega), if_neg (by omega), if_pos (by omega)]
          exact True.intro
        · show T ((c : Int) + ((ce : Int) - c)) ((r : Int) + 1 + ((re : Int) - (r + 1))) _
          rw [e1, e2]
          exact hT _ (g3 h6)
      · dsimp only
        rw [if_neg h6]
        exact ⟨g1, g2, fun c => absurd c h6, g4⟩
    · show hA K T ls e _ ((c : Int) + (lC (if x.1.1 = 60 then ((4, [], (ce : Int) - c, (re : Int) - (r + 1)) : Op) else x.1) : Nat)) ((r : Int) + (lR K (if x.1.1 = 60 then ((4, [], (ce : Int) - c, (re : Int) - (r + 1)) : Op) else x.1) : Nat))
      rw [(rsv_l1 (K := K) x.1).1, (rsv_l1 x.1).2]
      exact hA_at ih' (by omega) (by omega)
theorem hef_4 {o : Op} {t : Nat} {s' : HS} (h4 : o.1 = 4) : hef o h t l s' := by
  unfold hef
  rw [if_neg (by omega), if_neg (by omega), if_neg (by omega), if_neg (by omega), if_neg (by omega), if_pos (by omega)]
  exact True.intro
theorem hjs_n {o : Op} {t : Nat} (h5 : o.1 ≠ 5) : hjs o h t l = (h, t, l) := if_neg h5
/-- a jump always taken -/
theorem hA_j (h4 : o.1 = 4) (hb : lbb e') (hT : ∀ s, e' = some s → T (c + o.2.2.1) (r + 1 + o.2.2.2) s) : hA K T ls e [(o, e')] c r := hA_1 hb (fun h' t' l' he => ⟨hef_4 h4, fun _ => by rw [hjs_n (by omega)]; exact hT _ he, (fun c6 => by omega), fun c6 => by omega⟩)
/-- unless the top is true -/
theorem hA_5 (h5 : o.1 = 5) (hl : lob l ≤ h) (hh : h + 1 ≤ 600) (ht : tr ≤ 10) (hT : T (c + o.2.2.1) (r + 1 + o.2.2.2) (h, tr, l)) (he : e = some (h, tr, l)) : hA K T ls e [(o, some (h + 1, tr, l))] c r := hA_1 (lbb_s hh ht) (fun h' t' l' hx => by
  injection hx with hx
  injection hx with e1 e2
  injection e2 with e2 e3
  subst e1; subst e2; subst e3
  refine ⟨?_, fun _ => ?_, (fun c6 => by omega), fun c6 => by omega⟩
  · have hp : hpp o = (1, 0) := by
      unfold hpp
      rw [if_neg (by omega), if_neg (by omega), if_neg (by omega), if_neg (by omega), if_neg (by omega), if_neg (by omega), if_neg (by omega), if_neg (by omega), if_neg (by omega), if_neg (by omega), if_neg (by omega), if_neg (by omega), if_neg (by omega)]
    unfold hef
    rw [if_neg (by omega), if_neg (by omega), if_neg (by omega), if_neg (by omega), if_neg (by omega), if_neg (by omega), if_neg (by omega), if_neg (by omega), hp]
    exact Or.inl ⟨hlm_n (by omega), hnm_n (by omega), by dsimp only; omega, by rw [he, hcl_n (by omega)]; rfl⟩
  · unfold hjs
    rw [if_pos h5]
    exact hT)
/-- a row that goes by itself, inside another -/
theorem hA_in {b : LO} {c' r' : Int} (h : ∀ c r, hA K (fun p q s => hbn K e b c r p q s) none e b c r) (hc : c = c') (hr : r = r') (hB : ∀ p q s, hbn K e b c r p q s → T p q s) : hA K T ls e b c' r' := by
  rw [← hc, ← hr]
  exact hA_ls (hA_T (h c r) hB)
theorem hA_s {u : Nat} (h1 : 16 ≤ o.1 ∨ o.1 = 1 ∨ o.1 = 2 ∨ o.1 = 3) (h6 : o.1 ≠ 60) (hm : hlm o) (hn : hnm o l.2) (hq : lob l + (hpp o).1 ≤ h) (hu : u + (hpp o).1 = h + (hpp o).2) (hh : h ≤ 600) (ht : tr ≤ 10) (he : e = some (u, tr, l)) (h2 : o.1 = 22 → T (-((o.2.1.headD 0 + 1 : Nat) : Int)) 0 (0, 0, ([], l.2))) (h21 : o.1 ≠ 21 := by (try dsimp only); omega) : hA K T ls e [(o, some (h, tr, l))] c r := by
  subst he
  refine hA_1 (lbb_s hh ht) (fun h' t' l' hx => ?_)
  injection hx with hx
  injection hx with e1 e2
  injection e2 with e2 e3
  subst e1; subst e2; subst e3
  exact ⟨hef_p h1 h6 hm hn hq hu h21, fun hj => by unfold isJ at hj; omega, fun c6 => absurd c6 h6, h2⟩
theorem hA_0 {x : Nat} {p : List Nat} {y z : Int} (h1 : x = 1 ∨ x = 2 ∨ x = 3 ∨ x = 62) (hl : lob l ≤ h) (hh : h ≤ 600) (ht : tr ≤ 10) (he : e = some (h, tr, l)) : hA K T ls e [(((x, p, y, z) : Op), some (h, tr, l))] c r := by
  have hp : hpp ((x, p, y, z) : Op) = (0, 0) := by
    unfold hpp
    dsimp only
    rw [if_neg (by omega), if_pos (by omega)]
  exact hA_s (u := h) (by dsimp only; omega) (by dsimp only; omega) (hlm_n (by dsimp only; omega)) (hnm_n (by dsimp only; omega)) (by rw [hp]; exact hl) (by rw [hp]) hh ht he (fun c => by dsimp only at c; omega)
theorem hF_0 {x : Nat} {p : List Nat} {y z : Int} (h1 : x = 1 ∨ x = 2 ∨ x = 3 ∨ x = 62) (hl : lob l ≤ h) (hh : h ≤ 600) (ht : tr ≤ 10) : hF K l.2 [((x, p, y, z) : Op)] (some (h, tr, l)) (some (h, tr, l)) := by
  have hp : hpp ((x, p, y, z) : Op) = (0, 0) := by
    unfold hpp
    dsimp only
    rw [if_neg (by omega), if_pos (by omega)]
  exact hF_p (by dsimp only; omega) (by dsimp only; omega) (by dsimp only; omega) (hlm_n (by dsimp only; omega)) (hnm_n (by dsimp only; omega)) (by rw [hp]; exact hl) (by rw [hp]) hh ht
theorem hF_off {x : Nat} {p : List Nat} {y z : Int} (h1 : x = 17 ∨ x = 19 ∨ x = 48) (hn : hnm ((x, p, y, z) : Op) l.2) (hl : lob l ≤ h) (hh : h + 1 ≤ 600) (ht : tr ≤ 10) : hF K l.2 [((x, p, y, z) : Op)] (some (h + 1, tr, l)) (some (h, tr, l)) := by
  have hp : hpp ((x, p, y, z) : Op) = (1, 0) := by
    unfold hpp
    dsimp only
    rw [if_neg (by omega), if_neg (by omega), if_neg (by omega), if_neg (by omega), if_neg (by omega), if_neg (by omega), if_neg (by omega), if_neg (by omega), if_neg (by omega), if_neg (by omega), if_neg (by omega), if_neg (by omega), if_neg (by omega)]
  exact hF_p (Or.inl (by dsimp only; omega)) (by dsimp only; omega) (by dsimp only; omega) (hlm_n (by dsimp only; omega)) hn (by rw [hp]; dsimp only; omega) (by rw [hp]; rfl) hh ht
end
