/-! WHERE NAMES ARE, PURE: entries of a scope; lines that are scanned, passed over -/
def enT (sc : SCs) (s : Nat) : List (Nat × Nat × Nat) := sc.2.filter (fun e => Nat.beq e.1 s)
def enS (V : Nat → Int32) (sc : SCs) (s : Nat) : List (Int32 × Nat) := (enT sc s).map (fun e => (V e.2.1, e.2.2))
def enK (K : Nat → Nat) (sc : SCs) : Prop := ∀ e, e ∈ sc.2 → K e.2.1 = 3
section
variable {K I : Nat → Nat} {E : Nat → Nat → Bool} {V : Nat → Int32} {s k : Nat} {sc sc1 : SCs}
theorem enS_f (V : Nat → Int32) (sc : SCs) (s : Nat) : (enS V sc s).map Prod.fst = (enT sc s).map (fun e => V e.2.1) := by
  unfold enS
  rw [List.map_map]
  rfl
theorem scF_n (hE : eqV E K V) (hK : enK K sc) (hk : K k = 3) : scF E sc s k = none ↔ V k ∉ (enS V sc s).map Prod.fst := by
  rw [enS_f]
  unfold scF
  rw [List.find?_eq_none]
  constructor
  · intro h hm
    obtain ⟨e, e1, e2⟩ := List.mem_map.mp hm
    unfold enT at e1
    obtain ⟨e3, e4⟩ := List.mem_filter.mp e1
    exact h e e3 (by rw [e4, (hE _ _ (hK e e3) hk).mpr e2]; rfl)
  · intro h e he hp
    rw [Bool.and_eq_true] at hp
    exact h (List.mem_map.mpr ⟨e, List.mem_filter.mpr ⟨he, hp.1⟩, (hE _ _ (hK e he) hk).mp hp.2⟩)
theorem scF_m (hE : eqV E K V) (hK : enK K sc) (hk : K k = 3) {e : Nat × Nat × Nat} (h : scF E sc s k = some e) : e ∈ enT sc s ∧ V e.2.1 = V k := by
  unfold scF at h
  have h1 := List.mem_of_find?_eq_some h
  have h2 := List.find?_some h
  rw [Bool.and_eq_true] at h2
  exact ⟨List.mem_filter.mpr ⟨h1, h2.1⟩, (hE _ _ (hK e h1) hk).mp h2.2⟩
theorem enT_A {s' : Nat} (kd : Nat) : enT (scA s k kd sc) s' = enT sc s' ++ (if s' = s then [(s, k, kd)] else []) := by
  unfold enT scA
  rw [List.filter_append]
  congr 1
  by_cases h : s' = s
  · rw [if_pos h, h]
    exact List.filter_cons_of_pos (Nat.beq_refl s)
  · rw [if_neg h]
    exact List.filter_cons_of_neg (by
      show ¬ Nat.beq s s' = true
      intro q
      exact h (Nat.eq_of_beq_eq_true q).symm)
theorem enK_A (kd : Nat) (hK : enK K sc) (hk : K k = 3) : enK K (scA s k kd sc) := fun e he => by
  rcases List.mem_append.mp he with h | h
  · exact hK e h
  · rw [List.mem_singleton] at h
    rw [h]; exact hk
theorem enS_A (kd : Nat) : enS V (scA s k kd sc) s = enS V sc s ++ [(V k, kd)] := by
  unfold enS
  rw [enT_A, if_pos rfl, List.map_append]
  rfl
/-- a name is bound -/
theorem scB_ev (hE : eqV E K V) (hK : enK K sc) (hk : K k = 3) (hs : s ≠ 0) : enS V (scB E s k sc) s = evS V (enS V sc s) (false, k) ∧ (∀ s', s' ≠ s → enT (scB E s k sc) s' = enT sc s') ∧ enK K (scB E s k sc) := by
  unfold scB
  rw [if_neg hs]
  cases h : scF E sc s k with
  | none =>
    have h1 := (scF_n hE hK hk).mp h
    refine ⟨?_, fun s' hs' => ?_, enK_A 0 hK hk⟩
    · rw [enS_A]
      unfold evS
      rw [if_neg h1]
      rfl
    · show enT (scA s k 0 sc) s' = _
      rw [enT_A, if_neg hs', List.append_nil]
  | some e =>
    have h1 : V k ∈ (enS V sc s).map Prod.fst := Decidable.byContradiction fun q => by
      rw [(scF_n hE hK hk).mpr q] at h
      cases h
    refine ⟨?_, fun _ _ => rfl, hK⟩
    unfold evS
    rw [if_pos h1, if_neg (fun q => by cases q)]
/-- a name is told global -/
theorem scG_ev (hE : eqV E K V) (hK : enK K sc) (hk : K k = 3) (hn : ((enS V sc s).map Prod.fst).Nodup) (h : scG E s k sc = some sc1) : enS V sc1 s = evS V (enS V sc s) (true, k) ∧ (V k, 1) ∉ enS V sc s ∧ (∀ s', s' ≠ s → enT sc1 s' = enT sc s') ∧ enK K sc1 := by
  unfold scG at h
  cases hf : scF E sc s k with
  | none =>
    rw [hf] at h
    have h1 := (scF_n hE hK hk).mp hf
    injection h with h
    subst h
    refine ⟨?_, fun hm => h1 (List.mem_map.mpr ⟨_, hm, rfl⟩), fun s' hs' => ?_, enK_A 2 hK hk⟩
    · rw [enS_A]
      unfold evS
      rw [if_neg h1]
      rfl
    · rw [enT_A, if_neg hs', List.append_nil]
  | some e =>
    rw [hf] at h
    obtain ⟨m1, m2⟩ := scF_m hE hK hk hf
    have h1 : V k ∈ (enS V sc s).map Prod.fst := Decidable.byContradiction fun q => by
      rw [(scF_n hE hK hk).mpr q] at hf
      cases hf
    by_cases he : e.2.2 = 1
    · have h' : (if e.2.2 = 1 then none else some (scU E s k sc)) = some sc1 := h
      rw [if_pos he] at h'
      cases h'
    · have h' : (if e.2.2 = 1 then none else some (scU E s k sc)) = some sc1 := h
      rw [if_neg he] at h'
      injection h' with h'
      subst h'
      have hT : ∀ s', enT (scU E s k sc) s' = (enT sc s').map (fun e => if (Nat.beq e.1 s && E e.2.1 k) = true then (e.1, e.2.1, 2) else e) := fun s' => by
        unfold enT scU
        rw [List.filter_map]
        congr 1
        refine List.filter_congr (fun e _ => ?_)
        show Nat.beq (if (Nat.beq e.1 s && E e.2.1 k) = true then (e.1, e.2.1, 2) else e).1 s' = _
        split <;> rfl
      refine ⟨?_, fun hm => ?_, fun s' hs' => ?_, fun e he => ?_⟩
      · unfold evS
        rw [if_pos h1, if_pos rfl]
        unfold enS
        rw [hT, List.map_map, List.map_map]
        refine List.map_congr_left (fun e he => ?_)
        obtain ⟨e3, e4⟩ := List.mem_filter.mp he
        have e4' : Nat.beq e.1 s = true := e4
        show (V (if (Nat.beq e.1 s && E e.2.1 k) = true then (e.1, e.2.1, 2) else e).2.1, (if (Nat.beq e.1 s && E e.2.1 k) = true then (e.1, e.2.1, 2) else e).2.2) = if V e.2.1 = V k then (V e.2.1, 2) else (V e.2.1, e.2.2)
        rw [e4', Bool.true_and]
        by_cases hv : V e.2.1 = V k
        · rw [if_pos ((hE _ _ (hK e e3) hk).mpr hv), if_pos hv]
        · rw [if_neg (fun q => hv ((hE _ _ (hK e e3) hk).mp q)), if_neg hv]
      · have hm2 : (V k, e.2.2) ∈ enS V sc s := List.mem_map.mpr ⟨e, m1, by rw [m2]⟩
        obtain ⟨i, i1, i2⟩ := List.mem_iff_getElem.mp hm
        obtain ⟨j, j1, j2⟩ := List.mem_iff_getElem.mp hm2
        have h4 := List.pairwise_iff_getElem.mp hn
        have e1 : ∀ (q : Nat) (hq : q < (enS V sc s).length), ((enS V sc s).map Prod.fst)[q]'(by rw [List.length_map]; exact hq) = ((enS V sc s)[q]).1 := fun q hq => List.getElem_map ..
        rcases Nat.lt_trichotomy i j with q | q | q
        · refine h4 i j (by rw [List.length_map]; exact i1) (by rw [List.length_map]; exact j1) q ?_
          rw [e1 i i1, e1 j j1, i2, j2]
        · subst q
          rw [i2] at j2
          injection j2 with _ q
          exact he q.symm
        · refine h4 j i (by rw [List.length_map]; exact j1) (by rw [List.length_map]; exact i1) q ?_
          rw [e1 i i1, e1 j j1, i2, j2]
      · rw [hT]
        refine (List.map_congr_left (fun e he => ?_)).trans (List.map_id _)
        obtain ⟨_, e4⟩ := List.mem_filter.mp he
        have e5 := Nat.eq_of_beq_eq_true (show Nat.beq e.1 s' = true from e4)
        rw [if_neg (fun q => by
          rw [Bool.and_eq_true] at q
          exact hs' (e5.symm.trans (Nat.eq_of_beq_eq_true q.1)))]
        rfl
      · obtain ⟨y, y1, y2⟩ := List.mem_map.mp he
        rw [← y2]
        have := hK y y1
        split
        · exact this
        · exact this
/-- a parameter -/
theorem scP_ev (hE : eqV E K V) (hK : enK K sc) (hk : K k = 3) (h : scP E s k sc = some sc1) : enS V sc1 s = enS V sc s ++ [(V k, 1)] ∧ V k ∉ (enS V sc s).map Prod.fst ∧ (∀ s', s' ≠ s → enT sc1 s' = enT sc s') ∧ enK K sc1 ∧ sc1.1 = sc.1 := by
  unfold scP at h
  cases hf : scF E sc s k with
  | none =>
    rw [hf] at h
    have h1 := (scF_n hE hK hk).mp hf
    injection h with h
    subst h
    exact ⟨enS_A 1, h1, fun s' hs' => by rw [enT_A, if_neg hs', List.append_nil], enK_A 1 hK hk, rfl⟩
  | some e =>
    rw [hf] at h
    cases h
/-- where a line ends -/
theorem nx_q {q : Nat} (h2 : K q = 2) : ∀ (g k : Nat), k ≤ q → q < k + g → (∀ j, k ≤ j → j < q → 3 ≤ K j) → nxK K g k = q + 1 := by
  intro g
  induction g with
  | zero => intro k h1 h3; omega
  | succ g ih =>
    intro k h1 h3 h
    unfold nxK
    by_cases e : k = q
    · subst e
      rw [if_pos h2]
    · have := h k (Nat.le_refl _) (by omega)
      rw [if_neg (by omega)]
      exact ih (k + 1) (by omega) (by omega) (fun j j1 j2 => h j (by omega) j2)
end
