/-! WHERE NAMES ARE, PURE: a scope's entries against its function's names -/
def lcL9 (V : Nat → Int32) (u : Nat) (l : List (Nat × Nat × Nat)) : List Int32 := (l.filter (fun e => Nat.beq e.1 u && decide (e.2.2 ≠ 2))).map (fun e => V e.2.1)
section
variable {β : Nat → Nat} {n k1 : Nat} {V : Nat → Int32} {E : Nat → Nat → Bool} {K : Nat → Nat} {sc : SCs} {x : PT}
/-- a whole text -/
theorem psT_V {F : Nat} (hZ : zTk β n k1) (hE : eqV E (qK β n) V) (h : ps (qK β n) (qL β n) (qI β n) E F 1 0 0 0 none 0 0 0 sc0 [] 0 = .inr x) : (∀ u, 1 ≤ u → u < x.2.2.1.1.length → gsc β n V x.2.2.1 u) ∧ enK (qK β n) x.2.2.1 ∧ wfS x.2.2.1 := by
  obtain ⟨_, h2⟩ := (ps_V hZ hE F).2.2.1 true 1 _ _ _ _ _ _ _ _ _ _ _ (Or.inl ⟨rfl, rfl⟩) h
  obtain ⟨_, _, _, g3, _, g5, _⟩ := h2 ⟨(fun e he => by cases he), (fun e he => by cases he), Nat.lt_succ_self 0, Nat.zero_le _, fun q => absurd rfl q⟩
  exact ⟨g3, g5.1, g5.2.1⟩
theorem enS_L (V : Nat → Int32) (sc : SCs) (u : Nat) : ((enS V sc u).filter (fun y => decide (y.2 ≠ 2))).map Prod.fst = lcL9 V u sc.2 := by
  unfold enS enT lcL9
  rw [List.filter_map, List.filter_filter, List.map_map]
  congr 1
  refine List.filter_congr (fun e _ => ?_)
  exact Bool.and_comm _ _
theorem slC_c (e : Nat × Nat × Nat) (r : List (Nat × Nat × Nat)) (u : Nat) : ∀ i, slC (e :: r) (i + 1) u = (if e.1 = u ∧ e.2.2 ≠ 2 then 1 else 0) + slC r i u := by
  intro i
  induction i with
  | zero =>
    show 0 + (if e.1 = u ∧ e.2.2 ≠ 2 then 1 else 0) = _
    exact Nat.add_comm _ _
  | succ i ih =>
    show slC (e :: r) (i + 1) u + (if sF r i = u ∧ sKd r i ≠ 2 then 1 else 0) = _ + (slC r i u + (if sF r i = u ∧ sKd r i ≠ 2 then 1 else 0))
    rw [ih, Nat.add_assoc]
/-- the first entry with a name is a local: its place -/
theorem fi_1 {u k : Nat} {y : Int32} : ∀ (l : List (Nat × Nat × Nat)) (i : Nat), (∀ e, e ∈ l → (E e.2.1 k = true ↔ V e.2.1 = y)) → l.findIdx? (fun e => Nat.beq e.1 u && E e.2.1 k) = some i → (sF l i = u ∧ V (l.getD i (0, 0, 0)).2.1 = y ∧ l.getD i (0, 0, 0) ∈ l) ∧ (sKd l i ≠ 2 → (lcL9 V u l).findIdx? (fun z => z == y) = some (slC l i u)) := by
  intro l
  induction l with
  | nil => intro i _ h; cases h
  | cons e r ih =>
    intro i hP h
    rw [List.findIdx?_cons] at h
    have he := hP e (List.mem_cons_self ..)
    by_cases hp : (Nat.beq e.1 u && E e.2.1 k) = true
    · rw [if_pos hp] at h
      injection h with h
      subst h
      rw [Bool.and_eq_true] at hp
      have h1 := Nat.eq_of_beq_eq_true hp.1
      have h2 := he.mp hp.2
      refine ⟨⟨h1, h2, List.mem_cons_self ..⟩, fun hk => ?_⟩
      have hk' : e.2.2 ≠ 2 := hk
      have e1 : lcL9 V u (e :: r) = V e.2.1 :: lcL9 V u r := by
        unfold lcL9
        rw [List.filter_cons_of_pos (by rw [Bool.and_eq_true]; exact ⟨hp.1, decide_eq_true hk'⟩)]
        rfl
      rw [e1, List.findIdx?_cons, if_pos (by rw [h2]; exact beq_self_eq_true y)]
      rfl
    · rw [if_neg hp] at h
      cases hf : r.findIdx? (fun e => Nat.beq e.1 u && E e.2.1 k) with
      | none => rw [hf] at h; cases h
      | some j =>
        rw [hf] at h
        have hj : j + 1 = i := by injection h
        subst hj
        obtain ⟨⟨i1, i2, i3⟩, i4⟩ := ih j (fun w hw => hP w (List.mem_cons_of_mem _ hw)) hf
        refine ⟨⟨i1, i2, List.mem_cons_of_mem _ i3⟩, fun hk => ?_⟩
        have h5 := i4 hk
        rw [slC_c]
        by_cases hc : e.1 = u ∧ e.2.2 ≠ 2
        · have e1 : lcL9 V u (e :: r) = V e.2.1 :: lcL9 V u r := by
            unfold lcL9
            rw [List.filter_cons_of_pos (by rw [Bool.and_eq_true, hc.1]; exact ⟨Nat.beq_refl u, decide_eq_true hc.2⟩)]
            rfl
          have h6 : V e.2.1 ≠ y := fun q => hp (by
            rw [Bool.and_eq_true, hc.1]
            exact ⟨Nat.beq_refl u, he.mpr q⟩)
          rw [e1, List.findIdx?_cons, if_neg (by simp [h6]), h5, if_pos hc, Nat.add_comm 1]
          rfl
        · have e1 : lcL9 V u (e :: r) = lcL9 V u r := by
            unfold lcL9
            rw [List.filter_cons_of_neg (by
              rw [Bool.and_eq_true]
              rintro ⟨q1, q2⟩
              exact hc ⟨Nat.eq_of_beq_eq_true q1, of_decide_eq_true q2⟩)]
          rw [e1, if_neg hc, Nat.zero_add]
          exact h5
theorem fi_0 {u : Nat} {y : Int32} {l : List (Nat × Nat × Nat)} (h : ∀ e, e ∈ l → e.1 = u → e.2.2 ≠ 2 → V e.2.1 ≠ y) : (lcL9 V u l).findIdx? (fun z => z == y) = none := by
  rw [List.findIdx?_eq_none_iff]
  intro z hz
  obtain ⟨e, e1, e2⟩ := List.mem_map.mp hz
  obtain ⟨e3, e4⟩ := List.mem_filter.mp e1
  rw [Bool.and_eq_true] at e4
  have := h e e3 (Nat.eq_of_beq_eq_true e4.1) (of_decide_eq_true e4.2)
  rw [e2] at this
  simp [this]
/-- what scope u says of the name of token k: the class's entries, the reference's lists -/
theorem gsc_k {u k : Nat} {e : Nat × Nat × Nat × Nat} (hE : eqV E (qK β n) V) (hK : enK (qK β n) sc) (hg : gsc β n V sc u) (he : sc.1[u]? = some e) (hk : qK β n k = 3) : e.1 < u ∧ match scX E sc u k with
    | none => (lcO (qK β n) (qI β n) V e.2.2.2).1.findIdx? (fun z => z == V k) = none ∧ V k ∉ (lcO (qK β n) (qI β n) V e.2.2.2).2
    | some i => if sKd sc.2 i ≠ 2 then (lcO (qK β n) (qI β n) V e.2.2.2).1.findIdx? (fun z => z == V k) = some (slC sc.2 i u) ∧ V k ∉ (lcO (qK β n) (qI β n) V e.2.2.2).2 else (lcO (qK β n) (qI β n) V e.2.2.2).1.findIdx? (fun z => z == V k) = none ∧ V k ∈ (lcO (qK β n) (qI β n) V e.2.2.2).2 := by
  obtain ⟨e', M, a1, a2, a3, a4, a5, a6⟩ := hg
  rw [he] at a1
  injection a1 with a1
  subst a1
  refine ⟨a2, ?_⟩
  obtain ⟨f1, f2⟩ := ev_fin a5 a4
  rw [← a3] at f1 f2
  rw [f1] at a6
  rw [a6, enS_L]
  dsimp only
  have hnd : ((enS V sc u).map Prod.fst).Nodup := by
    rw [a3]
    refine (ev_all (V := V) M _ (prmL (qK β n) V 9 (e.2.2.2 + 2)) (fun G _ => ?_) ?_).2
    · rw [List.map_map]
      have : (prmL (qK β n) V 9 (e.2.2.2 + 2)).map (Prod.fst ∘ fun x => (x, 1)) = prmL (qK β n) V 9 (e.2.2.2 + 2) := List.map_id _
      rw [this]
    · rw [List.map_map]
      have : (prmL (qK β n) V 9 (e.2.2.2 + 2)).map (Prod.fst ∘ fun x => (x, 1)) = prmL (qK β n) V 9 (e.2.2.2 + 2) := List.map_id _
      rw [this]
      exact a5
  have hP : ∀ w, w ∈ sc.2 → (E w.2.1 k = true ↔ V w.2.1 = V k) := fun w hw => hE _ _ (hK w hw) hk
  have one : ∀ (w : Nat × Nat × Nat) (kd : Nat), w ∈ sc.2 → w.1 = u → V w.2.1 = V k → (V k, kd) ∈ enS V sc u → w.2.2 = kd := fun w kd w1 w2 w3 h => by
    have h2 : (V k, w.2.2) ∈ enS V sc u := List.mem_map.mpr ⟨w, List.mem_filter.mpr ⟨w1, by rw [w2]; exact Nat.beq_refl u⟩, by rw [w3]⟩
    obtain ⟨i, i1, i2⟩ := List.mem_iff_getElem.mp h2
    obtain ⟨j, j1, j2⟩ := List.mem_iff_getElem.mp h
    have h4 := List.pairwise_iff_getElem.mp hnd
    have e1 : ∀ (q : Nat) (hq : q < (enS V sc u).length), ((enS V sc u).map Prod.fst)[q]'(by rw [List.length_map]; exact hq) = ((enS V sc u)[q]).1 := fun q hq => List.getElem_map ..
    rcases Nat.lt_trichotomy i j with q | q | q
    · exact absurd (by rw [e1 i i1, e1 j j1, i2, j2]) (h4 i j (by rw [List.length_map]; exact i1) (by rw [List.length_map]; exact j1) q)
    · subst q
      rw [i2] at j2
      injection j2
    · exact absurd (by rw [e1 i i1, e1 j j1, i2, j2]) (h4 j i (by rw [List.length_map]; exact j1) (by rw [List.length_map]; exact i1) q)
  cases hx : scX E sc u k with
  | none =>
    dsimp only
    have hno : ∀ w, w ∈ sc.2 → w.1 = u → V w.2.1 ≠ V k := fun w w1 w2 w3 => by
      unfold scX at hx
      rw [List.findIdx?_eq_none_iff] at hx
      have := hx w w1
      rw [w2, (hP w w1).mpr w3] at this
      rw [Nat.beq_refl u] at this
      cases this
    refine ⟨fi_0 (fun w w1 w2 _ => hno w w1 w2), fun h => ?_⟩
    obtain ⟨w, w1, w2⟩ := List.mem_map.mp ((f2 _).mp h)
    obtain ⟨w3, w4⟩ := List.mem_filter.mp w1
    injection w2 with w5 _
    exact hno w w3 (Nat.eq_of_beq_eq_true w4) w5
  | some i =>
    dsimp only
    obtain ⟨⟨i1, i2, i3⟩, i4⟩ := fi_1 (V := V) sc.2 i hP hx
    by_cases hk2 : sKd sc.2 i = 2
    · rw [if_neg (fun q => q hk2)]
      have hm : (V k, 2) ∈ enS V sc u := List.mem_map.mpr ⟨_, List.mem_filter.mpr ⟨i3, by
        have i1' : (sc.2.getD i (0, 0, 0)).1 = u := i1
        show Nat.beq (sc.2.getD i (0, 0, 0)).1 u = true
        rw [i1']
        exact Nat.beq_refl u⟩, by
        have hk2' : (sc.2.getD i (0, 0, 0)).2.2 = 2 := hk2
        rw [i2, hk2']⟩
      exact ⟨fi_0 (fun w w1 w2 w3 w4 => w3 (one w 2 w1 w2 w4 hm)), (f2 _).mpr hm⟩
    · rw [if_pos hk2]
      refine ⟨i4 hk2, fun h => hk2 ?_⟩
      exact one _ 2 i3 i1 i2 ((f2 _).mp h)
end
