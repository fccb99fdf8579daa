/-! SCOPES in the class: its arrays hold the scopes of a text -/
def Eb (β : Nat → Nat) (n j k : Nat) : Bool := decide (e_H (fun i => β (qP β n j + i)) (qE β n j - qP β n j) = e_H (fun i => β (qP β n k + i)) (qE β n k - qP β n k) ∧ e_L (fun i => β (qP β n j + i)) (qE β n j - qP β n j) = e_L (fun i => β (qP β n k + i)) (qE β n k - qP β n k))
theorem Eb_iff {β : Nat → Nat} {n j k : Nat} : Eb β n j k = true ↔ e_H (fun i => β (qP β n j + i)) (qE β n j - qP β n j) = e_H (fun i => β (qP β n k + i)) (qE β n k - qP β n k) ∧ e_L (fun i => β (qP β n j + i)) (qE β n j - qP β n j) = e_L (fun i => β (qP β n k + i)) (qE β n k - qP β n k) := by
  unfold Eb
  exact decide_eq_true_iff
theorem Eb_symm {β : Nat → Nat} {n j k : Nat} (h : Eb β n j k = true) : Eb β n k j = true := Eb_iff.mpr ⟨(Eb_iff.mp h).1.symm, (Eb_iff.mp h).2.symm⟩
theorem Eb_trans {β : Nat → Nat} {n i j k : Nat} (h : Eb β n i j = true) (g : Eb β n j k = true) : Eb β n i k = true := Eb_iff.mpr ⟨(Eb_iff.mp h).1.trans (Eb_iff.mp g).1, (Eb_iff.mp h).2.trans (Eb_iff.mp g).2⟩
/-- token k is the name with this number -/
def nmR (β : Nat → Nat) (n : Nat) (S : cS) (k : Nat) (x : Int32) : Prop := ∃ q z, x = nI q ∧ 0 ≤ q ∧ q < z ∧ sI S 1607 = nI z ∧ z ≤ 4096 ∧ qn β n S k q
theorem nmR_K {β : Nat → Nat} {n k : Nat} {S S1 : cS} {x : Int32} (hn : nK S S1) (h : nmR β n S k x) : nmR β n S1 k x := by
  obtain ⟨q, z, h1, h2, h3, h4, h5, h6⟩ := h
  obtain ⟨w, w1, i1, i2, i3, i4, i5⟩ := hn
  obtain rfl : z = w := nI_inj (by omega) (by omega) (h4.symm.trans i1)
  exact ⟨q, w1, h1, h2, by omega, i2, i4, qn_mono h3 i5 h6⟩
theorem nmR_E {β : Nat → Nat} {n j k q : Nat} {S : cS} (h : nmR β n S j (nI q)) (g : nmR β n S k (nI q)) : Eb β n j k = true := by
  obtain ⟨q1, z, h1, h2, h3, h4, h5, h6⟩ := h
  obtain ⟨q2, w, g1, g2, g3, g4, g5, g6⟩ := g
  have e : q1 = q2 := nI_inj (by omega) (by omega) (h1.symm.trans g1)
  subst e
  exact Eb_iff.mpr ⟨h6.1.symm.trans g6.1, h6.2.symm.trans g6.2⟩
theorem nmR_q {β : Nat → Nat} {n j k q p z : Nat} {S : cS} (hN : c_NT S z) (h : nmR β n S j (nI q)) (g : nmR β n S k (nI p)) (hq : q < 4096) (hp : p < 4096) (hE : Eb β n j k = true) : q = p := by
  obtain ⟨q1, z1, h1, h2, h3, h4, h5, h6⟩ := h
  obtain ⟨p1, w, g1, g2, g3, g4, g5, g6⟩ := g
  have e := Eb_iff.mp hE
  obtain rfl : q = q1 := nI_inj (by omega) (by omega) h1
  obtain rfl : p = p1 := nI_inj (by omega) (by omega) g1
  have hz := hN.2.1
  obtain rfl : z1 = z := nI_inj (by omega) (by omega) (h4.symm.trans hN.1)
  obtain rfl : w = z1 := nI_inj (by omega) (by omega) (g4.symm.trans hN.1)
  exact hN.2.2.1 _ _ h3 g3 (h6.1.trans (e.1.trans g6.1.symm)) (h6.2.trans (e.2.trans g6.2.symm))
theorem nmR_lt {β : Nat → Nat} {n k : Nat} {S : cS} {x : Int32} (h : nmR β n S k x) : ∃ q, x = nI q ∧ 0 ≤ q ∧ q < 4096 := by
  obtain ⟨q, z, h1, h2, h3, h4, h5, h6⟩ := h
  exact ⟨q, h1, h2, by omega⟩
def sF (l : List (Nat × Nat × Nat)) (e : Nat) : Nat := (l.getD e (0, 0, 0)).1
def sT (l : List (Nat × Nat × Nat)) (e : Nat) : Nat := (l.getD e (0, 0, 0)).2.1
def sKd (l : List (Nat × Nat × Nat)) (e : Nat) : Nat := (l.getD e (0, 0, 0)).2.2
def scI (sc : SCs) (i : Nat) : Nat × Nat × Nat × Nat := sc.1.getD i (0, 0, 0, 0)
def npS (l : List (Nat × Nat × Nat)) (i : Nat) : Nat := (l.filter (fun x => Nat.beq x.1 i && Nat.beq x.2.2 1)).length
theorem getD_old {α : Type} {l : List α} {x d : α} {e : Nat} (h : e < l.length) : (l ++ [x]).getD e d = l.getD e d := by
  rw [List.getD_eq_getElem?_getD, List.getD_eq_getElem?_getD, List.getElem?_append_left h]
theorem getD_new {α : Type} {l : List α} {x d : α} : (l ++ [x]).getD l.length d = x := by
  rw [List.getD_eq_getElem?_getD, List.getElem?_append_right (Nat.le_refl _), Nat.sub_self]
  rfl
theorem lsI_c {f g : Nat → Nat} {s : Nat} : ∀ m, (∀ e, e < m → f e = g e) → lsI f s m = lsI g s m := by
  intro m
  induction m with
  | zero => intro _; rfl
  | succ m ih =>
    intro h
    unfold lsI
    rw [h m (by omega), ih (fun e he => h e (by omega))]
/-- the scopes' arrays: sc's scopes, fb functions ahead, a0 where the text's code begins -/
def yS (β : Nat → Nat) (n fb a0 : Nat) (sc : SCs) (S : cS) : Prop :=
  (∀ i, 1 ≤ i → i < sc.1.length → sA S 33 i = nI (scI sc i).1 ∧ sA S 34 i = nI (fb + i - 1) ∧ sA S 35 i = lsI (sF sc.2) i sc.2.length ∧ sA S 27 (fb + i - 1) = nI (a0 + (scI sc i).2.1) ∧ sA S 29 (fb + i - 1) = nI 0 ∧ nmR β n S (scI sc i).2.2.2 (sA S 30 (fb + i - 1))) ∧
  (∀ e, e < sc.2.length → nmR β n S (sT sc.2 e) (sA S 36 e) ∧ sA S 37 e = nI (sF sc.2 e) ∧ sA S 38 e = nI (sKd sc.2 e) ∧ sA S 40 e = lsI (sF sc.2) (sF sc.2 e) e)
def yN (fb : Nat) (sc : SCs) (S : cS) : Prop := ∀ i, 1 ≤ i → i < sc.1.length → sA S 28 (fb + i - 1) = nI (npS sc.2 i)
def scW (E : Nat → Nat → Bool) (sc : SCs) : Prop := (∀ e, e < sc.2.length → 1 ≤ sF sc.2 e ∧ sF sc.2 e < sc.1.length) ∧ (∀ e e', e < e' → e' < sc.2.length → sF sc.2 e = sF sc.2 e' → E (sT sc.2 e) (sT sc.2 e') = false) ∧ (∀ i, 1 ≤ i → i < sc.1.length → (scI sc i).1 < i) ∧ ∀ e, e < sc.2.length → sKd sc.2 e ≤ 2
theorem yS_S {β : Nat → Nat} {n fb a0 : Nat} {sc : SCs} {S S1 : cS} (h : yS β n fb a0 sc S) (hn : nK S S1) (hA : ∀ a, a ∈ [27, 29, 30, 33, 34, 35, 36, 37, 38, 40] → sA S1 a = sA S a) : yS β n fb a0 sc S1 := by
  refine ⟨fun i h1 h2 => ?_, fun e he => ?_⟩
  · rw [hA 33 (by decide), hA 34 (by decide), hA 35 (by decide), hA 27 (by decide), hA 29 (by decide), hA 30 (by decide)]
    obtain ⟨g1, g2, g3, g4, g5, g6⟩ := h.1 i h1 h2
    exact ⟨g1, g2, g3, g4, g5, nmR_K hn g6⟩
  · rw [hA 36 (by decide), hA 37 (by decide), hA 38 (by decide), hA 40 (by decide)]
    obtain ⟨g1, g2⟩ := h.2 e he
    exact ⟨nmR_K hn g1, g2⟩
/-- what the scopes find -/
theorem scF_T {β : Nat → Nat} {n fb a0 k q s z : Nat} {sc : SCs} {S : cS} (hS : yS β n fb a0 sc S) (hW : scW (Eb β n) sc) (hN : c_NT S z) (hq : nmR β n S k (nI q)) (hqM : q < 4096) : (scF (Eb β n) sc s k = none ∧ fnI (sF sc.2) (fun e => gN (sA S 36 e)) s q sc.2.length = Int32.ofInt (-1)) ∨ ∃ e, e < sc.2.length ∧ fnI (sF sc.2) (fun e => gN (sA S 36 e)) s q sc.2.length = nI e ∧ scF (Eb β n) sc s k = some (sc.2.getD e (0, 0, 0)) ∧ sF sc.2 e = s ∧ Eb β n (sT sc.2 e) k = true := by
  have hnq : ∀ e, e < sc.2.length → (gN (sA S 36 e) = q ↔ Eb β n (sT sc.2 e) k = true) := fun e he => by
    obtain ⟨g1, _⟩ := hS.2 e he
    obtain ⟨p, p1, p2, p3⟩ := nmR_lt g1
    rw [p1] at g1 ⊢
    rw [gN_nI (by omega)]
    exact ⟨fun h => by subst h; exact nmR_E g1 hq, fun h => nmR_q hN g1 hq (by omega) hqM h⟩
  have hmem : ∀ x, x ∈ sc.2 → ∃ e, e < sc.2.length ∧ sc.2.getD e (0, 0, 0) = x := fun x hx => by
    obtain ⟨e, he, h1⟩ := List.getElem_of_mem hx
    exact ⟨e, he, by rw [List.getD_eq_getElem?_getD, List.getElem?_eq_getElem he, h1]; rfl⟩
  rcases fnI_ok (f := sF sc.2) (nq := fun e => gN (sA S 36 e)) (s := s) (q := q) sc.2.length with ⟨h1, h2⟩ | ⟨e, h1, h2, h3, h4⟩
  · refine Or.inl ⟨?_, h1⟩
    unfold scF
    rw [List.find?_eq_none]
    intro x hx hp
    obtain ⟨e, he, h3⟩ := hmem x hx
    subst h3
    rw [Bool.and_eq_true] at hp
    exact h2 e he ⟨Nat.beq_eq.mp hp.1, (hnq e he).mpr hp.2⟩
  · refine Or.inr ⟨e, h1, h2, ?_, h3, (hnq e h1).mp h4⟩
    have hE := (hnq e h1).mp h4
    cases hf : scF (Eb β n) sc s k with
    | none =>
      exfalso
      unfold scF at hf
      rw [List.find?_eq_none] at hf
      have hin : sc.2.getD e (0, 0, 0) ∈ sc.2 := by
        rw [List.getD_eq_getElem?_getD, List.getElem?_eq_getElem h1]
        exact List.getElem_mem h1
      refine hf _ hin ?_
      rw [Bool.and_eq_true]
      exact ⟨Nat.beq_eq.mpr h3, hE⟩
    | some x =>
      have hp := List.find?_some hf
      obtain ⟨e', he', h5⟩ := hmem x (List.mem_of_find?_eq_some hf)
      subst h5
      rw [Bool.and_eq_true] at hp
      have h6 : sF sc.2 e' = s := Nat.beq_eq.mp hp.1
      have h7 : Eb β n (sT sc.2 e') k = true := hp.2
      rcases Nat.lt_trichotomy e e' with h8 | h8 | h8
      · have h9 := hW.2.1 e e' h8 he' (by rw [h3, h6])
        rw [Eb_trans hE (Eb_symm h7)] at h9
        cases h9
      · rw [h8]
      · have h9 := hW.2.1 e' e h8 h1 (by rw [h3, h6])
        rw [Eb_trans h7 (Eb_symm hE)] at h9
        cases h9
/-- entryOf over the scopes of a text -/
theorem ent_S {β : Nat → Nat} {n fb a0 k q s z d : Nat} {sc : SCs} {S : cS} (hS : yS β n fb a0 sc S) (hW : scW (Eb β n) sc) (hN : c_NT S z) (hq : nmR β n S k (nI q)) (hqM : q < 4096) (hs : 1 ≤ s) (hs1 : s < sc.1.length) (hs2 : sc.1.length ≤ 300) (hM : sc.2.length ≤ 1600) : ∃ x, Ans (d + 9) 95 [.ref 32, .int (nI s), .int (nI q)] S (some (.int x)) S ∧ ((scF (Eb β n) sc s k = none ∧ x = Int32.ofInt (-1)) ∨ ∃ e, e < sc.2.length ∧ x = nI e ∧ scF (Eb β n) sc s k = some (sc.2.getD e (0, 0, 0)) ∧ sF sc.2 e = s ∧ Eb β n (sT sc.2 e) k = true) := by
  refine ⟨_, ent_T (d := d) (f := sF sc.2) (nq := fun e => gN (sA S 36 e)) hM (by omega) hs (by omega) (hS.1 s hs hs1).2.2.1 (fun e he => ?_) (fun e he hf => ?_), scF_T hS hW hN hq hqM⟩
  · obtain ⟨g1, _⟩ := hS.2 e he
    obtain ⟨p, p1, p2, p3⟩ := nmR_lt g1
    show sA S 36 e = nI (gN (sA S 36 e)) ∧ gN (sA S 36 e) < 2 ^ 20
    rw [p1, gN_nI (by omega)]
    exact ⟨rfl, by omega⟩
  · have := (hS.2 e he).2.2.2
    rw [hf] at this
    exact this
/-- one more entry -/
theorem yS_add {β : Nat → Nat} {n fb a0 k q s kd : Nat} {sc : SCs} {S S1 : cS} (hS : yS β n fb a0 sc S) (hq : nmR β n S k (nI q)) (hs : 1 ≤ s) (hs1 : s < sc.1.length) (hn : nK S S1) (h36 : sA S1 36 = upd (sA S 36) sc.2.length (nI q)) (h37 : sA S1 37 = upd (sA S 37) sc.2.length (nI s)) (h38 : sA S1 38 = upd (sA S 38) sc.2.length (nI kd)) (h40 : sA S1 40 = upd (sA S 40) sc.2.length (sA S 35 s)) (h35 : sA S1 35 = upd (sA S 35) s (nI sc.2.length)) (hA : ∀ a, a ∈ [27, 29, 30, 33, 34] → sA S1 a = sA S a) : yS β n fb a0 (scA s k kd sc) S1 := by
  have hlen : (scA s k kd sc).2.length = sc.2.length + 1 := by unfold scA; dsimp only; rw [List.length_append]; rfl
  have hF : ∀ e, e < sc.2.length → sF (scA s k kd sc).2 e = sF sc.2 e ∧ sT (scA s k kd sc).2 e = sT sc.2 e ∧ sKd (scA s k kd sc).2 e = sKd sc.2 e := fun e he => by
    unfold sF sT sKd scA
    dsimp only
    rw [getD_old he]
    exact ⟨rfl, rfl, rfl⟩
  have hL : sF (scA s k kd sc).2 sc.2.length = s ∧ sT (scA s k kd sc).2 sc.2.length = k ∧ sKd (scA s k kd sc).2 sc.2.length = kd := by
    unfold sF sT sKd scA
    dsimp only
    rw [getD_new]
    exact ⟨rfl, rfl, rfl⟩
  refine ⟨fun i h1 h2 => ?_, fun e he => ?_⟩
  · obtain ⟨g1, g2, g3, g4, g5, g6⟩ := hS.1 i h1 h2
    rw [hA 33 (by decide), hA 34 (by decide), hA 27 (by decide), hA 29 (by decide), hA 30 (by decide), hlen]
    refine ⟨g1, g2, ?_, g4, g5, nmR_K hn g6⟩
    rw [h35, upd_at]
    show _ = if sF (scA s k kd sc).2 sc.2.length = i then nI sc.2.length else lsI (sF (scA s k kd sc).2) i sc.2.length
    rw [hL.1]
    by_cases h3 : i = s
    · rw [if_pos h3, if_pos h3.symm]
    · rw [if_neg h3, if_neg (fun e => h3 e.symm), g3]
      exact lsI_c _ (fun e he => (hF e he).1.symm)
  · rw [hlen] at he
    rw [h36, h37, h38, h40, upd_at, upd_at, upd_at, upd_at]
    rcases Nat.lt_or_ge e sc.2.length with h3 | h3
    · obtain ⟨g1, g2, g4, g5⟩ := hS.2 e h3
      obtain ⟨f1, f2, f3⟩ := hF e h3
      rw [if_neg (by omega), if_neg (by omega), if_neg (by omega), if_neg (by omega), f1, f2, f3]
      exact ⟨nmR_K hn g1, g2, g4, g5.trans (lsI_c _ (fun e' he' => (hF e' (by omega)).1.symm))⟩
    · obtain rfl : e = sc.2.length := by omega
      rw [if_pos rfl, if_pos rfl, if_pos rfl, if_pos rfl, hL.1, hL.2.1, hL.2.2]
      exact ⟨nmR_K hn hq, rfl, rfl, ((hS.1 s hs hs1).2.2.1).trans (lsI_c _ (fun e' he' => (hF e' he').1.symm))⟩
theorem scW_add {E : Nat → Nat → Bool} {s k kd : Nat} {sc : SCs} (hE1 : ∀ i j, E i j = true → E j i = true) (h : scW E sc) (hs : 1 ≤ s) (hs1 : s < sc.1.length) (hf : scF E sc s k = none) (hkd : kd ≤ 2) : scW E (scA s k kd sc) := by
  have hlen : (scA s k kd sc).2.length = sc.2.length + 1 := by unfold scA; dsimp only; rw [List.length_append]; rfl
  have hF : ∀ e, e < sc.2.length → sF (scA s k kd sc).2 e = sF sc.2 e ∧ sT (scA s k kd sc).2 e = sT sc.2 e := fun e he => by
    unfold sF sT scA
    dsimp only
    rw [getD_old he]
    exact ⟨rfl, rfl⟩
  have hL : sF (scA s k kd sc).2 sc.2.length = s ∧ sT (scA s k kd sc).2 sc.2.length = k := by
    unfold sF sT scA
    dsimp only
    rw [getD_new]
    exact ⟨rfl, rfl⟩
  refine ⟨fun e he => ?_, fun e e' hee he' hsf => ?_, h.2.2.1, fun e he => ?_⟩
  · rw [hlen] at he
    rcases Nat.lt_or_ge e sc.2.length with h3 | h3
    · rw [(hF e h3).1]; exact h.1 e h3
    · obtain rfl : e = sc.2.length := by omega
      rw [hL.1]; exact ⟨hs, hs1⟩
  · rw [hlen] at he'
    rw [(hF e (by omega)).2]
    rw [(hF e (by omega)).1] at hsf
    rcases Nat.lt_or_ge e' sc.2.length with h3 | h3
    · rw [(hF e' h3).2]
      rw [(hF e' h3).1] at hsf
      exact h.2.1 e e' hee h3 hsf
    · obtain rfl : e' = sc.2.length := by omega
      rw [hL.2]
      rw [hL.1] at hsf
      unfold scF at hf
      rw [List.find?_eq_none] at hf
      have hin : sc.2.getD e (0, 0, 0) ∈ sc.2 := by
        rw [List.getD_eq_getElem?_getD, List.getElem?_eq_getElem hee]
        exact List.getElem_mem hee
      cases hE : E (sT sc.2 e) k with
      | false => rfl
      | true =>
        exfalso
        refine hf _ hin ?_
        rw [Bool.and_eq_true]
        exact ⟨Nat.beq_eq.mpr hsf, hE⟩
  · rw [hlen] at he
    rcases Nat.lt_or_ge e sc.2.length with h3 | h3
    · have : sKd (scA s k kd sc).2 e = sKd sc.2 e := by
        unfold sKd scA
        dsimp only
        rw [getD_old h3]
      rw [this]
      exact h.2.2.2 e h3
    · obtain rfl : e = sc.2.length := by omega
      have : sKd (scA s k kd sc).2 sc.2.length = kd := by
        unfold sKd scA
        dsimp only
        rw [getD_new]
      rw [this]
      exact hkd
