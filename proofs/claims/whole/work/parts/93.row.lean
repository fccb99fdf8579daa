/-! THE ROW OF A TEXT'S TOKENS, and the class that goes along it -/
/-- from the start of a line on: where the first token is, its line, its indent -/
def tl (β : Nat → Nat) (n : Nat) : Nat → Nat → Nat → Option (Nat × Nat × Nat)
  | 0, _, _ => none
  | f + 1, p, l => if n ≤ t_skip β n (n - p) p then none
    else if β (t_skip β n (n - p) p) = 10 ∨ β (t_skip β n (n - p) p) = 35 then
      (if tk_eol β n (t_skip β n (n - p) p) < n then tl β n f (tk_eol β n (t_skip β n (n - p) p) + 1) (l + 1) else none)
    else some (t_skip β n (n - p) p, l, t_skip β n (n - p) p - p)
def tq_ln (β : Nat → Nat) (n p l last : Nat) : Nat × Nat × Nat × Nat × Nat :=
  match tl β n (n + 1) p l with
  | none => (1, n, n, last, 0)
  | some (q, l2, i) => ((tk β n q).1, q, (tk β n q).2, l2, i)
def tq_nx (β : Nat → Nat) (n : Nat) (t : Nat × Nat × Nat × Nat × Nat) : Nat × Nat × Nat × Nat × Nat :=
  if t.1 = 1 then t
  else if t.1 = 2 then (if tk_eol β n t.2.1 < n then tq_ln β n (tk_eol β n t.2.1 + 1) (t.2.2.2.1 + 1) t.2.2.2.1 else (1, n, n, t.2.2.2.1, 0))
  else ((tk β n (t_skip β n (n - t.2.2.1) t.2.2.1)).1, t_skip β n (n - t.2.2.1) t.2.2.1, (tk β n (t_skip β n (n - t.2.2.1) t.2.2.1)).2, t.2.2.2.1, t.2.2.2.2)
/-- the row: kind, begin, end, line, indent -/
def tq (β : Nat → Nat) (n : Nat) : Nat → Nat × Nat × Nat × Nat × Nat
  | 0 => tq_ln β n 0 1 0
  | k + 1 => tq_nx β n (tq β n k)
def qK (β : Nat → Nat) (n k : Nat) : Nat := (tq β n k).1
def qP (β : Nat → Nat) (n k : Nat) : Nat := (tq β n k).2.1
def qE (β : Nat → Nat) (n k : Nat) : Nat := (tq β n k).2.2.1
def qL (β : Nat → Nat) (n k : Nat) : Nat := (tq β n k).2.2.2.1
def qI (β : Nat → Nat) (n k : Nat) : Nat := (tq β n k).2.2.2.2
theorem skip_at {β : Nat → Nat} {n p : Nat} (hp : p ≤ n) : p ≤ t_skip β n (n - p) p ∧ t_skip β n (n - p) p ≤ n ∧ (∀ x, p ≤ x → x < t_skip β n (n - p) p → β x = 32) ∧ (t_skip β n (n - p) p = n ∨ β (t_skip β n (n - p) p) ≠ 32) := t_skip_ok β n (n - p) p hp (by omega)
theorem tl_ok {β : Nat → Nat} {n : Nat} : ∀ (f p l q l2 i : Nat), p ≤ n → tl β n f p l = some (q, l2, i) → p ≤ q ∧ q < n ∧ β q ≠ 10 ∧ β q ≠ 35 ∧ β q ≠ 32 ∧ l ≤ l2 ∧ i ≤ q ∧ l2 - l ≤ q - p := by
  intro f
  induction f with
  | zero => intro p l q l2 i _ h; cases h
  | succ f ih =>
    intro p l q l2 i hp h
    obtain ⟨s1, s2, s3, s4⟩ := skip_at (β := β) hp
    unfold tl at h
    split at h
    · cases h
    · rename_i h1
      split at h
      · split at h
        · rename_i h2 h3
          obtain ⟨e1, e2, e3, e4⟩ := tk_eol_ok (β := β) s2
          have h4 := ih _ _ _ _ _ (by omega) h
          exact ⟨by omega, h4.2.1, h4.2.2.1, h4.2.2.2.1, h4.2.2.2.2.1, by omega, h4.2.2.2.2.2.2.1, by omega⟩
        · cases h
      · rename_i h2
        injection h with h
        injection h with h3 h4
        injection h4 with h4 h5
        subst h3 h4 h5
        exact ⟨s1, by omega, fun e => h2 (Or.inl e), fun e => h2 (Or.inr e), s4.resolve_left (by omega), Nat.le_refl _, by omega, by omega⟩
/-- what holds of every token of the row -/
def tq_wf (β : Nat → Nat) (n : Nat) (t : Nat × Nat × Nat × Nat × Nat) : Prop := t.2.1 ≤ n ∧ t.2.1 ≤ t.2.2.1 ∧ t.2.2.1 ≤ n ∧ t.2.2.2.1 ≤ n + 1 ∧ t.2.2.2.2 ≤ n ∧ (t.1 = 1 → t.2.1 = n ∧ t.2.2.1 = n) ∧ (t.1 ≠ 1 → t.1 = (tk β n t.2.1).1 ∧ t.2.2.1 = (tk β n t.2.1).2 ∧ 1 ≤ t.2.2.2.1 ∧ t.2.2.2.1 ≤ t.2.1 + 1 ∧ (t.2.1 = n ∨ β t.2.1 ≠ 32))
theorem tq_ln_wf {β : Nat → Nat} {n p l last : Nat} (hp : p ≤ n) (hl : 1 ≤ l) (hlp : l ≤ p + 1) (hla : last ≤ n + 1) : tq_wf β n (tq_ln β n p l last) := by
  unfold tq_ln
  split
  · exact ⟨Nat.le_refl _, Nat.le_refl _, Nat.le_refl _, hla, Nat.zero_le _, fun _ => ⟨rfl, rfl⟩, fun h => absurd rfl h⟩
  · rename_i q l2 i h
    obtain ⟨h1, h2, h3, h4, h5, h6, h7, h8⟩ := tl_ok _ _ _ _ _ _ hp h
    obtain ⟨e1, e2, e3⟩ := tk_end (β := β) (Nat.le_of_lt h2)
    exact ⟨by dsimp only; omega, e1, e2, by dsimp only; omega, by dsimp only; omega, fun h => absurd h tk_kind.1, fun _ => ⟨rfl, rfl, by dsimp only; omega, by dsimp only; omega, Or.inr h5⟩⟩
theorem tq_ok (β : Nat → Nat) (n k : Nat) : tq_wf β n (tq β n k) := by
  induction k with
  | zero => exact tq_ln_wf (Nat.zero_le _) (by omega) (by omega) (by omega)
  | succ k ih =>
    show tq_wf β n (tq_nx β n (tq β n k))
    obtain ⟨h1, h2, h3, h4, h5, h6, h7⟩ := ih
    unfold tq_nx
    split
    · exact ⟨h1, h2, h3, h4, h5, h6, h7⟩
    · rename_i hk1
      obtain ⟨g1, g2, g3, g4, g5⟩ := h7 hk1
      split
      · split
        · obtain ⟨e1, e2, e3, e4⟩ := tk_eol_ok (β := β) h1
          exact tq_ln_wf (by omega) (by omega) (by omega) h4
        · exact ⟨Nat.le_refl _, Nat.le_refl _, Nat.le_refl _, h4, Nat.zero_le _, fun _ => ⟨rfl, rfl⟩, fun h => absurd rfl h⟩
      · obtain ⟨s1, s2, s3, s4⟩ := skip_at (β := β) h3
        obtain ⟨e1, e2, e3⟩ := tk_end (β := β) s2
        exact ⟨s2, e1, e2, h4, h5, fun h => absurd h tk_kind.1, fun _ => ⟨rfl, rfl, g3, by dsimp only; omega, s4⟩⟩
/-- a line from its start on: findLine -/
theorem findLine_T {d n : Nat} {A : Nat → Int32} (hM : n ≤ 3000) : ∀ (f p l t : Nat) (S : cS) (lv : sm_L), (lv = [(1, .int (nI t)), (0, .ref 31)] ∨ ∃ z, lv = [(1, .int (nI t)), (2, .int z), (0, .ref 31)]) → n + 1 ≤ p + f → p ≤ n → t ≤ p → sA S 1 = A → sI S 3102 = nI n → sI S 3103 = nI p → sI S 3107 = nI l → ∃ S1, Bod (d + 3) 36 2 lv [] S none S1 ∧ FrT [3103, 3105, 3106, 3107, 3108] [] [] [] S S1 ∧ (tl (by1 A) n f p l = none → sI S1 3105 = nI 1 ∧ sI S1 3108 = Int32.ofInt (-1) ∧ sI S1 3106 = sI S 3106) ∧ (∀ q l2 i, tl (by1 A) n f p l = some (q, l2, i) → sI S1 3105 = nI 2 ∧ sI S1 3108 = nI i ∧ sI S1 3106 = nI l2 ∧ sI S1 3107 = nI l2 ∧ sI S1 3103 = nI q) := by
  intro f
  induction f with
  | zero => intro p l t S lv _ h1 h2; omega
  | succ f ih =>
    intro p l t S lv hlv hf hp ht hA hn hp3 hl
    obtain ⟨s1, s2, s3, s4⟩ := skip_at (β := by1 A) hp
    have hby : ∀ x, c_byte S x = by1 A x := fun x => by rw [c_byte_by, hA]
    obtain ⟨q, hq⟩ : ∃ q, t_skip (by1 A) n (n - p) p = q := ⟨_, rfl⟩
    rw [hq] at s1 s2 s3 s4
    have hs : ∀ x, p ≤ x → x < q → c_byte S x = 32 := fun x h1 h2 => (hby x).trans (s3 x h1 h2)
    have hse : q = n ∨ c_byte S q ≠ 32 := by rw [hby]; exact s4
    by_cases h1 : n ≤ q
    · have htl : tl (by1 A) n (f + 1) p l = none := by unfold tl; rw [hq, if_pos h1]
      refine ⟨wI 3108 (Int32.ofInt (-1)) (wI 3105 (nI 1) (wI 3103 (nI q) S)), ?_, (FrT_wI (by decide) (FrT_wI (by decide) (FrT_wI (by decide) (FrT.refl _ _ _ _ _)))), fun _ => ⟨(by simp only [rI, rJI, rAI, rLI, rIJ, rIA, rJA, rLA, rIL, reduceIte, Nat.reduceEqDiff]), (by simp only [rI, rJI, rAI, rLI, rIJ, rIA, rJA, rLA, rIL, reduceIte, Nat.reduceEqDiff]), (by simp only [rI, rJI, rAI, rLI, rIJ, rIA, rJA, rLA, rIL, reduceIte, Nat.reduceEqDiff])⟩, fun q2 l2 i h => (by rw [htl] at h; cases h)⟩
      rcases hlv with rfl | ⟨zz, rfl⟩
      · exact findLine_end hM hn hp3 hl (by omega) s1 hs (by omega) hse
      · exact findLine_end3 hM hn hp3 hl (by omega) s1 hs (by omega) hse
    · by_cases h2 : by1 A q = 10 ∨ by1 A q = 35
      · obtain ⟨e1, e2, e3, e4⟩ := tk_eol_ok (β := by1 A) s2
        obtain ⟨e, hee⟩ : ∃ e, tk_eol (by1 A) n q = e := ⟨_, rfl⟩
        rw [hee] at e1 e2 e3 e4
        have hx : ∀ x, q ≤ x → x < e → c_byte S x ≠ 10 := fun x h1 h2 => by rw [hby]; exact e3 x h1 h2
        have hlv2 : ([(1, .int (nI (t + 1))), (2, .int (nI p)), (0, .ref 31)] : sm_L) = [(1, .int (nI (t + 1))), (0, .ref 31)] ∨ ∃ z, ([(1, .int (nI (t + 1))), (2, .int (nI p)), (0, .ref 31)] : sm_L) = [(1, .int (nI (t + 1))), (2, .int z), (0, .ref 31)] := Or.inr ⟨_, rfl⟩
        by_cases h3 : e < n
        · have htl : tl (by1 A) n (f + 1) p l = tl (by1 A) n f (e + 1) (l + 1) := by
            show (if n ≤ t_skip (by1 A) n (n - p) p then none else _) = _
            rw [hq, if_neg h1, if_pos h2, hee, if_pos h3]
          obtain ⟨S1, hB, hF, g1, g2⟩ := ih (e + 1) (l + 1) (t + 1) (wI 3107 (nI (l + 1)) (wI 3103 (nI (e + 1)) (wI 3103 (nI e) (wI 3103 (nI q) S)))) _ hlv2 (by omega) (by omega) (by omega) hA hn (by simp only [rI, rJI, rAI, rLI, rIJ, rIA, rJA, rLA, rIL, reduceIte, Nat.reduceEqDiff]) (rIe _ _ _)
          rw [htl]
          refine ⟨S1, ?_, FrT.trans (FrT_wI (by decide) (FrT_wI (by decide) (FrT_wI (by decide) (FrT_wI (by decide) (FrT.refl _ _ _ _ _))))) hF, g1, g2⟩
          have he10 : c_byte S e = 10 := by rw [hby]; exact e4.resolve_left (by omega)
          rcases h2 with h2 | h2
          · rcases hlv with rfl | ⟨zz, rfl⟩
            · exact findLine_nl10 hM hn hp3 hl (by omega) s1 hs (by omega) hse ((hby q).trans h2) e1 hx rfl h3 he10 hB
            · exact findLine_nl102 hM hn hp3 hl (by omega) s1 hs (by omega) hse ((hby q).trans h2) e1 hx rfl h3 he10 hB
          · rcases hlv with rfl | ⟨zz, rfl⟩
            · exact findLine_nl35 hM hn hp3 hl (by omega) s1 hs (by omega) hse ((hby q).trans h2) e1 hx rfl h3 he10 hB
            · exact findLine_nl352 hM hn hp3 hl (by omega) s1 hs (by omega) hse ((hby q).trans h2) e1 hx rfl h3 he10 hB
        · have htl : tl (by1 A) n (f + 1) p l = none := by
            show (if n ≤ t_skip (by1 A) n (n - p) p then none else _) = _
            rw [hq, if_neg h1, if_pos h2, hee, if_neg h3]
          have h35 : by1 A q = 35 := by
            rcases h2 with h2 | h2
            · rcases Nat.lt_or_ge q e with h5 | h5
              · exact absurd h2 (e3 q (Nat.le_refl _) h5)
              · omega
            · exact h2
          -- the last line is a remark: one more turn, at the end
          have hend : ∃ S1, Bod (d + 3) 36 2 [(1, .int (nI (t + 1))), (2, .int (nI p)), (0, .ref 31)] [] (wI 3103 (nI e) (wI 3103 (nI q) S)) none S1 ∧ S1 = wI 3108 (Int32.ofInt (-1)) (wI 3105 (nI 1) (wI 3103 (nI n) (wI 3103 (nI e) (wI 3103 (nI q) S)))) :=
            ⟨_, findLine_end3 (p := e) (q := n) (l := l) (S := wI 3103 (nI e) (wI 3103 (nI q) S)) hM hn (rIe _ _ _) (by simp only [rI, rJI, rAI, rLI, rIJ, rIA, rJA, rLA, rIL, reduceIte, Nat.reduceEqDiff, hl]) (by omega) (by omega) (fun x h6 h7 => by omega) rfl (Or.inl rfl), rfl⟩
          obtain ⟨S1, hB, rfl⟩ := hend
          refine ⟨wI 3108 (Int32.ofInt (-1)) (wI 3105 (nI 1) (wI 3103 (nI n) (wI 3103 (nI e) (wI 3103 (nI q) S)))), ?_, (FrT_wI (by decide) (FrT_wI (by decide) (FrT_wI (by decide) (FrT_wI (by decide) (FrT_wI (by decide) (FrT.refl _ _ _ _ _)))))), fun _ => ⟨(by simp only [rI, rJI, rAI, rLI, rIJ, rIA, rJA, rLA, rIL, reduceIte, Nat.reduceEqDiff]), (by simp only [rI, rJI, rAI, rLI, rIJ, rIA, rJA, rLA, rIL, reduceIte, Nat.reduceEqDiff]), (by simp only [rI, rJI, rAI, rLI, rIJ, rIA, rJA, rLA, rIL, reduceIte, Nat.reduceEqDiff])⟩, fun q2 l2 i h => (by rw [htl] at h; cases h)⟩
          rcases hlv with rfl | ⟨zz, rfl⟩
          · exact findLine_en35 hM hn hp3 hl (by omega) s1 hs (by omega) hse ((hby q).trans h35) e1 hx rfl (by omega) hB
          · exact findLine_en352 hM hn hp3 hl (by omega) s1 hs (by omega) hse ((hby q).trans h35) e1 hx rfl (by omega) hB
      · have htl : tl (by1 A) n (f + 1) p l = some (q, l, q - p) := by
          show (if n ≤ t_skip (by1 A) n (n - p) p then none else _) = _
          rw [hq, if_neg h1, if_neg h2]
        refine ⟨wI 3105 (nI 2) (wI 3108 (nI (q - p)) (wI 3106 (nI l) (wI 3103 (nI q) S))), ?_, (FrT_wI (by decide) (FrT_wI (by decide) (FrT_wI (by decide) (FrT_wI (by decide) (FrT.refl _ _ _ _ _))))), fun h => (by rw [htl] at h; cases h), fun q2 l2 i h => ?_⟩
        · rcases hlv with rfl | ⟨zz, rfl⟩
          · exact findLine_tok hM hn hp3 hl (by omega) s1 hs (by omega) hse (hby q) (fun e => h2 (Or.inl e)) (fun e => h2 (Or.inr e))
          · exact findLine_tok3 hM hn hp3 hl (by omega) s1 hs (by omega) hse (hby q) (fun e => h2 (Or.inl e)) (fun e => h2 (Or.inr e))
        · rw [htl] at h
          injection h with h
          injection h with h3 h4
          injection h4 with h4 h5
          subst h3 h4 h5
          exact ⟨rIe _ _ _, (by simp only [rI, rJI, rAI, rLI, rIJ, rIA, rJA, rLA, rIL, reduceIte, Nat.reduceEqDiff]), (by simp only [rI, rJI, rAI, rLI, rIJ, rIA, rJA, rLA, rIL, reduceIte, Nat.reduceEqDiff]), (by simp only [rI, rJI, rAI, rLI, rIJ, rIA, rJA, rLA, rIL, reduceIte, Nat.reduceEqDiff, hl]), (by simp only [rI, rJI, rAI, rLI, rIJ, rIA, rJA, rLA, rIL, reduceIte, Nat.reduceEqDiff])⟩
