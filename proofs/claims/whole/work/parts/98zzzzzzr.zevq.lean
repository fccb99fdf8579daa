/-! WHERE NAMES ARE, PURE: a name before an assignment's sign; single lines -/
section
variable {K : Nat → Nat}
theorem nm_px {k d : Nat} (h3 : K k = 3) (ha : asg (K (k + 1)) ∨ K (k + 1) = 2) : px K 60000 0 d k 0 0 = some (k + 1, 1, [(18, [k], 0, 0)]) := by
  have h15 : ∀ f, px K (f + 1) 15 d k 0 0 = some (k + 1, 1, [(18, [k], 0, 0)]) := fun f => by
    show px15 K (px K f) d k = _
    unfold px15
    rw [if_pos h3, if_neg (by omega), if_neg (by omega)]
  have h12 : ∀ f a, px K (f + 1) 12 d (k + 1) a 0 = some (k + 1, a, []) := fun f a => by
    show px12 K (px K f) d (k + 1) a = _
    unfold px12
    rw [if_neg (by omega), if_neg (by omega), if_neg (by omega)]
  have h11 : ∀ f, px K (f + 2) 11 d k 0 0 = some (k + 1, 1, [(18, [k], 0, 0)]) := fun f => by
    show pxL (px K (f + 1)) 15 12 d k = _
    unfold pxL
    rw [h15]
    show (px K (f + 1) 12 d (k + 1) 1 0).bind _ = _
    rw [h12]
    rfl
  have h10 : ∀ f, px K (f + 3) 10 d k 0 0 = some (k + 1, 1, [(18, [k], 0, 0)]) := fun f => by
    show pxU K (px K (f + 2)) 16 26 10 11 d k = _
    unfold pxU
    rw [if_neg (by omega)]
    exact h11 f
  have h9 : ∀ f a, px K (f + 1) 9 d (k + 1) a 0 = some (k + 1, a, []) := fun f a => by
    show pxO K (px K f) trmO 10 9 d (k + 1) a = _
    unfold pxO trmO
    rw [if_neg (by
      repeat' split
      all_goals first | omega | (intro q; exact q rfl))]
  have h8 : ∀ f, px K (f + 4) 8 d k 0 0 = some (k + 1, 1, [(18, [k], 0, 0)]) := fun f => by
    show pxL (px K (f + 3)) 10 9 d k = _
    unfold pxL
    rw [h10]
    show (px K (f + 3) 9 d (k + 1) 1 0).bind _ = _
    rw [h9]
    rfl
  have h7 : ∀ f a, px K (f + 1) 7 d (k + 1) a 0 = some (k + 1, a, []) := fun f a => by
    show pxO K (px K f) sumO 8 7 d (k + 1) a = _
    unfold pxO sumO
    rw [if_neg (by
      repeat' split
      all_goals first | omega | (intro q; exact q rfl))]
  have h6 : ∀ f, px K (f + 5) 6 d k 0 0 = some (k + 1, 1, [(18, [k], 0, 0)]) := fun f => by
    show pxL (px K (f + 4)) 8 7 d k = _
    unfold pxL
    rw [h8]
    show (px K (f + 4) 7 d (k + 1) 1 0).bind _ = _
    rw [h7]
    rfl
  have h5 : ∀ f, px K (f + 6) 5 d k 0 0 = some (k + 1, 1, [(18, [k], 0, 0)]) := fun f => by
    show px5 K (px K (f + 5)) d k = _
    unfold px5
    rw [h6]
    show (if cmpO (K (k + 1)) = 0 then _ else _) = _
    rw [if_pos (by
      unfold cmpO
      repeat' split
      all_goals first | rfl | omega)]
  have h4 : ∀ f, px K (f + 7) 4 d k 0 0 = some (k + 1, 1, [(18, [k], 0, 0)]) := fun f => by
    show pxU K (px K (f + 6)) 59 25 4 5 d k = _
    unfold pxU
    rw [if_neg (by omega)]
    exact h5 f
  have hJ : ∀ f a, px K (f + 1) 3 d (k + 1) a 0 = some (k + 1, a, []) ∧ px K (f + 1) 1 d (k + 1) a 0 = some (k + 1, a, []) := fun f a => by
    constructor
    · show pxJ K (px K f) 57 6 4 3 d (k + 1) a = _
      unfold pxJ
      rw [if_neg (by omega)]
    · show pxJ K (px K f) 58 7 2 1 d (k + 1) a = _
      unfold pxJ
      rw [if_neg (by omega)]
  have h2 : ∀ f, px K (f + 8) 2 d k 0 0 = some (k + 1, 1, [(18, [k], 0, 0)]) := fun f => by
    show pxL (px K (f + 7)) 4 3 d k = _
    unfold pxL
    rw [h4]
    show (px K (f + 7) 3 d (k + 1) 1 0).bind _ = _
    rw [(hJ (f + 6) 1).1]
    rfl
  show pxL (px K (59991 + 8)) 2 1 d k = _
  unfold pxL
  rw [h2]
  show (px K (59998 + 1) 1 d (k + 1) 1 0).bind _ = _
  rw [(hJ 59998 1).2]
  rfl
theorem exs_asg {s k : Nat} {r : Nat × Nat × List Op} (h3 : K k = 3) (ha : asg (K (k + 1)) ∨ K (k + 1) = 2) (h : exs K s k = some r) : r.1 = k + 1 ∧ r.2.1 = 1 := by
  obtain ⟨r0, r1, r2⟩ := exs_px h
  rw [nm_px h3 ha] at r1
  injection r1 with r1
  rw [r2, ← r1]
  exact ⟨rfl, rfl⟩
theorem lnB_0 {V : Nat → Int32} {k : Nat} (h1 : ¬ ((K k = 46 ∨ K k = 47 ∨ K k = 44 ∨ K k = 55 ∨ (K k = 52 ∧ K (k + 2) = 2)) ∧ K (k + 1) = 3)) (h2 : ¬ (K k = 3 ∧ asg (K (k + 1)))) (B : List Int32) : lnB K V k B = B := by
  unfold lnB
  rw [if_neg h1, if_neg h2]
theorem lnS_n {I : Nat → Nat} {k : Nat} (h : K k ≠ 46 ∧ K k ≠ 47) : lnS K I k = none := if_neg (by omega)
end
section
variable {β : Nat → Nat} {n k1 : Nat} {V : Nat → Int32} {E : Nat → Nat → Bool} {lo s k : Nat} {sc : SCs} {at' : List Nat} {x : PT}
theorem exs_3' {q : Nat} {r : Nat × Nat × List Op} (h : exs (qK β n) s q = some r) : (∀ j, q ≤ j → j < r.1 → 3 ≤ qK β n j) ∧ q + 1 ≤ r.1 := ⟨(exs_3 h).1, (exs_3 h).2.1⟩
/-- an expression statement, an assignment -/
theorem psBind_V (hZ : zTk β n k1) (hE : eqV E (qK β n) V) (P : zPre β n k1 V sc s k) (hI : lo ≤ qI β n k) (hk : qK β n k ≠ 46 ∧ qK β n k ≠ 47 ∧ qK β n k ≠ 44 ∧ qK β n k ≠ 55 ∧ qK β n k ≠ 52 ∧ qK β n k ≠ 53) (h : psBind (qK β n) (qL β n) E s sc at' k = .inr x) : zRs β n k1 V true k lo s sc x := by
  unfold psBind at h
  obtain ⟨r, hr, h⟩ := pb_inr h
  obtain ⟨t1, t2⟩ := exs_3' hr
  have key : ∀ (q : Nat × Nat × List Op) (os : List Op), exs (qK β n) s (r.1 + 1) = some q → r.2.1 ≠ 0 → asg (qK β n r.1) → ln (qK β n) (qL β n k) q.1 os (scT E s r.2.1 (r.1 - 1) sc) at' = .inr x → zRs β n k1 V true k lo s sc x := fun q os hq hg ha hl => by
    obtain ⟨u1, u2⟩ := exs_3' hq
    obtain ⟨v1, v2⟩ := ln_inr hl
    have htk : ∀ j, k ≤ j → j < q.1 → 3 ≤ qK β n j := fun j j1 j2 => by
      rcases Nat.lt_trichotomy j r.1 with z | z | z
      · exact t1 j j1 z
      · rw [z]
        have : asg (qK β n r.1) := ha
        omega
      · exact u1 j z j2
    rw [v2]
    obtain ⟨_, _, _, hc⟩ := ex_tg hr hg
    rcases hc with ⟨c1, _, _, c4, c5⟩ | ⟨c1, _⟩ | ⟨c1, c2, c3⟩
    · have e : scT E s r.2.1 (r.1 - 1) sc = scB E s k sc := by
        unfold scT
        rw [if_pos c1, c4]
        rfl
      rw [e]
      refine zRs_l1 hZ hE P (by omega) v1 htk hI os c5 ⟨lnS_n (by omega), fun B => ?_, by omega⟩
      unfold lnB
      rw [c4] at ha
      rw [if_neg (by omega), if_pos ⟨c5, ha⟩]
    · have e : scT E s r.2.1 (r.1 - 1) sc = sc := if_neg (by omega)
      rw [e]
      refine zRs_l0 hZ P (by omega) v1 htk hI os (fun _ => ⟨lnS_n (by omega), lnB_0 (by omega) (fun z => ?_), by omega⟩)
      have := (exs_asg z.1 (Or.inl z.2) hr).2
      omega
    · have e : scT E s r.2.1 (r.1 - 1) sc = sc := if_neg (by omega)
      rw [e]
      refine zRs_l0 hZ P (by omega) v1 htk hI os (fun _ => ⟨lnS_n (by omega), lnB_0 (by omega) (fun z => ?_), by omega⟩)
      have := (exs_asg z.1 (Or.inl z.2) hr).2
      omega
  by_cases h19 : qK β n r.1 = 19
  · rw [if_pos h19] at h
    obtain ⟨hg, h⟩ := ifn_inr h
    obtain ⟨q, hq, h⟩ := pb_inr h
    exact key q _ hq hg (Or.inl h19) h
  · rw [if_neg h19] at h
    by_cases hc : chO (qK β n r.1) = 0
    · rw [if_pos hc] at h
      obtain ⟨v1, v2⟩ := ln_inr h
      rw [v2]
      refine zRs_l0 hZ P (by omega) v1 t1 hI _ (fun _ => ⟨lnS_n (by omega), lnB_0 (by omega) (fun z => ?_), by omega⟩)
      have e := (exs_asg z.1 (Or.inl z.2) hr).1
      have ha : asg (qK β n (k + 1)) := z.2
      rw [← e] at ha
      omega
    · rw [if_neg hc] at h
      obtain ⟨hg, h⟩ := ifn_inr h
      obtain ⟨q, hq, h⟩ := pb_inr h
      refine key q _ hq hg (Or.inr ?_) h
      unfold chO at hc
      repeat' split at hc
      all_goals omega
/-- del -/
theorem psDel_V (hZ : zTk β n k1) (hE : eqV E (qK β n) V) (P : zPre β n k1 V sc s k) (hI : lo ≤ qI β n k) (hk : qK β n k = 52) (h : psDel (qK β n) (qL β n) E s sc at' k = .inr x) : zRs β n k1 V true k lo s sc x := by
  unfold psDel at h
  obtain ⟨r, hr, h⟩ := pb_inr h
  obtain ⟨hg, h⟩ := ifn_inr h
  obtain ⟨t1, t2⟩ := exs_3' hr
  obtain ⟨v1, v2⟩ := ln_inr h
  have htk : ∀ j, k ≤ j → j < r.1 → 3 ≤ qK β n j := fun j j1 j2 => by
    rcases Nat.eq_or_lt_of_le j1 with z | z
    · rw [← z]; omega
    · exact t1 j z j2
  rw [v2]
  obtain ⟨_, _, _, hc⟩ := ex_tg hr hg
  have n2 : r.2.1 ≠ 1 → ¬ (qK β n (k + 2) = 2 ∧ qK β n (k + 1) = 3) := fun hn z => hn (exs_asg z.2 (Or.inr z.1) hr).2
  rcases hc with ⟨c1, _, _, c4, c5⟩ | ⟨c1, _⟩ | ⟨c1, c2, c3⟩
  · have e : scT E s r.2.1 (r.1 - 1) sc = scB E s (k + 1) sc := by
      unfold scT
      rw [if_pos c1, c4]
      rfl
    rw [e]
    refine zRs_l1 hZ hE P (by omega) v1 htk hI _ c5 ⟨lnS_n (by omega), fun B => ?_, by omega⟩
    unfold lnB
    rw [c4] at v1
    rw [if_pos ⟨Or.inr (Or.inr (Or.inr (Or.inr ⟨hk, v1⟩))), c5⟩]
  · have e : scT E s r.2.1 (r.1 - 1) sc = sc := if_neg (by omega)
    rw [e]
    have := n2 (by omega)
    exact zRs_l0 hZ P (by omega) v1 htk hI _ (fun _ => ⟨lnS_n (by omega), lnB_0 (by omega) (by omega), by omega⟩)
  · have e : scT E s r.2.1 (r.1 - 1) sc = sc := if_neg (by omega)
    rw [e]
    have := n2 (by omega)
    exact zRs_l0 hZ P (by omega) v1 htk hI _ (fun _ => ⟨lnS_n (by omega), lnB_0 (by omega) (by omega), by omega⟩)
end
