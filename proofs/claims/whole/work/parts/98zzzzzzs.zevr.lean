/-! WHERE NAMES ARE, PURE: lines with blocks -/
section
variable (β : Nat → Nat) (n k1 : Nat) (V : Nat → Int32)
def psV (R : RsT) : Prop :=
  (∀ dp ind s lp tr ca ra sc at' k x, R 0 dp ind s lp tr ca ra sc at' k = .inr x → qI β n k = ind → qK β n k ≠ 1 → zPre β n k1 V sc s k → (qK β n x.1 = 1 ∨ qI β n x.1 ≤ ind) → zRs β n k1 V true k ind s sc x) ∧
  (∀ dp ind s lp tr ca ra sc at' k x, R 5 dp ind s lp tr ca ra sc at' k = .inr x → qI β n k = ind → qK β n k ≠ 1 → zPre β n k1 V sc s k → (qK β n x.1 = 1 ∨ qI β n x.1 ≤ ind) → zRs β n k1 V false k ind s sc x) ∧
  (∀ z t dp ind s lp tr ca ra sc at' k x, (z = true ∧ t = 1 ∨ z = false ∧ t = 4) → R t dp ind s lp tr ca ra sc at' k = .inr x → (qK β n k = 1 ∨ qI β n k ≤ ind) ∧ (zPre β n k1 V sc s k → (qK β n x.1 = 1 ∨ qI β n x.1 < ind) ∧ zRs β n k1 V z k ind s sc x)) ∧
  (∀ z t dp ind s lp tr ca ra sc at' k x, (z = true ∧ t = 2 ∨ z = false ∧ t = 6) → R t dp ind s lp tr ca ra sc at' k = .inr x → qK β n k = 13 ∧ qK β n (k + 1) = 2 ∧ (zPre β n k1 V sc s (k + 2) → ∃ ib, ind < ib ∧ (qK β n x.1 = 1 ∨ qI β n x.1 < ib) ∧ k + 2 < x.1 ∧ zRs β n k1 V z (k + 2) ib s sc x)) ∧
  (∀ dp ind s lp tr ca ra sc at' k x, R 3 dp ind s lp tr ca ra sc at' k = .inr x → (qK β n k = 40 ∨ qK β n k = 41) → ind ≤ qI β n k → zPre β n k1 V sc s k → zRs β n k1 V true k ind s sc x)
end
section
variable {β : Nat → Nat} {n k1 : Nat} {V : Nat → Int32} {E : Nat → Nat → Bool} {R : RsT} {act : Bool} {dp ind lo s k tr ca ra : Nat} {lp : LpT} {sc : SCs} {at' : List Nat} {x : PT}
/-- a head's line and the block behind it -/
theorem blk_V (hR : psV β n k1 V R) {t p : Nat} {os : List Op} {sc1 : SCs} {at1 at2 : List Nat} {b : PT} (ht : act = true ∧ t = 2 ∨ act = false ∧ t = 6) (hs : s < sc.1.length) (hl : zRs β n k1 V act k lo s sc (p + 1 + 1, os, sc1, at2)) (hlo : lo ≤ ind) (hb : R t dp ind s lp tr ca ra sc1 at1 p = .inr b) : zRs β n k1 V act k lo s sc b ∧ p + 2 < b.1 := by
  obtain ⟨_, _, h3⟩ := hR.2.2.2.1 _ _ _ _ _ _ _ _ _ _ _ _ _ ht hb
  obtain ⟨ib, i1, i2, i3, i4⟩ := h3 hl.2.2.2.2.1
  exact ⟨zRs_app hs hl (zRs_lo i4 (by omega)), i3⟩
theorem tk_c {p q : Nat} (hkp : k < p) (h1 : 3 ≤ qK β n k) (h : ∀ j, k + 1 ≤ j → j < p → 3 ≤ qK β n j) (h13 : qK β n p = 13) : ∀ j, k ≤ j → j < p + 1 → 3 ≤ qK β n j := fun j j1 j2 => by
  rcases Nat.eq_or_lt_of_le j1 with z | z
  · rw [← z]; exact h1
  · rcases Nat.lt_or_ge j p with z2 | z2
    · exact h j z z2
    · obtain rfl : j = p := by omega
      omega
theorem psWh_V (hZ : zTk β n k1) (hR : psV β n k1 V R) (P : zPre β n k1 V sc s k) (hI : qI β n k = ind) (hk : qK β n k = 43) (h : psWh (qK β n) (qL β n) R dp ind s tr ca ra sc at' k = .inr x) : zRs β n k1 V true k ind s sc x := by
  unfold psWh at h
  obtain ⟨r, hr, h⟩ := pb_inr h
  obtain ⟨b, hb, h⟩ := sb_inr h
  injection h with h
  subst h
  obtain ⟨t1, t2⟩ := exs_3' hr
  obtain ⟨h13, h2, _⟩ := hR.2.2.2.1 _ _ _ _ _ _ _ _ _ _ _ _ _ (Or.inl ⟨rfl, rfl⟩) hb
  have hl := zRs_l0 (act := true) (lo := ind) (at' := at') hZ P (q := r.1 + 1) (by omega) h2 (tk_c (q := 0) (by omega) (by omega) t1 h13) (by omega) [] (fun _ => ⟨lnS_n (by omega), lnB_0 (by omega) (by omega), by omega⟩)
  exact (blk_V hR (Or.inl ⟨rfl, rfl⟩) P.2.2.1 hl (Nat.le_refl _) hb).1
theorem psFor_V (hZ : zTk β n k1) (hE : eqV E (qK β n) V) (hR : psV β n k1 V R) (P : zPre β n k1 V sc s k) (hI : qI β n k = ind) (hk : qK β n k = 44) (h : psFor (qK β n) (qL β n) E R dp ind s tr ca ra sc at' k = .inr x) : zRs β n k1 V true k ind s sc x := by
  unfold psFor at h
  obtain ⟨⟨h3, h45⟩, h⟩ := if_inr h
  obtain ⟨r, hr, h⟩ := pb_inr h
  obtain ⟨b, hb, h⟩ := sb_inr h
  injection h with h
  subst h
  obtain ⟨t1, t2⟩ := exs_3' hr
  obtain ⟨h13, h2, _⟩ := hR.2.2.2.1 _ _ _ _ _ _ _ _ _ _ _ _ _ (Or.inl ⟨rfl, rfl⟩) hb
  have hl := zRs_l1 (lo := ind) (at' := at') (j := k + 1) hZ hE P (q := r.1 + 1) (by omega) h2 (tk_c (q := 0) (by omega) (by omega) (fun j j1 j2 => by
    rcases Nat.lt_or_ge j (k + 3) with z | z
    · have : j = k + 1 ∨ j = k + 2 := by omega
      rcases this with e | e <;> rw [e] <;> omega
    · exact t1 j z j2) h13) (by omega) [] h3 ⟨lnS_n (by omega), fun B => if_pos ⟨Or.inr (Or.inr (Or.inl hk)), h3⟩, by omega⟩
  exact (blk_V hR (Or.inl ⟨rfl, rfl⟩) P.2.2.1 hl (Nat.le_refl _) hb).1
theorem psTry_V (hZ : zTk β n k1) (hE : eqV E (qK β n) V) (hR : psV β n k1 V R) (P : zPre β n k1 V sc s k) (hI : qI β n k = ind) (hk : qK β n k = 54) (h : psTry (qK β n) (qL β n) (qI β n) E R dp ind s lp tr ca ra sc at' k = .inr x) : zRs β n k1 V true k ind s sc x := by
  unfold psTry at h
  obtain ⟨b, hb, h⟩ := sb_inr h
  obtain ⟨⟨h55, hbI⟩, h⟩ := if_inr h
  obtain ⟨e, he, h⟩ := sb_inr h
  injection h with h
  subst h
  obtain ⟨h13, h2, _⟩ := hR.2.2.2.1 _ _ _ _ _ _ _ _ _ _ _ _ _ (Or.inl ⟨rfl, rfl⟩) hb
  have hl := zRs_l0 (act := true) (lo := ind) (at' := at') hZ P (q := k + 1 + 1) (by omega) h2 (tk_c (q := 0) (by omega) (by omega) (fun j j1 j2 => by omega) h13) (by omega) [] (fun _ => ⟨lnS_n (by omega), lnB_0 (by omega) (by omega), by omega⟩)
  obtain ⟨g1, g2⟩ := blk_V hR (Or.inl ⟨rfl, rfl⟩) P.2.2.1 hl (Nat.le_refl _) hb
  have P2 := g1.2.2.2.2.1
  obtain ⟨h13', h2', _⟩ := hR.2.2.2.1 _ _ _ _ _ _ _ _ _ _ _ _ _ (Or.inl ⟨rfl, rfl⟩) he
  by_cases h3 : qK β n (b.1 + 1) = 3
  · have e1 : exK (qK β n) (b.1 + 1) = b.1 + 2 := if_pos h3
    have e2 : exC (qK β n) E s (b.1 + 1) b.2.2.1 = scB E s (b.1 + 1) b.2.2.1 := if_pos h3
    rw [e1] at h13' h2' he
    rw [e2] at he
    have hl2 := zRs_l1 (lo := ind) (at' := at') (j := b.1 + 1) hZ hE P2 (q := b.1 + 2 + 1) (by omega) h2' (tk_c (q := 0) (by omega) (by omega) (fun j j1 j2 => by
      have : j = b.1 + 1 := by omega
      rw [this]; omega) h13') (by omega) [] h3 ⟨lnS_n (by omega), fun B => if_pos ⟨Or.inr (Or.inr (Or.inr (Or.inl h55))), h3⟩, by omega⟩
    exact zRs_app P.2.2.1 g1 (blk_V hR (Or.inl ⟨rfl, rfl⟩) P2.2.2.1 hl2 (Nat.le_refl _) he).1
  · have e1 : exK (qK β n) (b.1 + 1) = b.1 + 1 := if_neg h3
    have e2 : exC (qK β n) E s (b.1 + 1) b.2.2.1 = b.2.2.1 := if_neg h3
    rw [e1] at h13' h2' he
    rw [e2] at he
    have hl2 := zRs_l0 (act := true) (lo := ind) (at' := at') hZ P2 (q := b.1 + 1 + 1) (by omega) h2' (tk_c (q := 0) (by omega) (by omega) (fun j j1 j2 => by omega) h13') (by omega) [] (fun _ => ⟨lnS_n (by omega), lnB_0 (by omega) (by omega), by omega⟩)
    exact zRs_app P.2.2.1 g1 (blk_V hR (Or.inl ⟨rfl, rfl⟩) P2.2.2.1 hl2 (Nat.le_refl _) he).1
theorem psI_V (hZ : zTk β n k1) (hR : psV β n k1 V R) (P : zPre β n k1 V sc s k) (hI : ind ≤ qI β n k) (hk : qK β n k = 40 ∨ qK β n k = 41) (h : psI (qK β n) (qL β n) (qI β n) R dp ind s lp tr ca ra sc at' k = .inr x) : zRs β n k1 V true k ind s sc x := by
  unfold psI at h
  obtain ⟨r, hr, h⟩ := pb_inr h
  obtain ⟨b, hb, h⟩ := sb_inr h
  obtain ⟨t1, t2⟩ := exs_3' hr
  obtain ⟨h13, h2, _⟩ := hR.2.2.2.1 _ _ _ _ _ _ _ _ _ _ _ _ _ (Or.inl ⟨rfl, rfl⟩) hb
  have hl := zRs_l0 (act := true) (lo := ind) (at' := at') hZ P (q := r.1 + 1) (by omega) h2 (tk_c (q := 0) (by omega) (by omega) t1 h13) (by omega) [] (fun _ => ⟨lnS_n (by omega), lnB_0 (by omega) (by omega), by omega⟩)
  obtain ⟨g1, g2⟩ := blk_V hR (Or.inl ⟨rfl, rfl⟩) P.2.2.1 hl (Nat.le_refl _) hb
  have P2 := g1.2.2.2.2.1
  by_cases hc : (qK β n b.1 = 41 ∨ qK β n b.1 = 42) ∧ qI β n b.1 = ind
  · rw [if_pos hc] at h
    obtain ⟨e, he, h⟩ := sb_inr h
    injection h with h
    subst h
    by_cases h41 : qK β n b.1 = 41
    · rw [if_pos h41] at he
      have g3 := hR.2.2.2.2 _ _ _ _ _ _ _ _ _ _ _ he (Or.inr h41) (by omega) P2
      exact zRs_app P.2.2.1 g1 g3
    · rw [if_neg h41] at he
      obtain ⟨h13', h2', _⟩ := hR.2.2.2.1 _ _ _ _ _ _ _ _ _ _ _ _ _ (Or.inl ⟨rfl, rfl⟩) he
      have hl2 := zRs_l0 (act := true) (lo := ind) (at' := at') hZ P2 (q := b.1 + 1 + 1) (by omega) h2' (tk_c (q := 0) (by omega) (by omega) (fun j j1 j2 => by omega) h13') (by omega) [] (fun _ => ⟨lnS_n (by omega), lnB_0 (by omega) (by omega), by omega⟩)
      exact zRs_app P.2.2.1 g1 (blk_V hR (Or.inl ⟨rfl, rfl⟩) P2.2.2.1 hl2 (Nat.le_refl _) he).1
  · rw [if_neg hc] at h
    injection h with h
    subst h
    exact g1
theorem psQ_V (hZ : zTk β n k1) (hR : psV β n k1 V R) {z : Bool} {u t : Nat} (hz : z = true ∧ u = 0 ∧ t = 1 ∨ z = false ∧ u = 5 ∧ t = 4) (h : psQ (qK β n) (qL β n) (qI β n) R u t dp ind s lp tr ca ra sc at' k = .inr x) : (qK β n k = 1 ∨ qI β n k ≤ ind) ∧ (zPre β n k1 V sc s k → (qK β n x.1 = 1 ∨ qI β n x.1 < ind) ∧ zRs β n k1 V z k ind s sc x) := by
  unfold psQ at h
  split at h
  · rename_i hc
    injection h with h
    subst h
    exact ⟨by omega, fun P => ⟨hc, zRs_0 hZ P⟩⟩
  · rename_i hc
    obtain ⟨hlt, h⟩ := ifn_inr h
    have hI : qI β n k = ind := by omega
    obtain ⟨a, ha, h⟩ := sb_inr h
    obtain ⟨b, hb, h⟩ := sb_inr h
    injection h with h
    subst h
    refine ⟨by omega, fun P => ?_⟩
    have ht : z = true ∧ t = 1 ∨ z = false ∧ t = 4 := hz.imp (fun q => ⟨q.1, q.2.2⟩) (fun q => ⟨q.1, q.2.2⟩)
    obtain ⟨b1, b2⟩ := hR.2.2.1 _ _ _ _ _ _ _ _ _ _ _ _ _ ht hb
    have h1 : zRs β n k1 V z k ind s sc a := by
      rcases hz with ⟨z1, z2, _⟩ | ⟨z1, z2, _⟩
      · subst z1; subst z2
        exact hR.1 _ _ _ _ _ _ _ _ _ _ _ ha hI (by omega) P b1
      · subst z1; subst z2
        exact hR.2.1 _ _ _ _ _ _ _ _ _ _ _ ha hI (by omega) P b1
    obtain ⟨b3, b4⟩ := b2 h1.2.2.2.2.1
    exact ⟨b3, zRs_app P.2.2.1 h1 b4⟩
theorem psB_V (hR : psV β n k1 V R) {z : Bool} {t : Nat} (hz : z = true ∧ t = 1 ∨ z = false ∧ t = 4) (h : psB (qK β n) (qL β n) (qI β n) R t dp ind s lp tr ca ra sc at' k = .inr x) : qK β n k = 13 ∧ qK β n (k + 1) = 2 ∧ (zPre β n k1 V sc s (k + 2) → ∃ ib, ind < ib ∧ (qK β n x.1 = 1 ∨ qI β n x.1 < ib) ∧ k + 2 < x.1 ∧ zRs β n k1 V z (k + 2) ib s sc x) := by
  unfold psB at h
  obtain ⟨h13, h⟩ := ifn_inr h
  obtain ⟨h2, h⟩ := ifn_inr h
  obtain ⟨hc, h⟩ := ifn_inr h
  refine ⟨by omega, by omega, fun P => ⟨qI β n (k + 2), by omega, ?_⟩⟩
  obtain ⟨b1, b2⟩ := (hR.2.2.1 _ _ _ _ _ _ _ _ _ _ _ _ _ hz h).2 P
  refine ⟨b1, ?_, b2⟩
  have := b2.2.2.2.1.2.2
  rcases Nat.eq_or_lt_of_le this with q | q
  · rw [← q] at b1
    omega
  · exact q
end
