/-! WHERE NAMES ARE, PURE: def, class; every statement -/
section
variable {β : Nat → Nat} {n k1 : Nat} {V : Nat → Int32} {E : Nat → Nat → Bool} {R : RsT} {dp ind lo s k tr ca ra : Nat} {lp : LpT} {sc : SCs} {at' : List Nat} {x : PT}
theorem scZ_e {α : Type} {f : Nat → α → α} {own k : Nat} (h : qK β n k = 1 ∨ qI β n k ≤ own) (g : Nat) (sk : Option Nat) (a : α) : scZ (qK β n) (qI β n) f own g k sk a = a := by
  cases g with
  | zero => rfl
  | succ g => exact if_pos h
/-- a function, without its name's binding -/
theorem psDef_V (hZ : zTk β n k1) (hE : eqV E (qK β n) V) (hR : psV β n k1 V R) (P : zPre β n k1 V sc s k) (hI : qI β n k = ind) (hk : qK β n k = 46) (hC : qK β n x.1 = 1 ∨ qI β n x.1 ≤ ind) (h : psDef (qK β n) (qL β n) E R dp ind s ca ra sc at' k = .inr x) : zRs β n k1 V false k ind s sc x ∧ qK β n (k + 1) = 3 ∧ ∃ q, k ≤ q ∧ qK β n q = 2 ∧ (∀ j, k ≤ j → j < q → 3 ≤ qK β n j) ∧ q < x.1 ∧ qK β n (x.1 - 1) = 2 ∧ ∀ j, q + 1 ≤ j → j < x.1 → ind < qI β n j ∧ qK β n j ≠ 1 := by
  unfold psDef at h
  obtain ⟨⟨h3, h6⟩, h⟩ := if_inr h
  obtain ⟨p1, p2, p3, p4, p5⟩ := P
  have hz := hZ.1
  cases hy : psPs (qK β n) E sc.1.length (sc.1 ++ [(s, ca + 2, ra + 2, k + 1)], sc.2) (k + 3) with
  | none => rw [hy] at h; cases h
  | some y =>
    rw [hy] at h
    obtain ⟨b, hb, h⟩ := sb_inr h
    injection h with h
    subst h
    have hC' : qK β n b.1 = 1 ∨ qI β n b.1 ≤ ind := hC
    have hT0 : enT (sc.1 ++ [(s, ca + 2, ra + 2, k + 1)], sc.2) sc.1.length = [] := by
      refine List.filter_eq_nil_iff.mpr (fun e he q => ?_)
      have := p2 e he
      have := Nat.eq_of_beq_eq_true q
      omega
    have hw0 : wfS (sc.1 ++ [(s, ca + 2, ra + 2, k + 1)], sc.2) := fun e he => by
      have := p2 e he
      show e.1 < (sc.1 ++ [(s, ca + 2, ra + 2, k + 1)]).length
      rw [List.length_append]
      omega
    have hl0 : (sc.1 ++ [(s, ca + 2, ra + 2, k + 1)]).length = sc.1.length + 1 := by rw [List.length_append]; rfl
    obtain ⟨a1, a2, a3, a4, a5, a6, a7, a8, a9⟩ := psPs_V (q := k + 1) hE hy p1 hw0 (by show _ < (sc.1 ++ [(s, ca + 2, ra + 2, k + 1)]).length; omega) hT0
    have a6' : y.2.1.1 = sc.1 ++ [(s, ca + 2, ra + 2, k + 1)] := a6
    obtain ⟨h13, h2, hD⟩ := hR.2.2.2.1 _ _ _ _ _ _ _ _ _ _ _ _ _ (Or.inl ⟨rfl, rfl⟩) hb
    have htk : ∀ j, k ≤ j → j < y.1 + 1 → 3 ≤ qK β n j := tk_c (q := 0) (by omega) (by omega) (fun j j1 j2 => by
      rcases Nat.lt_or_ge j (k + 3) with z | z
      · have : j = k + 1 ∨ j = k + 2 := by omega
        rcases this with e | e <;> rw [e] <;> omega
      · exact a5 j z j2) h13
    have hq1 := q_lt1 hZ p4 (by omega) h2 htk
    have hn1 : ((enS V y.2.1 sc.1.length).map Prod.fst).Nodup := by
      rw [a1, List.map_map]
      have e : (prmL (qK β n) V 9 (k + 1 + 2)).map (Prod.fst ∘ fun x => (x, 1)) = prmL (qK β n) V 9 (k + 1 + 2) := List.map_id _
      rw [e]
      exact a2
    obtain ⟨ib, i1, i2, i3, ⟨l, r1⟩, r2, r3, ⟨r4, r5, r6⟩, ⟨r71, r72, r73, r74, r75⟩, r8, r9⟩ := hD ⟨a7, a8, by rw [a6', hl0]; omega, by omega, fun _ => hn1⟩
    have hlen : b.2.2.1.1.length = sc.1.length + 1 + l.length := by rw [r1, List.length_append, a6', hl0]
    obtain ⟨y1, y2, y3, y4⟩ := rm_run (β := β) (n := n) (k := k) (k1 := k + 1) (by omega) (fun j j1 j2 => htk j j1 (by omega))
    have hT : ∀ s', s' < sc.1.length → enT b.2.2.1 s' = enT sc s' := fun s' h1 => (r2 s' (by rw [a6', hl0]; omega) (by omega)).trans (a9 s' (by omega))
    have hlines : ∀ j, k ≤ j → j < b.1 → ind ≤ qI β n j ∧ qK β n j ≠ 1 := fun j j1 j2 => by
      rcases Nat.lt_or_ge j (y.1 + 1 + 1) with z | z
      · exact lz_tk (by omega) h2 htk (by omega) j j1 z
      · have := r4 j z j2
        exact ⟨by omega, this.2⟩
    refine ⟨⟨⟨[(s, ca + 2, ra + 2, k + 1)] ++ l, ?_⟩, fun s' h1 _ => hT s' h1, fun u h1 h2' => ?_, ⟨hlines, fun _ => r5 i3, by dsimp only; omega⟩, ⟨r71, r72, by dsimp only; omega, r74, fun hs => ?_⟩, (fun h => by cases h), fun _ => hT s p3⟩, h3, y.1 + 1, by omega, h2, htk, by dsimp only; omega, r5 i3, fun j j1 j2 => ?_⟩
    · dsimp only
      rw [r1, a6', List.append_assoc]
    · rcases Nat.eq_or_lt_of_le h1 with z | z
      · subst z
        obtain ⟨M, m1, m2, m3⟩ := r8 rfl (by omega) ind (by omega)
        rw [a1] at m1 m2
        refine ⟨(s, ca + 2, ra + 2, k + 1), M, ?_, p3, m1, m2, a2, ?_⟩
        · dsimp only
          rw [r1, a6', List.append_assoc, List.getElem?_append_right (Nat.le_refl _), Nat.sub_self]
          rfl
        · dsimp only
          unfold lcO
          rw [scZ_1, scZ_2, ← a3, y3, hI]
          obtain ⟨m4, _⟩ := m3 6001 (k1 + 1) (by omega) (by omega)
          obtain ⟨_, m5⟩ := m3 6001 (k1 + 1) (by omega) (by omega)
          rw [m4, m5, scZ_e hC', scZ_e hC']
      · exact r3 u (by rw [a6', hl0]; omega) h2'
    · unfold enS
      rw [hT s p3]
      exact p5 hs
    · have := r4 j (by omega) j2
      exact ⟨by omega, this.2⟩
/-- what lies behind one more binding -/
theorem bind_V (hE : eqV E (qK β n) V) (P : zPre β n k1 V sc s k) (hj : ∃ j, qK β n j = 3 ∧ j = k + 1) (h : zRs β n k1 V false k ind s sc x) (os : List Op) (hz : s ≠ 0 → ∀ own l', own < ind → l' = evS V (enS V sc s) (false, k + 1) → zV β n k1 V own k x.1 (enS V sc s) l') : zRs β n k1 V true k ind s sc (x.1, os, scB E s (k + 1) x.2.2.1, at') := by
  obtain ⟨j, j3, rfl⟩ := hj
  obtain ⟨⟨l, a1⟩, a2, a3, a4, ⟨a51, a52, a53, a54, a55⟩, _, a7⟩ := h
  obtain ⟨l1, l2, l3⟩ := scB_l E s (k + 1) x.2.2.1
  have hT := a7 rfl
  by_cases hs : s = 0
  · have e : scB E s (k + 1) x.2.2.1 = x.2.2.1 := if_pos hs
    rw [e]
    exact ⟨⟨l, a1⟩, a2, a3, a4, ⟨a51, a52, a53, a54, a55⟩, fun _ h => absurd hs h, fun h => by cases h⟩
  · obtain ⟨e1, e2, e3⟩ := scB_ev hE a51 j3 hs
    have hS : enS V x.2.2.1 s = enS V sc s := by unfold enS; rw [hT]
    rw [hS] at e1
    refine ⟨⟨l, l1.trans a1⟩, fun s' h1 h2 => (e2 s' h2).trans (a2 s' h1 h2), fun u h1 h2 => ?_, a4, ⟨e3, wfS_B a52 a53, by dsimp only; rw [l1]; exact a53, a54, fun _ => ?_⟩, fun _ h own ho => hz h own _ ho e1, fun h => by cases h⟩
    · refine gsc_mono (l := []) (a3 u h1 (by rw [← l1]; exact h2)) (by rw [List.append_nil]; exact l1) (e2 u (by have := P.2.2.1; omega))
    · dsimp only
      rw [e1]
      exact evS_nd (P.2.2.2.2 hs)
theorem psDf_V (hZ : zTk β n k1) (hE : eqV E (qK β n) V) (hR : psV β n k1 V R) (P : zPre β n k1 V sc s k) (hI : qI β n k = ind) (hk : qK β n k = 46) (hC : qK β n x.1 = 1 ∨ qI β n x.1 ≤ ind) (h : psDf (qK β n) (qL β n) E R dp ind s ca ra sc at' k = .inr x) : zRs β n k1 V true k ind s sc x := by
  unfold psDf at h
  obtain ⟨y, hy, h⟩ := sb_inr h
  injection h with h
  subst h
  obtain ⟨g, h3, q, q1, q2, q3, q4, q5, q6⟩ := psDef_V (x := y) hZ hE hR P hI hk hC hy
  have hC' : qK β n y.1 = 1 ∨ qI β n y.1 ≤ ind := hC
  refine bind_V hE P ⟨k + 1, h3, rfl⟩ g _ (fun hs own l' ho hl => ?_)
  exact zV_sk hZ [(false, k + 1)] q1 q2 q3 (by omega) (by unfold lnS; rw [if_pos (Or.inl hk)]) hl ⟨(fun h => by cases h), trivial⟩ (fun B => if_pos ⟨Or.inl hk, h3⟩) (fun p lo => if_neg (by omega)) q4 g.2.2.2.2.1.2.2.2.1 q5 (fun j j1 j2 => by rw [hI]; exact q6 j j1 j2) (by rw [hI]; exact hC')
theorem psCl_V (hZ : zTk β n k1) (hE : eqV E (qK β n) V) (hR : psV β n k1 V R) (P : zPre β n k1 V sc s k) (hI : qI β n k = ind) (hk : qK β n k = 47) (hC : qK β n x.1 = 1 ∨ qI β n x.1 ≤ ind) (h : psCl (qK β n) (qL β n) E R dp ind s ca ra sc at' k = .inr x) : zRs β n k1 V true k ind s sc x := by
  unfold psCl at h
  obtain ⟨h3, h⟩ := if_inr h
  have key : ∀ (p : Nat) (os : List Op) (b : PT), k + 2 ≤ p → (∀ j, k + 1 ≤ j → j < p → 3 ≤ qK β n j) → R 6 (dp + 1) ind s none 0 ca ra sc [] p = .inr b → (qK β n b.1 = 1 ∨ qI β n b.1 ≤ ind) → zRs β n k1 V true k ind s sc (b.1, os, scB E s (k + 1) b.2.2.1, at') := fun p os b hp ht hb hC' => by
    obtain ⟨h13, h2, hD⟩ := hR.2.2.2.1 _ _ _ _ _ _ _ _ _ _ _ _ _ (Or.inr ⟨rfl, rfl⟩) hb
    have htk := tk_c (q := 0) (by omega) (by omega) ht h13
    have hl := zRs_l0 (act := false) (lo := ind) (at' := at') hZ P (q := p + 1) (by omega) h2 htk (by omega) [] (fun h => by cases h)
    obtain ⟨ib, i1, i2, i3, i4⟩ := hD hl.2.2.2.2.1
    have g := zRs_app P.2.2.1 hl (zRs_lo i4 (Nat.le_of_lt i1))
    obtain ⟨_, _, _, ⟨r4, r5, r6⟩, r7, _⟩ := i4
    refine bind_V hE P ⟨k + 1, h3, rfl⟩ g os (fun hs own l' ho hl => ?_)
    exact zV_sk hZ [(false, k + 1)] (q := p + 1) (by omega) h2 htk (by omega) (by unfold lnS; rw [if_pos (Or.inr hk)]) hl ⟨(fun h => by cases h), trivial⟩ (fun B => if_pos ⟨Or.inr (Or.inl hk), h3⟩) (fun p lo => if_neg (by omega)) (by omega) r7.2.2.2.1 (r5 i3) (fun j j1 j2 => by
      have := r4 j j1 j2
      exact ⟨by omega, this.2⟩) (by rw [hI]; exact hC')
  by_cases h6 : qK β n (k + 2) = 6
  · rw [if_pos h6] at h
    obtain ⟨⟨h33, h7⟩, h⟩ := if_inr h
    obtain ⟨b, hb, h⟩ := sb_inr h
    injection h with h
    subst h
    exact key (k + 5) _ b (by omega) (fun j j1 j2 => by
      have : j = k + 1 ∨ j = k + 2 ∨ j = k + 3 ∨ j = k + 4 := by omega
      rcases this with e | e | e | e <;> rw [e] <;> omega) hb hC
  · rw [if_neg h6] at h
    obtain ⟨b, hb, h⟩ := sb_inr h
    injection h with h
    subst h
    exact key (k + 2) _ b (by omega) (fun j j1 j2 => by
      have : j = k + 1 := by omega
      rw [this]; omega) hb hC
theorem psC_V (hZ : zTk β n k1) (hE : eqV E (qK β n) V) (hR : psV β n k1 V R) (P : zPre β n k1 V sc s k) (hI : qI β n k = ind) (hC : qK β n x.1 = 1 ∨ qI β n x.1 ≤ ind) (h : psC (qK β n) (qL β n) E R dp ind s ca ra sc at' k = .inr x) : zRs β n k1 V false k ind s sc x := by
  unfold psC at h
  obtain ⟨y, hy, h⟩ := sb_inr h
  injection h with h
  subst h
  have hC' : qK β n y.1 = 1 ∨ qI β n y.1 ≤ ind := hC
  unfold psC0 at hy
  by_cases h46 : qK β n k = 46
  · rw [if_pos h46] at hy
    obtain ⟨w, hw, hy⟩ := sb_inr hy
    injection hy with hy
    subst hy
    have hd := psDef_V (x := w) hZ hE hR P hI h46 hC' hw
    exact hd.1
  rw [if_neg h46] at hy
  by_cases h51 : qK β n k = 51
  · rw [if_pos h51] at hy
    obtain ⟨v1, v2⟩ := ln_inr hy
    rw [v2]
    exact zRs_l0 hZ P (q := k + 1) (by omega) v1 (fun j j1 j2 => by
      have : j = k := by omega
      rw [this]; omega) (by omega) _ (fun h => by cases h)
  rw [if_neg h51] at hy
  obtain ⟨⟨h3, h19⟩, hy⟩ := if_inr hy
  obtain ⟨r, hr, hy⟩ := pb_inr hy
  obtain ⟨t1, t2⟩ := exs_3' hr
  obtain ⟨v1, v2⟩ := ln_inr hy
  rw [v2]
  exact zRs_l0 hZ P (by omega) v1 (fun j j1 j2 => by
    rcases Nat.lt_or_ge j (k + 2) with z | z
    · have : j = k ∨ j = k + 1 := by omega
      rcases this with e | e <;> rw [e] <;> omega
    · exact t1 j z j2) (by omega) _ (fun h => by cases h)
theorem psS_V (hZ : zTk β n k1) (hE : eqV E (qK β n) V) (hR : psV β n k1 V R) (P : zPre β n k1 V sc s k) (hI : qI β n k = ind) (hC : qK β n x.1 = 1 ∨ qI β n x.1 ≤ ind) (h : psS (qK β n) (qL β n) (qI β n) E R dp ind s lp tr ca ra sc at' k = .inr x) : zRs β n k1 V true k ind s sc x := by
  unfold psS at h
  obtain ⟨y, hy, h⟩ := sb_inr h
  injection h with h
  subst h
  have hC' : qK β n y.1 = 1 ∨ qI β n y.1 ≤ ind := hC
  suffices hh : zRs β n k1 V true k ind s sc y from hh
  have one : ∀ (q : Nat) (os : List Op) (at1 : List Nat), qK β n k ∈ [48, 49, 50, 51, 56] → k ≤ q → qK β n q = 2 → (∀ j, k + 1 ≤ j → j < q → 3 ≤ qK β n j) → zRs β n k1 V true k ind s sc (q + 1, os, sc, at1) := fun q os at1 hm hkq h2 ht => by
    simp only [List.mem_cons, List.not_mem_nil, or_false] at hm
    exact zRs_l0 hZ P hkq h2 (fun j j1 j2 => by
      rcases Nat.eq_or_lt_of_le j1 with z | z
      · rw [← z]; omega
      · exact ht j z j2) (by omega) os (fun _ => ⟨lnS_n (by omega), lnB_0 (by omega) (by omega), by omega⟩)
  have lvl : ∀ b, (qK β n k = 49 ∨ qK β n k = 50) → psLv (qK β n) (qL β n) lp tr (ca + 2) (ra + 2) b sc at' k = .inr y → zRs β n k1 V true k ind s sc y := fun b hk hl => by
    unfold psLv at hl
    cases lp with
    | none => cases hl
    | some w =>
      obtain ⟨v1, v2⟩ := ln_inr hl
      rw [v2]
      exact one (k + 1) _ _ (by
        simp only [List.mem_cons, List.not_mem_nil, or_false]
        omega) (by omega) v1 (fun j j1 j2 => by omega)
  unfold psS0 at hy
  by_cases e : qK β n k = 40
  · rw [if_pos e] at hy
    exact hR.2.2.2.2 _ _ _ _ _ _ _ _ _ _ _ hy (Or.inl e) (by omega) P
  rw [if_neg e] at hy; clear e
  by_cases e : qK β n k = 43
  · rw [if_pos e] at hy
    exact psWh_V hZ hR P hI e hy
  rw [if_neg e] at hy; clear e
  by_cases e : qK β n k = 44
  · rw [if_pos e] at hy
    exact psFor_V hZ hE hR P hI e hy
  rw [if_neg e] at hy
  have e44 := e; clear e
  by_cases e : qK β n k = 46
  · rw [if_pos e] at hy
    exact psDf_V hZ hE hR P hI e hC' hy
  rw [if_neg e] at hy
  have e46 := e; clear e
  by_cases e : qK β n k = 47
  · rw [if_pos e] at hy
    exact psCl_V hZ hE hR P hI e hC' hy
  rw [if_neg e] at hy
  have e47 := e; clear e
  by_cases e : qK β n k = 54
  · rw [if_pos e] at hy
    exact psTry_V hZ hE hR P hI e hy
  rw [if_neg e] at hy; clear e
  by_cases e : qK β n k = 52
  · rw [if_pos e] at hy
    exact psDel_V hZ hE P (by omega) e hy
  rw [if_neg e] at hy
  have e52 := e; clear e
  by_cases e : qK β n k = 48
  · rw [if_pos e] at hy
    unfold psRet at hy
    obtain ⟨_, hy⟩ := ifn_inr hy
    split at hy
    · rename_i h2
      injection hy with hy
      subst hy
      exact one (k + 1) _ _ (by rw [e]; decide) (by omega) h2 (fun j j1 j2 => by omega)
    · obtain ⟨r, hr, hy⟩ := pb_inr hy
      obtain ⟨t1, t2⟩ := exs_3' hr
      obtain ⟨v1, v2⟩ := ln_inr hy
      rw [v2]
      exact one r.1 _ _ (by rw [e]; decide) (by omega) v1 t1
  rw [if_neg e] at hy; clear e
  by_cases e : qK β n k = 56
  · rw [if_pos e] at hy
    unfold psRse at hy
    obtain ⟨r, hr, hy⟩ := pb_inr hy
    obtain ⟨t1, t2⟩ := exs_3' hr
    obtain ⟨v1, v2⟩ := ln_inr hy
    rw [v2]
    exact one r.1 _ _ (by rw [e]; decide) (by omega) v1 t1
  rw [if_neg e] at hy; clear e
  by_cases e : qK β n k = 51
  · rw [if_pos e] at hy
    obtain ⟨v1, v2⟩ := ln_inr hy
    rw [v2]
    exact one (k + 1) _ _ (by rw [e]; decide) (by omega) v1 (fun j j1 j2 => by omega)
  rw [if_neg e] at hy; clear e
  by_cases e : qK β n k = 49
  · rw [if_pos e] at hy
    exact lvl _ (Or.inl e) hy
  rw [if_neg e] at hy; clear e
  by_cases e : qK β n k = 50
  · rw [if_pos e] at hy
    exact lvl _ (Or.inr e) hy
  rw [if_neg e] at hy; clear e
  by_cases e : qK β n k = 53
  · rw [if_pos e] at hy
    obtain ⟨hs, hy⟩ := ifn_inr hy
    exact psGl_V hZ hE P (by omega) e hs hy
  rw [if_neg e] at hy
  by_cases e55 : qK β n k = 55
  · unfold psBind at hy
    obtain ⟨r, hr, hy⟩ := pb_inr hy
    rw [exs_1st (Or.inr (Or.inr (Or.inr (Or.inl e55))))] at hr
    cases hr
  exact psBind_V hZ hE P (by omega) ⟨e46, e47, e44, e55, e52, e⟩ hy
/-- every piece of a text -/
theorem ps_V (hZ : zTk β n k1) (hE : eqV E (qK β n) V) : ∀ F, psV β n k1 V (ps (qK β n) (qL β n) (qI β n) E F) := by
  intro F
  induction F with
  | zero => exact ⟨fun _ _ _ _ _ _ _ _ _ _ _ h => (by cases h), fun _ _ _ _ _ _ _ _ _ _ _ h => (by cases h), fun _ _ _ _ _ _ _ _ _ _ _ _ _ _ h => (by cases h), fun _ _ _ _ _ _ _ _ _ _ _ _ _ _ h => (by cases h), fun _ _ _ _ _ _ _ _ _ _ _ h => (by cases h)⟩
  | succ F ih =>
    refine ⟨fun dp ind s lp tr ca ra sc at' k x h hI _ P hC => psS_V hZ hE ih P hI hC h, fun dp ind s lp tr ca ra sc at' k x h hI _ P hC => psC_V hZ hE ih P hI hC h, fun z t dp ind s lp tr ca ra sc at' k x hz h => ?_, fun z t dp ind s lp tr ca ra sc at' k x hz h => ?_, fun dp ind s lp tr ca ra sc at' k x h hk hI P => psI_V hZ ih P hI hk h⟩
    · rcases hz with ⟨rfl, rfl⟩ | ⟨rfl, rfl⟩
      · exact psQ_V hZ ih (Or.inl ⟨rfl, rfl, rfl⟩) h
      · exact psQ_V hZ ih (Or.inr ⟨rfl, rfl, rfl⟩) h
    · rcases hz with ⟨rfl, rfl⟩ | ⟨rfl, rfl⟩
      · exact psB_V ih (Or.inl ⟨rfl, rfl⟩) h
      · exact psB_V ih (Or.inr ⟨rfl, rfl⟩) h
end
