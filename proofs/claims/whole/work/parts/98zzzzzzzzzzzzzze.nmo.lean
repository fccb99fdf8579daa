/-! CALLS OF CLASSES: the reference looks the name init up (294) -/
/-- tags of the names' arrays -/
def ownG (g0 g1 g3 g4 g5 : Nat) : Nat → Nat × Nat := fun a => if a = g0 then (20, 0) else if a = g1 then (21, 0) else if a = g3 then (23, 0) else if a = g4 then (24, 0) else if a = g5 then (25, 0) else (0, 0)
section
variable {P : Nat → Prop} {T : cS} {gT : Nat} {Q Q' : Nat → Prop} {β β' : Nat → Nat} {F : Nat → Nat → Nat → Prop} {D : List Nat} {z nn nn' g0 g1 g3 g4 g5 gn h0 h1 h3 h4 h5 hn n m p q k i t kd a d : Nat} {tq : Nat → Nat × Nat} {C : List Lv} {S S' W Sc Sr : cS}
theorem isK_kd {t t' N N' : Nat} (h : isK S a t N) (h' : isK S a t' N') : t = t' := by
  rcases h with ⟨c, e⟩ | ⟨c, e⟩
  · rcases h' with ⟨c', e'⟩ | ⟨c', e'⟩
    · rw [e] at e'
      injection e' with e'
      injection e' with e' _
    · omega
  · rcases h' with ⟨c', e'⟩ | ⟨c', e'⟩
    · omega
    · rw [e] at e'
      injection e' with e'
      injection e' with e' _
theorem iniB_lt : ∀ i, i < 4 → iniB i < 128 := by decide
theorem XR_nmo (hX : XR P T gT Q β F D z nn g0 g1 g3 g4 g5 gn tq C Sc Sr) (h105 : ∀ i, i < 4 → sA Sr 105 i = nI (iniB i)) (hroom : gn < 2 ^ 15 ∨ ∃ r, r < nn ∧ rnH Sr g0 g1 r = e_H iniB 4 ∧ rnL Sr g0 g1 r = e_L iniB 4) : ∃ Q' nn' h0 h1 h3 h4 h5 hn W r, Ans (d + 8) 294 [.ref 61, .ref 105, .int (nI 0), .int (nI 4)] Sr (some (.int (nI r))) W ∧ XR P T gT Q' β F D z nn' h0 h1 h3 h4 h5 hn tq C Sc W ∧ (r < nn' ∧ rnH W h0 h1 r = e_H iniB 4 ∧ rnL W h0 h1 r = e_L iniB 4) ∧ nmF g0 g1 g3 g4 g5 Sr W ∧ nmK Sr W g0 g1 nn h0 h1 nn' ∧ ∀ p, p < 1500 → thE Sr W p := by
  have hX0 := hX
  obtain ⟨a1, a2, a3, a4, a5, a6, a7, a8, a9, a10, a11⟩ := hX
  obtain ⟨t1, ⟨v0, v1, v3, v4, v5⟩, ⟨i0, i1, i3, i4, i5⟩, t4, t5, t6, ⟨q0, q1, q3, q4, q5⟩, ⟨n0, n1, n3, n4, n5⟩, d1, d2, d3, d4⟩ := a3
  have hNM := a2.1
  have hfit := a2.2.2.2.1.2
  have hb : ∀ i, i < 4 → iniB i < 128 ∧ sA Sr 105 (0 + i) = nI (iniB i) := fun i hi => ⟨iniB_lt i hi, by rw [Nat.zero_add]; exact h105 i hi⟩
  have enc := fun r (hr : r < nn) => same_enc (ab := 105) (fr := 0) (n := 4) (f := iniB) (hNM.1 r hr) (by omega) hb
  by_cases hex : ∃ r, r < nn ∧ r_same Sr g0 g1 105 0 4 r
  · obtain ⟨r, hr, hs⟩ := hex
    obtain ⟨eH, eL⟩ := (enc r hr).mp hs
    have hA : Ans (d + 8) 294 [.ref 61, .ref 105, .int (nI 0), .int (nI 4)] Sr (some (.int (nI r))) Sr := Ans.up (by omega) (nameOf_old (d := 0) (S := Sr) (NB := 4) t1 v0 v1 i0 i1 (by omega) t4 (mk_105 _) (by decide) (by omega) (by omega) (by omega) hr hs (fun p hp hps => by
      obtain ⟨eH2, eL2⟩ := (enc p (by omega)).mp hps
      have := hNM.2.1 p r (by omega) hr (eH2.trans eH.symm) (eL2.trans eL.symm)
      omega))
    exact ⟨Q, nn, g0, g1, g3, g4, g5, gn, Sr, r, hA, hX0, ⟨hr, eH, eL⟩, ⟨rfl, rfl, fun _ _ => rfl, fun _ _ => rfl, ⟨[], (List.append_nil _).symm⟩, fun _ _ _ _ _ => rfl, fun _ _ _ _ => rfl⟩, ⟨Nat.le_refl _, fun _ _ => ⟨rfl, rfl⟩, rfl, rfl⟩, fun p _ => thE.refl Sr p⟩
  · have k04 : g4 ≠ g0 := fun c => absurd (isK_kd (c ▸ i4) i0) (by decide)
    have k14 : g4 ≠ g1 := fun c => absurd (isK_kd (c ▸ i4) i1) (by decide)
    have k34 : g4 ≠ g3 := fun c => absurd (isK_kd (c ▸ i4) i3) (by decide)
    have k05 : g5 ≠ g0 := fun c => absurd (isK_kd (c ▸ i5) i0) (by decide)
    have k15 : g5 ≠ g1 := fun c => absurd (isK_kd (c ▸ i5) i1) (by decide)
    have k35 : g5 ≠ g3 := fun c => absurd (isK_kd (c ▸ i5) i3) (by decide)
    obtain ⟨own, ho⟩ : ∃ own, own = ownG g0 g1 g3 g4 g5 := ⟨_, rfl⟩
    have oE : ∀ a, own a = if a = g0 then (20, 0) else if a = g1 then (21, 0) else if a = g3 then (23, 0) else if a = g4 then (24, 0) else if a = g5 then (25, 0) else (0, 0) := fun a => by rw [ho]; rfl
    have o0 : own g0 = (20, 0) := by rw [oE, if_pos rfl]
    have o1 : own g1 = (21, 0) := by rw [oE, if_neg (fun c => d1 c.symm), if_pos rfl]
    have o3 : own g3 = (23, 0) := by rw [oE, if_neg (fun c => d2 c.symm), if_neg (fun c => d3 c.symm), if_pos rfl]
    have o4 : own g4 = (24, 0) := by rw [oE, if_neg k04, if_neg k14, if_neg k34, if_pos rfl]
    have o5 : own g5 = (25, 0) := by rw [oE, if_neg k05, if_neg k15, if_neg k35, if_neg (fun c => d4 c.symm), if_pos rfl]
    have back : ∀ a, ((own a).1 = 20 → a = g0) ∧ ((own a).1 = 21 → a = g1) ∧ ((own a).1 = 23 → a = g3) ∧ ((own a).1 = 24 → a = g4) ∧ ((own a).1 = 25 → a = g5) := fun a => by
      rw [oE]
      by_cases c0 : a = g0
      · rw [if_pos c0]
        exact ⟨fun _ => c0, fun c => absurd c (by decide), fun c => absurd c (by decide), fun c => absurd c (by decide), fun c => absurd c (by decide)⟩
      rw [if_neg c0]
      by_cases c1 : a = g1
      · rw [if_pos c1]
        exact ⟨fun c => absurd c (by decide), fun _ => c1, fun c => absurd c (by decide), fun c => absurd c (by decide), fun c => absurd c (by decide)⟩
      rw [if_neg c1]
      by_cases c3 : a = g3
      · rw [if_pos c3]
        exact ⟨fun c => absurd c (by decide), fun c => absurd c (by decide), fun _ => c3, fun c => absurd c (by decide), fun c => absurd c (by decide)⟩
      rw [if_neg c3]
      by_cases c4 : a = g4
      · rw [if_pos c4]
        exact ⟨fun c => absurd c (by decide), fun c => absurd c (by decide), fun c => absurd c (by decide), fun _ => c4, fun c => absurd c (by decide)⟩
      rw [if_neg c4]
      by_cases c5 : a = g5
      · rw [if_pos c5]
        exact ⟨fun c => absurd c (by decide), fun c => absurd c (by decide), fun c => absurd c (by decide), fun c => absurd c (by decide), fun _ => c5⟩
      rw [if_neg c5]
      exact ⟨fun c => absurd c (by decide), fun c => absurd c (by decide), fun c => absurd c (by decide), fun c => absurd c (by decide), fun c => absurd c (by decide)⟩
    have hR : RN own Sr nn g0 g1 g3 g4 g5 gn := ⟨t1, v0, v1, v3, v4, v5, i0, i1, i3, i4, i5, t4, t5, by rw [o0], by rw [o1], by rw [o3], by rw [o4], by rw [o5]⟩
    have hno : ∀ p, p < nn → ¬ r_same Sr g0 g1 105 0 4 p := fun p hp hs => hex ⟨p, hp, hs⟩
    obtain ⟨S', own', h0, h1', h3, h4, h5, gn', hA, hR', hF', hown, hkept, hmu, hlen, hg, hft⟩ := nameOf_new (d := d + 5) (ab := 105) (NB := 4) (fr := 0) (n := 4) hR (by omega) (mk_105 _) (by omega) (by decide) (by omega) (by omega) (by omega) (fun i hi => by rw [(hb i hi).2]; exact fit_small (hb i hi).1) hfit (fun S' _ _ => mk_105 S') hno
    obtain ⟨w1, w2, w3, w4, w5, w6, w7, w8, w9, w10, w11, w12, w13, u0, u1, u3, u4, u5⟩ := hR'
    have hnm : nmF g0 g1 g3 g4 g5 Sr S' := by
      obtain ⟨f1, f2, f3, f4, f5, f6, f7⟩ := hF'
      refine ⟨f1, f2, f3, f4, f5, fun a ha c0 c1 c3 => f6 a ha (fun c => ?_), fun a ha c4 c5 => f7 a ha (fun c => ?_)⟩
      · obtain ⟨b0, b1, b3, _⟩ := back a
        simp only [List.mem_cons, List.not_mem_nil, or_false] at c
        rcases c with c | c | c
        · exact c0 (b0 c)
        · exact c1 (b1 c)
        · exact c3 (b3 c)
      · obtain ⟨_, _, _, b4, b5⟩ := back a
        simp only [List.mem_cons, List.not_mem_nil, or_false] at c
        rcases c with c | c
        · exact c4 (b4 c)
        · exact c5 (b5 c)
    have e17 : sL S' 17 = sL Sr 17 ∧ sL S' 18 = sL Sr 18 := by
      have ng : ∀ {g : Nat}, nG g → 17 ≠ g ∧ 18 ≠ g := fun h => by unfold nG at h; omega
      obtain ⟨_, _, _, _, _, _, f7⟩ := hnm
      exact ⟨f7 17 (by omega) (ng n4).1 (ng n5).1, f7 18 (by omega) (ng n4).2 (ng n5).2⟩
    have hK : nmK Sr S' g0 g1 nn h0 h1' (nn + 1) := ⟨by omega, fun r hr => by
      have := rn_eq (S' := S') (h0 := h0) (h1 := h1') (hNM.1 r hr) (hkept.2.2.1 r hr) (fun i hi => hkept.1 r i hr hi)
      exact ⟨this.1, this.2.1⟩, e17.1, e17.2⟩
    have hNM' : NMv β S' (sL Sc 21) (sL Sc 22) z (nn + 1) h0 h1' h3 h4 h5 := NM_R (S := Sr) (ab := 105) (fr := 0) (n := 4) hNM hkept (by omega) (by omega) (fun i hi => ⟨_, (hb i hi).1, (hb i hi).2⟩) hno (fun q => ⟨by rw [e17.1], by rw [e17.2]⟩)
    have e105 : sA S' 105 = sA Sr 105 := by
      have ng : ∀ {g : Nat}, nG g → 105 ≠ g := fun h => by unfold nG at h; omega
      exact hnm.2.2.2.2.2.1 105 (by omega) (ng n0) (ng n1) (ng n3)
    have hsame : r_same S' h0 h1' 105 0 4 nn := ⟨hkept.2.2.2.1, fun i hi => by rw [hkept.2.1 i hi, e105]⟩
    obtain ⟨eH, eL⟩ := (same_enc (ab := 105) (fr := 0) (n := 4) (f := iniB) (hNM'.1 nn (by omega)) (by omega) (fun i hi => ⟨(hb i hi).1, by rw [e105]; exact (hb i hi).2⟩)).mp hsame
    have hroom' : gn < 2 ^ 15 := by
      rcases hroom with c | ⟨r, r1, r2, r3⟩
      · exact c
      · exact absurd ((enc r r1).mpr ⟨r2, r3⟩) (hno r r1)
    have near : ∀ {h g tg : Nat}, (own' h).1 = tg → ((own h).1 = tg → h = g) → h = g ∨ 108 + (sS Sr).length ≤ h := fun {h g tg} e1 e2 => by
      by_cases c : h < 108 + (sS Sr).length
      · rw [hown h c] at e1
        exact Or.inl (e2 e1)
      · exact Or.inr (by omega)
    have hne : ∀ {a b t t' : Nat}, (own' a).1 = t → (own' b).1 = t' → t ≠ t' → a ≠ b := fun e1 e2 hn c => hn (by rw [← e1, ← e2, c])
    have hXn := XR_nx hX0 hnm hK hNM' hft ⟨w1, ⟨w2, w3, w4, w5, w6⟩, ⟨w7, w8, w9, w10, w11⟩, w12, w13, by omega⟩ ⟨hne u0 u1 (by decide), hne u0 u3 (by decide), hne u1 u3 (by decide), hne u4 u5 (by decide)⟩ ⟨near u0 (back h0).1, near u1 (back h1').2.1, near u3 (back h3).2.2.1, near u4 (back h4).2.2.2.1, near u5 (back h5).2.2.2.2⟩ hmu hlen
    have ng87 : ∀ {g : Nat}, nG g → g ≠ 87 := fun h => nG_ne h (by omega)
    exact ⟨_, nn + 1, h0, h1', h3, h4, h5, gn', S', nn, hA, hXn, ⟨by omega, eH, eL⟩, hnm, hK, nmF_th hnm a1.wf ⟨q0, q1, q3, q4, q5⟩ ⟨ng87 n0, ng87 n1, ng87 n3⟩⟩
end
