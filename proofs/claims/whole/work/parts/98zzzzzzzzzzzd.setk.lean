/-! THE CLASS'S HEAP: a value is put where another goes that is held elsewhere -/
theorem release4s {d k : Nat} {S : cS} {e5 e6 : Nat → Nat} (hk : k ≤ 1500) (hs : k = 0 ∨ 0 < heldBy S k + e5 k + e6 k) (h : Hp (dl k) e5 e6 S) : ∃ S', Ans (d + 3) 142 [.ref 2, .ref 4, .int (nI k)] S none S' ∧ Hp no_e e5 e6 S' ∧ Kill [] S S' ∧ ∀ q, heldBy S' q = heldBy S q := by
  by_cases h0 : k = 0
  · subst h0
    refine ⟨S, rel_04, Hp_re h (Fr.refl _ _ _) (fun t h1 h2 => ?_), Kill_nil, fun _ => rfl⟩
    have := h.2.2.2.2.2 t h1 h2
    simp only [dl_0, no_e, Nat.add_zero] at this ⊢
    exact this
  · have hs := hs.resolve_left h0
    have hH := h
    obtain ⟨hok, hsp, _, _, _, hex⟩ := h
    have hb := heldBy_le hok (by obtain ⟨_, _, _, _, _, _, _, _, _, _, q⟩ := hsp; exact q)
    obtain ⟨b4, b5, b6, c4, c5, c6⟩ := hex k (by omega) hk
    simp only [dl_e (show 1 ≤ k by omega), no_e, Nat.add_zero] at b4 b5 b6 c4 c5 c6
    have hbk := hb k
    have hSd : ∀ t, 1 ≤ t → t ≤ 1500 → sA (wA 4 k (nI (heldBy S k)) S) 4 t = nI (heldBy S t + no_e t) ∧ sA (wA 4 k (nI (heldBy S k)) S) 5 t = nI (e5 t) ∧ sA (wA 4 k (nI (heldBy S k)) S) 6 t = nI (e6 t) ∧ no_e t < 2 ^ 20 ∧ e5 t < 2 ^ 20 ∧ e6 t < 2 ^ 20 := by
      intro t h1 h2
      have q := hex t h1 h2
      simp only [rA, Nat.reduceEqDiff, reduceIte, no_e, Nat.add_zero] at q ⊢
      rw [upd_at]
      by_cases e : t = k
      · subst e
        rw [if_pos rfl]
        simp only [dl_e h1] at q
        exact ⟨rfl, q.2.1, q.2.2.1, by omega, q.2.2.2.2.1, q.2.2.2.2.2⟩
      · rw [if_neg e]
        simp only [dl_n e, Nat.add_zero] at q
        exact ⟨q.1, q.2.1, q.2.2.1, by omega, q.2.2.2.2.1, q.2.2.2.2.2⟩
    have hFd : Fr [216] [4, 5, 6, 14] S (wA 4 k (nI (heldBy S k)) S) := Fr_wA (by decide) (Fr.refl _ _ _)
    exact ⟨_, Ans.up (Nat.le_succ _) (rel_stay4 (d := d) (h := heldBy S k) (m := e5 k) (p := e6 k) (by omega) hk b4 b5 b6 (by omega) hs), Hp_re hH hFd hSd, Kill_fr hFd, fun q => heldBy_congr (S := S) (by rw [hFd.A (by decide)]) (by rw [hFd.A (by decide)]) (by rw [hFd.A (by decide)]) (by rw [hFd.A (by decide)]) (by rw [hFd.2.2.2.1]) hFd.2.1 q⟩
section
variable {d t k kd z z' o oo w e a N : Nat} {S X : cS} {g : Nat → Nat} {hi lo : Int64}
theorem chg_Ts {x0 : Nat} (hst : oo = 0 ∨ 0 < stE t S oo) (h : mHS x0 g t S) (hR : rwL S) (hk : lv S k) (hq : sQ S 11 k = some a) (ha : 108 ≤ a) (hFX : FrL [] [4, 10] [a] S X) (h4 : ∀ q, sA X 4 q = sA S 4 q + nI (dl o q)) (h10 : ∀ j, j ≠ k → sA X 10 j = sA S 10 j) (hokX : h_ok X k) (hcnt : ∀ q, 1 ≤ q → (tgs X k).count q + dl oo q = (tgs S k).count q + dl o q) (hoo : oo = 0 ∨ lv S oo) (hmem : ∀ q, q ∈ tgs X k → q = 0 ∨ lv S q) : ∃ W, Ans (d + 3) 142 [.ref 2, .ref 4, .int (nI oo)] X none W ∧ mHS x0 g t W ∧ rwL W ∧ CFm S W ∧ KX [] X W ∧ sL W = sL X ∧ (∀ j, 1 ≤ j → j ≤ 1500 → j ≠ k → obE S X j) ∧ h_cl X ∧ (∀ j, 1 ≤ j → j ≤ 1500 → h_ok X j) ∧ (∀ q, lv X q ↔ lv S q) := by
  have e3 : sA X 3 = sA S 3 := hFX.A (by decide)
  have hQ : sQ X = sQ S := hFX.2.2.2.1
  have hlv : ∀ q, lv X q ↔ lv S q := fun q => by unfold lv; rw [e3]
  have hrw : ∀ j, h_row X j = h_row S j := fun j => by unfold h_row; rw [hQ]
  have hne : ∀ j, 1 ≤ j → j ≤ 1500 → j ≠ k → h_row S j ≠ a := fun j j1 j2 hj c => by
    unfold h_row at c
    cases hq0 : sQ S 11 j with
    | none => rw [hq0] at c; have : (0 : Nat) = a := c; omega
    | some b =>
      rw [hq0] at c
      have c' : b = a := c
      subst c'
      exact hj (h.1.2.2.2.2.1 j k b j2 hk.2.1 hq0 hq)
  have hob : ∀ j, 1 ≤ j → j ≤ 1500 → j ≠ k → obE S X j := fun j j1 j2 hj => obE_of (by rw [e3]) (by rw [hFX.A (by decide)]) (by rw [hFX.A (by decide)]) (by rw [hFX.A (by decide)]) (h10 j hj) (hrw j) (hFX.2.1 _ (by simpa using hne j j1 j2 hj))
  have hL : ∀ b, b < 108 → sL X b = sL S b := fun b hb => hFX.2.1 b (by simpa using (show b ≠ a by omega))
  have eS : ∀ T : cS, sL T = sL X → stE t T = stE t S := fun T hT => stE_L (fun i _ => by rw [hT, hL 47 (by omega), hL 48 (by omega)]; exact ⟨rfl, rfl⟩)
  have eN : ∀ T : cS, sL T = sL X → nmE T = nmE S ∧ nmB T = nmB S := fun T hT => by
    constructor
    · funext q
      unfold nmE
      rw [hT, hL 21 (by omega), hL 22 (by omega)]
    · unfold nmB
      rw [hT, hL 21 (by omega)]
  have hh : ∀ q, 1 ≤ q → heldBy X q + dl oo q = heldBy S q + dl o q := fun q hq1 => by
    have := held_ch (q := q) hk.1 hk.2.1 (Hp_0 h.1) hk.2.2 e3 hob
    have := hcnt q hq1
    omega
  have hok : ∀ j, 1 ≤ j → j ≤ 1500 → h_ok X j := fun j j1 j2 => by
    by_cases hj : j = k
    · rw [hj]; exact hokX
    · obtain ⟨kd', z', x', y', b1, b2, b3, b4, b5, b6, b7, b8, b9, b10, b11⟩ := h.1.1 j j1 j2
      refine ⟨kd', z', x', y', b1, by rw [e3]; exact b2, by rw [h10 j hj]; exact b3, by rw [hFX.A (by decide)]; exact b4, by rw [hFX.A (by decide)]; exact b5, b6, b7, b8, b9, by rw [hQ]; exact b10, ?_⟩
      rw [hQ, hFX.2.2.2.2.1]
      intro b hb
      have hba : b ≠ a := fun e => hne j j1 j2 hj (by unfold h_row; rw [hb]; exact e)
      rw [hFX.2.1 b (by simpa using hba)]
      exact b11 b hb
  have hdl : ∀ p q, dl p q ≤ 1 := fun p q => by unfold dl; split <;> omega
  have hP : Hp (dl oo) (nmE S) (fun k => stE t S k + g k) X := Hp_ch (k := k) h.1 e3 hob (fun i _ => hFX.I List.not_mem_nil) (hFX.A (by decide)) (hFX.A (by decide)) hok (by unfold h_ds; rw [hQ]; exact h.1.2.2.2.2.1) (fun _ => hmem) (fun q q1 q2 => by
    obtain ⟨p4, p5, p6, p7, p8, p9⟩ := h.1.2.2.2.2.2 q q1 q2
    refine ⟨?_, by rw [hFX.A (by decide)]; exact p5, by rw [hFX.A (by decide)]; exact p6, by have := hdl oo q; omega, p8, p9⟩
    have := hh q q1
    rw [h4 q, p4, nI_add]
    exact congrArg nI (by unfold no_e; omega))
  have hoo2 : oo ≤ 1500 := by rcases hoo with e | e; omega; exact e.2.1
  obtain ⟨W, hA, c1, c3, c2⟩ := release4s (d := d) (k := oo) (S := X) (e5 := nmE S) (e6 := fun k => stE t S k + g k) hoo2 (hst.imp id (fun c => by show 0 < heldBy X oo + nmE S oo + (stE t S oo + g oo); omega)) hP
  have eL : sL W = sL X := c3.1.2.1
  have hK : KX [] X W := KX_Kill (FrL.refl _ _ _ _) hok c3
  have hlvW := lv_KX hK
  have hCX : CFm S X := by
    have e1 : rwC X = rwC S := sumN_congr (fun k _ => by rw [rlen_S hQ hFX.2.2.2.2.1])
    have e2 : rwN X = rwN S := sumN_congr (fun k _ => by rw [rlen_S hQ hFX.2.2.2.2.1])
    exact ⟨hFX.1, hFX.2.2.1, fun i _ => hFX.I List.not_mem_nil, fun b hb => hFX.A (fun c => hb (by
      rcases List.mem_cons.mp c with e | c
      · rw [e]; decide
      · rw [List.mem_singleton.mp c]; decide)), fun b hb _ => hL b hb, fun b _ _ hb => hFX.2.1 b (by simpa using (fun e : b = a => hb k hk.2.1 (by rw [e]; exact hq))), fun b _ => by rw [hQ], ⟨[], by rw [hFX.2.2.2.2.1, List.append_nil]⟩, fun j b _ hb => Or.inl (by rw [← hQ]; exact hb), by rw [hFX.2.2.2.2.2.1, e1]; omega, by rw [hFX.2.2.2.2.1, e2]; omega⟩
  have hRX : rwL X := fun j b hj hb => by
    rw [hQ] at hb
    rw [hFX.2.2.2.2.1]
    exact hR j b hj hb
  refine ⟨W, hA, ⟨by rw [(eN W eL).1, eS W eL]; exact c1, fun q hq hqx => ?_, ?_, h.2.2.2.1, fun i hi => ?_, fun i hi => ?_, fun q hq => ?_, ?_, h.2.2.2.2.2.2.2.2⟩, rwL_FrL hK.1 hRX, hCX.trans (CFm_KX hK), hK, eL, hob, hP.2.2.2.1, hok, hlv⟩
  · have hqS : lv S q := (hlv q).mp ((hlvW q).mp hq).1
    have h1 := h.2.1 q hqS hqx
    have h2 := hh q hq.1
    have h3 := c2 q
    have h4 := hdl oo q
    rw [(eN W eL).1, eS W eL]
    by_cases e : q = oo
    · rcases hst with e0 | e0
      · have := hq.1; omega
      · rw [e]; omega
    · have : dl oo q = 0 := dl_n e
      omega
  · have h1 : sI W 4603 = sI X 4603 := c3.1.I (by decide)
    rw [h1, hFX.I List.not_mem_nil]
    exact h.2.2.1
  · obtain ⟨q, q1, q2, q3⟩ := h.2.2.2.2.1 i hi
    refine ⟨q, q1, by rw [eL, hL 47 (by omega), hL 48 (by omega)]; exact q2, q3.imp id (fun c => (hlvW q).mpr ⟨(hlv q).mpr c, fun hm => by cases hm⟩)⟩
  · obtain ⟨q, q1, q2, q3⟩ := h.2.2.2.2.2.1 i hi
    refine ⟨q, q1, by rw [eL, hL 21 (by omega), hL 22 (by omega)]; exact q2, q3.imp id (fun c => (hlvW q).mpr ⟨(hlv q).mpr c, fun hm => by cases hm⟩)⟩
  · refine (hlvW q).mpr ⟨(hlv q).mpr (h.2.2.2.2.2.2.1 q hq), fun hm => by cases hm⟩
  · have h1 : sI W 1608 = sI X 1608 := c3.1.I (by decide)
    rw [h1, hFX.I List.not_mem_nil, (eN W eL).2]
    exact h.2.2.2.2.2.2.2.1
end
/-- object k alone goes from S to X, nothing goes; object x0 is not yet held -/
def chXk (x0 k : Nat) (g : Nat → Nat) (t : Nat) (S X W : cS) : Prop := mHS x0 g t W ∧ rwL W ∧ CFm S W ∧ KX [] X W ∧ sL W = sL X ∧ (∀ j, 1 ≤ j → j ≤ 1500 → j ≠ k → obE S X j) ∧ h_cl X ∧ (∀ j, 1 ≤ j → j ≤ 1500 → h_ok X j) ∧ (∀ q, lv X q ↔ lv S q) ∧ (∀ a, a < 108 → sL X a = sL S a) ∧ sA X 3 = sA S 3 ∧ sA X 7 = sA S 7 ∧ sA X 8 = sA S 8 ∧ sA X 9 = sA S 9 ∧ h_row X k = h_row S k
section
variable {d t x k kd z o w e : Nat} {S : cS} {g : Nat → Nat} {hi lo : Int64}
theorem mset_Ts {x0 : Nat} (h : mHS x0 g t S) (hst : ∀ o', c_obj (h_hi S k e) (h_lo S k e) = nI o' → o' ≤ 1500 → o' = 0 ∨ 0 < stE t S o') (hR : rwL S) (hk : lv S k) (hkd : sA S 3 k = nI kd) (h7 : kd ≤ 7) (hw : c_width kd = w) (hz : sA S 10 k = nI z) (hz2 : z ≤ 300) (he : e < z) (ho : c_obj hi lo = nI o) (hol : o = 0 ∨ lv S o) : ∃ X W, Ans (d + 6) 174 [.ref 2, .int (nI k), .int (nI e), .long hi, .long lo] S none W ∧ chXk x0 k g t S X W ∧ sA X 10 k = nI z ∧ (∀ i, i < w * z → i ≠ h_at w e → i ≠ h_at w e + 1 → sL X (h_row S k) i = sL S (h_row S k) i) ∧ sL X (h_row S k) (h_at w e) = hi ∧ sL X (h_row S k) (h_at w e + 1) = lo := by
  subst hw
  obtain ⟨a, N, q1, q2, q3, q4, q5, q6, q7, q8, q9⟩ := row_of h hR hk hkd h7 hz hz2 he
  have ho2 : o ≤ 1500 := by rcases hol with c | c; omega; exact c.2.1
  obtain ⟨oo, oo1, oo2, oo3⟩ := q9 e he
  have hkdS : h_kd S k = kd := by unfold h_kd; rw [hkd, gN_nI (by omega)]
  obtain ⟨p1, p2⟩ := h_at_lt q7 he
  have hoo : oo = 0 ∨ 0 < stE t S oo := hst oo (by
    unfold h_hi h_lo
    rw [q6, hkdS]
    exact oo2) oo1
  have main : ∀ X : cS, FrL [] [4, 10] [a] S X → (∀ q, sA X 4 q = sA S 4 q + nI (dl o q)) → sA X 10 = sA S 10 → (∀ i, i ≠ h_at (c_width kd) e → i ≠ h_at (c_width kd) e + 1 → sL X a i = sL S a i) → sL X a (h_at (c_width kd) e) = hi → sL X a (h_at (c_width kd) e + 1) = lo → ∃ W, Ans (d + 3) 142 [.ref 2, .ref 4, .int (nI oo)] X none W ∧ chXk x0 k g t S X W := by
    intro X hFX h4 h10 hold hh hl
    have e3 : sA X 3 = sA S 3 := hFX.A (by decide)
    have hrX : h_row X k = a := by unfold h_row; rw [hFX.2.2.2.1, q1]; rfl
    have hkdX : h_kd X k = kd := by unfold h_kd; rw [e3]; exact hkdS
    have hnS : h_n S k = z := by unfold h_n h_z; rw [hkdS, if_neg (by omega), hz, gN_nI (by omega)]
    have hnX : h_n X k = z := by unfold h_n h_z; rw [hkdX, if_neg (by omega), h10, hz, gN_nI (by omega)]
    have hat : ∀ j, j < z → j ≠ e → h_at (c_width kd) j ≠ h_at (c_width kd) e ∧ h_at (c_width kd) j ≠ h_at (c_width kd) e + 1 ∧ h_at (c_width kd) j + 1 ≠ h_at (c_width kd) e ∧ h_at (c_width kd) j + 1 ≠ h_at (c_width kd) e + 1 := fun j _ hj => by
      unfold h_at
      rcases q7 with c | c <;> rw [c] <;> omega
    have hent : ∀ j, j < z → j ≠ e → h_ent X k j = h_ent S k j := fun j hj hje => by
      obtain ⟨b1, b2, b3, b4⟩ := hat j hj hje
      unfold h_ent h_hi h_lo
      rw [hrX, q6, hkdX, hkdS, hold _ b1 b2, hold _ b3 b4]
    have heX : h_ent X k e = o := by
      unfold h_ent h_hi h_lo
      rw [hrX, hkdX, hh, hl]
      exact ob_n ho ho2
    have heS : h_ent S k e = oo := by
      unfold h_ent h_hi h_lo
      rw [q6, hkdS]
      exact ob_n oo2 oo1
    have hcnt : ∀ q, 1 ≤ q → (tgs X k).count q + dl oo q = (tgs S k).count q + dl o q := fun q hq => by
      have := seq_set (f := h_ent S k) (g := h_ent X k) (q := q) he hent
      rw [heX, heS, if_dl hq, if_dl hq] at this
      unfold tgs
      rw [hnX, hnS, hFX.A (a := 7) (by decide), hFX.A (a := 8) (by decide), count_cons', count_cons', count_cons', count_cons']
      omega
    have hokX : h_ok X k := by
      obtain ⟨kd', z', x', y', b1, b2, b3, b4, b5, b6, b7, b8, b9, b10, b11⟩ := h.1.1 k hk.1 hk.2.1
      have ek : kd' = kd := by
        have := congrArg gN (b2.symm.trans hkd)
        rw [gN_nI (by omega), gN_nI (by omega)] at this
        exact this
      have ez : z' = z := by
        have := congrArg gN (b3.symm.trans hz)
        rw [gN_nI (by have := c_most_le kd'; omega), gN_nI (by omega)] at this
        exact this
      subst ek
      subst ez
      refine ⟨kd', z', x', y', b1, by rw [e3]; exact b2, by rw [h10]; exact b3, by rw [hFX.A (by decide)]; exact b4, by rw [hFX.A (by decide)]; exact b5, b6, b7, b8, b9, by rw [hFX.2.2.2.1]; exact b10, ?_⟩
      rw [hFX.2.2.2.1, hFX.2.2.2.2.1]
      intro b hb
      rw [q1] at hb
      injection hb with hb
      subst hb
      refine ⟨N, q2, q3, q5, q4, fun j hj => ?_⟩
      by_cases hje : j = e
      · subst hje
        rw [hh, hl]
        exact ⟨o, ho2, ho⟩
      · obtain ⟨c1, c2, c3, c4⟩ := hat j hj hje
        rw [hold _ c1 c2, hold _ c3 c4]
        obtain ⟨q, m1, m2, _⟩ := q9 j hj
        exact ⟨q, m1, m2⟩
    have hmem : ∀ q, q ∈ tgs X k → q = 0 ∨ lv S q := fun q hq => by
      unfold tgs at hq
      rw [hnX, hFX.A (a := 7) (by decide), hFX.A (a := 8) (by decide)] at hq
      have hcl := mHS_cl h k hk.1 hk.2.1 hk.2.2
      rcases List.mem_cons.mp hq with c | hq
      · rw [c]; exact hcl _ (by unfold tgs; exact List.mem_cons_self)
      rcases List.mem_cons.mp hq with c | hq
      · rw [c]; exact hcl _ (by unfold tgs; exact List.mem_cons_of_mem _ List.mem_cons_self)
      obtain ⟨j, _, j2, c⟩ := seqN_mem hq
      by_cases hje : j = e
      · rw [c, hje, heX]
        exact hol
      · rw [c, hent j (by omega) hje]
        exact hcl _ (by
          unfold tgs
          rw [hnS]
          exact List.mem_cons_of_mem _ (List.mem_cons_of_mem _ (seqN_in (Nat.zero_le _) (by omega))))
    obtain ⟨W, r1, r2, r3, r4, r5, r6, r7, r8, r9, r11⟩ := chg_Ts (d := d) hoo h hR hk q1 q2 hFX h4 (fun j _ => by rw [h10]) hokX hcnt oo3 hmem
    exact ⟨W, r1, r2, r3, r4, r5, r6, r7, r8, r9, r11, fun b hb => hFX.2.1 b (by simpa using (show b ≠ a by omega)), e3, hFX.A (by decide), hFX.A (by decide), hFX.A (by decide), by rw [hrX, q6]⟩
  have hl : c_width kd * e + c_width kd ≤ N := by
    have : c_width kd * (e + 1) ≤ c_width kd * z := Nat.mul_le_mul_left _ he
    rw [Nat.mul_succ] at this
    omega
  have hFX : ∀ i j : Nat, FrL [] [4, 10] [a] S (wL a i lo (wL a j hi (c_hold 4 o S))) := fun i j => FrL_wL List.mem_cons_self (FrL_wL List.mem_cons_self ((hold4_F o S).mono (by decide) (by decide) (by intro b hb; cases hb)))
  rcases q7 with c | c
  · rw [c] at main oo2 hl ⊢
    obtain ⟨W, r1, r2⟩ := main (wL a (2 * e + 1) lo (wL a (2 * e) hi (c_hold 4 o S))) (hFX _ _) (fun q => by rw [← hold4_at]; rfl) (by rw [show sA (wL a (2 * e + 1) lo (wL a (2 * e) hi (c_hold 4 o S))) 10 = sA (c_hold 4 o S) 10 from rfl, (hold4_F o S).A (by decide)]) (fun i h1 h2 => by rw [h_at2] at h1 h2; rw [wL_at, if_neg (by omega), wL_at, if_neg (by omega), rL_hold]) (by rw [h_at2, wL_at, if_neg (by omega), wL_at, if_pos rfl]) (by rw [h_at2, wL_at, if_pos rfl])
    rw [h_at2] at oo2 ⊢
    refine ⟨_, W, set_2 hk.1 hk.2.1 hkd h7 hz q1 q2 q3 (by omega) c he (by omega) hl ho ho2 oo2 (Ans.up (by omega) r1), r2, by rw [show sA (wL a (2 * e + 1) lo (wL a (2 * e) hi (c_hold 4 o S))) 10 = sA (c_hold 4 o S) 10 from rfl, (hold4_F o S).A (by decide)]; exact hz, fun i _ h1 h2 => by rw [q6, wL_at, if_neg (by omega), wL_at, if_neg (by omega), rL_hold], by rw [q6, wL_at, if_neg (by omega), wL_at, if_pos rfl], by rw [q6, wL_at, if_pos rfl]⟩
  · rw [c] at main oo2 hl ⊢
    obtain ⟨W, r1, r2⟩ := main (wL a (4 * e + 3) lo (wL a (4 * e + 2) hi (c_hold 4 o S))) (hFX _ _) (fun q => by rw [← hold4_at]; rfl) (by rw [show sA (wL a (4 * e + 3) lo (wL a (4 * e + 2) hi (c_hold 4 o S))) 10 = sA (c_hold 4 o S) 10 from rfl, (hold4_F o S).A (by decide)]) (fun i h1 h2 => by rw [h_at4] at h1 h2; rw [wL_at, if_neg (by omega), wL_at, if_neg (by omega), rL_hold]) (by rw [h_at4, wL_at, if_neg (by omega), wL_at, if_pos rfl]) (by rw [h_at4, show 4 * e + 2 + 1 = 4 * e + 3 by omega, wL_at, if_pos rfl])
    rw [h_at4] at oo2 ⊢
    refine ⟨_, W, set_4 hk.1 hk.2.1 hkd h7 hz q1 q2 q3 (by omega) c he (by omega) hl ho ho2 oo2 (Ans.up (by omega) r1), r2, by rw [show sA (wL a (4 * e + 3) lo (wL a (4 * e + 2) hi (c_hold 4 o S))) 10 = sA (c_hold 4 o S) 10 from rfl, (hold4_F o S).A (by decide)]; exact hz, fun i _ h1 h2 => by rw [q6, wL_at, if_neg (by omega), wL_at, if_neg (by omega), rL_hold], by rw [q6, wL_at, if_neg (by omega), wL_at, if_pos rfl], by rw [q6, show 4 * e + 2 + 1 = 4 * e + 3 by omega, wL_at, if_pos rfl]⟩
end
