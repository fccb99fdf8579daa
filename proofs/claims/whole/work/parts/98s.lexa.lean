/-! ALL LINES: the reference's arrays hold the row -/
theorem tl_fuel {β : Nat → Nat} {n : Nat} : ∀ (f g p l : Nat), n + 1 ≤ p + f → n + 1 ≤ p + g → tl β n f p l = tl β n g p l := by
  have out : ∀ (g p l : Nat), n + 1 ≤ p → tl β n g p l = none := fun g p l h => by
    cases g with
    | zero => rfl
    | succ g =>
      have h0 : t_skip β n (n - p) p = p := by rw [show n - p = 0 by omega]; rfl
      unfold tl
      rw [h0, if_pos (by omega)]
  intro f
  induction f with
  | zero => intro g p l h1 h2; rw [out 0 p l (by omega), out g p l (by omega)]
  | succ f ih =>
    intro g p l h1 h2
    cases g with
    | zero => rw [out 0 p l (by omega), out (f + 1) p l (by omega)]
    | succ g =>
      by_cases hp : p ≤ n
      · obtain ⟨s1, s2, s3, s4⟩ := skip_at (β := β) hp
        obtain ⟨e1, e2, e3, e4⟩ := tk_eol_ok (β := β) s2
        unfold tl
        rw [ih g (tk_eol β n (t_skip β n (n - p) p) + 1) (l + 1) (by omega) (by omega)]
      · rw [out (f + 1) p l (by omega), out (g + 1) p l (by omega)]
theorem ln_none {β : Nat → Nat} {n p l la : Nat} (h : n ≤ t_skip β n (n - p) p) : tq_ln β n p l la = (1, n, n, la, 0) := by
  have e : tl β n (n + 1) p l = none := by
    unfold tl
    rw [if_pos h]
  unfold tq_ln
  rw [e]
theorem ln_skip {β : Nat → Nat} {n p l la e : Nat} (hp : p ≤ n) (h : t_skip β n (n - p) p < n) (h2 : β (t_skip β n (n - p) p) = 10 ∨ β (t_skip β n (n - p) p) = 35) (he : tk_eol β n (t_skip β n (n - p) p) = e) : tq_ln β n p l la = if e < n then tq_ln β n (e + 1) (l + 1) la else (1, n, n, la, 0) := by
  obtain ⟨s1, s2, s3, s4⟩ := skip_at (β := β) hp
  obtain ⟨e1, e2, e3, e4⟩ := tk_eol_ok (β := β) s2
  have e : tl β n (n + 1) p l = if e < n then tl β n (n + 1) (e + 1) (l + 1) else none := by
    unfold tl
    rw [if_neg (by omega), if_pos h2, he]
    split
    · exact tl_fuel n (n + 1) (e + 1) (l + 1) (by omega) (by omega)
    · rfl
  unfold tq_ln
  rw [e]
  split
  · rename_i h3
    split at h3
    · rename_i h4
      rw [if_pos h4, h3]
    · rename_i h4
      rw [if_neg h4]
  · rename_i q l2 i h3
    split at h3
    · rename_i h4
      rw [if_pos h4, h3]
    · cases h3
theorem ln_tok {β : Nat → Nat} {n p l la : Nat} (h : t_skip β n (n - p) p < n) (h2 : ¬ (β (t_skip β n (n - p) p) = 10 ∨ β (t_skip β n (n - p) p) = 35)) : tq_ln β n p l la = ((tk β n (t_skip β n (n - p) p)).1, t_skip β n (n - p) p, (tk β n (t_skip β n (n - p) p)).2, l, t_skip β n (n - p) p - p) := by
  have e : tl β n (n + 1) p l = some (t_skip β n (n - p) p, l, t_skip β n (n - p) p - p) := by
    unfold tl
    rw [if_neg (by omega), if_neg h2]
  unfold tq_ln
  rw [e]
def L5 (lv : sm_L) (n p l : Nat) : Prop := sm_get lv 0 = some (.ref 61) ∧ sm_get lv 1 = some (.ref 107) ∧ sm_get lv 2 = some (.int (nI n)) ∧ sm_get lv 3 = some (.int (nI p)) ∧ sm_get lv 4 = some (.int (nI l))
section
variable {A : Nat → Int32} {n z gn0 N : Nat} {bj : Nat → Nat} {V W : Nat → Int64} {own0 : Nat → Nat × Nat} {S0 S : cS} {N0 p l d e s k : Nat}
theorem lb_run {v : Option Value} {Sf : cS} (hn : n ≤ 3000) (hl : l ≤ 4000) (hT : ∀ i, i < n → sA S 107 i = A i) (hfA : ∀ i, i < n → fits .byte (.int (A i)) = true) (hpe : p ≤ e) (hen : e ≤ n) (hno : ∀ i, p ≤ i → i < e → by1 A i ≠ 10) (he10 : e = n ∨ by1 A e = 10) (hB : ∀ lv1, L5 lv1 n p l → sm_get lv1 5 = some (.int (nI e)) → Bod (d + 9) 287 44 lv1 [] S v Sf) : ∀ (r q : Nat) (lv : sm_L), q + r = e → p ≤ q → L5 lv n p l → sm_get lv 5 = some (.int (nI q)) → Bod (d + 9) 287 23 lv [] S v Sf := by
  intro r
  induction r with
  | zero =>
    intro q lv hq hpq ⟨h0, h1, h2, h3, h4⟩ h5
    obtain rfl : q = e := by omega
    by_cases hqn : q = n
    · exact lb_n hn (by omega) hl h0 h1 h2 h3 h4 h5 hqn (fun lv1 a0 a1 a2 a3 a4 a5 => hB lv1 ⟨a0, a1, a2, a3, a4⟩ a5)
    · have hlt : q < n := by omega
      exact lb_10 hn (by omega) hl h0 h1 h2 h3 h4 h5 hlt (by rw [hT q hlt]; exact by_eq (hfA q hlt) (he10.resolve_left hqn) (by decide)) (fun lv1 a0 a1 a2 a3 a4 a5 => hB lv1 ⟨a0, a1, a2, a3, a4⟩ a5)
  | succ r ih =>
    intro q lv hq hpq ⟨h0, h1, h2, h3, h4⟩ h5
    have hlt : q < n := by omega
    exact lb_in hn (by omega) hl h0 h1 h2 h3 h4 h5 hlt (by rw [hT q hlt]; exact by_ne (hno q hpq (by omega)) (by decide)) (fun lv1 a0 a1 a2 a3 a4 a5 => ih (q + 1) lv1 (by omega) (by omega) ⟨a0, a1, a2, a3, a4⟩ a5)
theorem ld_run {v : Option Value} {Sf : cS} (hn : n ≤ 3000) (hl : l ≤ 4000) (hT : ∀ i, i < n → sA S 107 i = A i) (hfA : ∀ i, i < n → fits .byte (.int (A i)) = true) (hpe : p ≤ e) (hen : e ≤ n) (hse : s ≤ e) (h32 : ∀ i, p ≤ i → i < s → by1 A i = 32) (hs32 : s = e ∨ by1 A s ≠ 32) (hB : ∀ lv1, L5 lv1 n p l → sm_get lv1 5 = some (.int (nI e)) → sm_get lv1 6 = some (.int (nI s)) → Bod (d + 9) 287 69 lv1 [] S v Sf) : ∀ (r b : Nat) (lv : sm_L), b + r = s → p ≤ b → L5 lv n p l → sm_get lv 5 = some (.int (nI e)) → sm_get lv 6 = some (.int (nI b)) → Bod (d + 9) 287 47 lv [] S v Sf := by
  intro r
  induction r with
  | zero =>
    intro b lv hb hpb ⟨h0, h1, h2, h3, h4⟩ h5 h6
    obtain rfl : b = s := by omega
    by_cases hbe : b = e
    · exact ld_e hn (by omega) hl h0 h1 h2 h3 h4 h5 h6 hen hbe (fun lv1 a0 a1 a2 a3 a4 a5 a6 => hB lv1 ⟨a0, a1, a2, a3, a4⟩ a5 a6)
    · have hlt : b < n := by omega
      exact ld_x hn (by omega) hl h0 h1 h2 h3 h4 h5 h6 hen (by omega) (by rw [hT b hlt]; exact by_ne (hs32.resolve_left hbe) (by decide)) (fun lv1 a0 a1 a2 a3 a4 a5 a6 => hB lv1 ⟨a0, a1, a2, a3, a4⟩ a5 a6)
  | succ r ih =>
    intro b lv hb hpb ⟨h0, h1, h2, h3, h4⟩ h5 h6
    have hlt : b < n := by omega
    exact ld_in hn (by omega) hl h0 h1 h2 h3 h4 h5 h6 hen (by omega) (by rw [hT b hlt]; exact by_eq (hfA b hlt) (h32 b hpb (by omega)) (by decide)) (fun lv1 a0 a1 a2 a3 a4 a5 a6 => ih (b + 1) lv1 (by omega) (by omega) ⟨a0, a1, a2, a3, a4⟩ a5 a6)
theorem rS_w13 {x : Int32} (h : rS A n bj V W z own0 S0 gn0 N k S) : rS A n bj V W z own0 S0 gn0 N k (wI 6113 x S) := by
  obtain ⟨own, nn, g0, g1, g3, g4, g5, gn, hR, hgn, hnn, hft, hNM, hO, ht, hall, hF, h107, hmu, hlen⟩ := h
  obtain ⟨q1, q2, q3, q4, q5, q6, k0, k1, k3, k4, k5, qn, o64, o0, o1, o3, o4, o5⟩ := id hR
  exact ⟨own, nn, g0, g1, g3, g4, g5, gn, ⟨(rIn _ _ (by decide)).trans q1, q2, q3, q4, q5, q6, isK_S rfl k0, isK_S rfl k1, isK_S rfl k3, isK_S rfl k4, isK_S rfl k5, qn, o64, o0, o1, o3, o4, o5⟩, hgn, hnn, hft, NMv_S hNM rfl rfl rfl rfl rfl rfl rfl, hO, (rIn _ _ (by decide)).trans ht, hall, ⟨hF.1, hF.2.1, fun i hi => by
    have hi2 : i ≠ 6113 := fun e => hi (by rw [e]; decide)
    exact (rIn _ _ hi2).trans (hF.2.2.1 i hi), hF.2.2.2⟩, h107, hmu, hlen⟩
/-- from the start of a line on -/
theorem lex_loop (hn : n ≤ 3000) (hfA : ∀ i, i < n → fits .byte (.int (A i)) = true) (hN0 : N0 ≤ 60000) (h86 : ∀ p t, p < 1500 → sQ S0 86 p = some t → 108 ≤ t) : ∀ (r p l la k : Nat) (S : cS), n + 1 - p < r → p ≤ n + 1 → l ≤ p + 1 → (p ≤ n ∧ tq (by1 A) n k = tq_ln (by1 A) n p l la ∨ n < p ∧ tq (by1 A) n k = (1, n, n, la, 0)) → sI S 6113 = nI la → (∀ j, j < k → qK (by1 A) n j ≠ 1) → rS A n bj V W z own0 S0 gn0 (N0 + k) k S → ∃ S1 k1, (∀ lv, L5 lv n p l → Bod (d + 9) 287 15 lv [] S none S1) ∧ (∀ j, j < k1 → qK (by1 A) n j ≠ 1) ∧ qK (by1 A) n k1 = 1 ∧ rS A n bj V W z own0 S0 gn0 (N0 + (k1 + 1)) (k1 + 1) S1 := by
  intro r
  induction r with
  | zero => intro p l la k S h; omega
  | succ r ih =>
    intro p l la k S hr hpn hlp htq hla hj hS
    obtain ⟨hT, ht⟩ := rS_T hS
    by_cases hin : n ≤ p
    · have hq1 : tq (by1 A) n k = (1, n, n, la, 0) := by
        rcases htq with ⟨h1, h2⟩ | ⟨h1, h2⟩
        · rw [h2]
          refine ln_none ?_
          rw [show n - p = 0 by omega]
          exact hin
        · exact h2
      have hK : qK (by1 A) n k = 1 := congrArg (fun t => t.1) hq1
      have hL : qL (by1 A) n k = la := congrArg (fun t => t.2.2.2.1) hq1
      have hk6 : k < 6002 := by
        have h1 := (q_idx hj).1
        have h2 := (q_lt (by1 A) n k).1
        omega
      exact ⟨_, k, fun lv ⟨h0, h1, h2, h3, h4⟩ => la_out hn hpn (by omega) h0 h1 h2 h3 h4 hin ht hk6 hla, hj, hK, rS_le (rS_tok (kd := 7) (vl := nI 0) (bl := nI 0) hS hk6 (by rw [hL]) (by rw [hK]; rfl) (Or.inl ⟨Or.inl hK, rfl⟩) (fun h => by omega) (fun h => by omega) (fun h => by omega) (fun h => by omega) (fun h => by omega)) (by omega)⟩
    · have hlt : p < n := by omega
      have htq1 : tq (by1 A) n k = tq_ln (by1 A) n p l la := by
        rcases htq with ⟨h1, h2⟩ | ⟨h1, h2⟩
        · exact h2
        · omega
      obtain ⟨s1, s2, s3, s4⟩ := skip_at (β := by1 A) (Nat.le_of_lt hlt)
      obtain ⟨e1, e2, e3, e4⟩ := tk_eol_ok (β := by1 A) (Nat.le_of_lt hlt)
      obtain ⟨s, hs⟩ : ∃ s, t_skip (by1 A) n (n - p) p = s := ⟨_, rfl⟩
      obtain ⟨e, he⟩ : ∃ e, tk_eol (by1 A) n p = e := ⟨_, rfl⟩
      rw [hs] at s1 s2 s3 s4
      rw [he] at e1 e2 e3 e4
      have hse : s ≤ e := by
        rcases Nat.lt_or_ge e s with h | h
        · exfalso
          rcases e4 with h1 | h1
          · omega
          · rw [s3 e e1 h] at h1
            exact absurd h1 (by decide)
        · exact h
      have hse32 : s = e ∨ by1 A s ≠ 32 := s4.imp (fun h => by omega) id
      have run : ∀ (v : Option Value) (Sf : cS), (∀ lv1, L5 lv1 n p l → sm_get lv1 5 = some (.int (nI e)) → sm_get lv1 6 = some (.int (nI s)) → Bod (d + 9) 287 69 lv1 [] S v Sf) → ∀ lv, L5 lv n p l → Bod (d + 9) 287 15 lv [] S v Sf := fun v Sf hB lv ⟨h0, h1, h2, h3, h4⟩ => la_go hn hpn (by omega) h0 h1 h2 h3 h4 hlt (fun lv1 a0 a1 a2 a3 a4 a5 => lb_run hn (by omega) hT hfA e1 e2 e3 e4 (fun lv2 b0 b5 => lc_go hn hpn (by omega) b0.1 b0.2.1 b0.2.2.1 b0.2.2.2.1 b0.2.2.2.2 b5 e2 (fun lv3 c0 c1 c2 c3 c4 c5 c6 => ld_run hn (by omega) hT hfA e1 e2 hse s3 hse32 hB (s - p) p lv3 (by omega) (Nat.le_refl _) ⟨c0, c1, c2, c3, c4⟩ c5 c6)) (e - p) p lv1 (by omega) (Nat.le_refl _) ⟨a0, a1, a2, a3, a4⟩ a5)
      have heS : tk_eol (by1 A) n s = e := eol_at hse e2 (fun i h1 h2 => e3 i (by omega) h2) e4
      -- no token in this line
      have blank : (s = e ∨ by1 A s = 35) → ∃ S1 k1, (∀ lv, L5 lv n p l → Bod (d + 9) 287 15 lv [] S none S1) ∧ (∀ j, j < k1 → qK (by1 A) n j ≠ 1) ∧ qK (by1 A) n k1 = 1 ∧ rS A n bj V W z own0 S0 gn0 (N0 + (k1 + 1)) (k1 + 1) S1 := fun hb => by
        have hX : Ans (d + 9) 288 [.ref 61, .ref 107, .int (nI s), .int (nI e), .int (nI l), .int (nI (s - p))] S none S := lexLine_go (fun lv1 h => by
          by_cases h1 : s = e
          · exact rl_end (by omega) hse h.1 h.2.1 h.2.2.1 h.2.2.2.1 h.2.2.2.2.1 h.2.2.2.2.2 h1
          · have hsn : s < n := by omega
            exact rl_hash (by omega) hse h.1 h.2.1 h.2.2.1 h.2.2.2.1 h.2.2.2.2.1 h.2.2.2.2.2 (by omega) (by rw [hT s hsn]; exact by_eq (hfA s hsn) (hb.resolve_left h1) (by decide)))
        have hk6 : k < 6002 := by
          have h1 := (q_idx hj).1
          have h2 := (q_lt (by1 A) n k).1
          omega
        have hnext : e + 1 ≤ n ∧ tq (by1 A) n k = tq_ln (by1 A) n (e + 1) (l + 1) la ∨ n < e + 1 ∧ tq (by1 A) n k = (1, n, n, la, 0) := by
          rcases Nat.lt_or_ge s n with hsn | hsn
          · have h10 : by1 A s = 10 ∨ by1 A s = 35 := by
              rcases hb with h | h
              · rcases e4 with h2 | h2
                · omega
                · exact Or.inl (by rw [h]; exact h2)
              · exact Or.inr h
            have h := ln_skip (l := l) (la := la) (e := e) (Nat.le_of_lt hlt) (by rw [hs]; exact hsn) (by rw [hs]; exact h10) (by rw [hs]; exact heS)
            by_cases hen : e < n
            · exact Or.inl ⟨hen, by rw [htq1, h, if_pos hen]⟩
            · exact Or.inr ⟨by omega, by rw [htq1, h, if_neg hen]⟩
          · exact Or.inr ⟨by omega, by rw [htq1]; exact ln_none (by rw [hs]; exact hsn)⟩
        obtain ⟨S1, k1, hB, rest⟩ := ih (e + 1) (l + 1) la k S (by omega) (by omega) (by omega) hnext hla hj hS
        exact ⟨S1, k1, run none S1 (fun lv1 h h5 h6 => le_0 hn hpn (by omega) h.1 h.2.1 h.2.2.1 h.2.2.2.1 h.2.2.2.2 h5 h6 s1 hse e2 hX ht ht hk6 rfl (fun lv2 a0 a1 a2 a3 a4 => hB lv2 ⟨a0, a1, a2, a3, a4⟩)), rest⟩
      by_cases hb1 : s = e
      · exact blank (Or.inl hb1)
      · by_cases hb2 : by1 A s = 35
        · exact blank (Or.inr hb2)
        · clear blank
          have hslt : s < e := by omega
          have hn10 : by1 A s ≠ 10 := e3 s s1 hslt
          have htk := ln_tok (l := l) (la := la) (show t_skip (by1 A) n (n - p) p < n by rw [hs]; omega) (by rw [hs]; exact fun h => h.elim hn10 hb2)
          rw [hs, ← htq1] at htk
          have hK : qK (by1 A) n k = (tk (by1 A) n s).1 := congrArg (fun t => t.1) htk
          have hP : qP (by1 A) n k = s := congrArg (fun t => t.2.1) htk
          have hL : qL (by1 A) n k = l := congrArg (fun t => t.2.2.2.1) htk
          have hI : qI (by1 A) n k = s - p := congrArg (fun t => t.2.2.2.2) htk
          have hK1 : qK (by1 A) n k ≠ 1 := by rw [hK]; exact tk_kind.1
          have hK2 : qK (by1 A) n k ≠ 2 := fun h => by
            rcases tk_k2 (hK.symm.trans h) with h1 | h1 | h1
            · omega
            · exact hn10 h1
            · exact hb2 h1
          obtain ⟨S1, k1, hB, hk, hj1, hS1, hk2, hee, hl1, hi1⟩ := lexLine_T (d := d) (l := l) (bl := s - p) hn hfA hN0 e2 e4 h86 (e - s + 1) s k S (by omega) hse (fun i h1 h2 => e3 i (by omega) h2) (by rw [hP]; exact skip_here (Or.inl (hse32.resolve_left hb1))) hj hK1 hL hI hS
          have hkk : k < k1 := Nat.lt_of_le_of_ne hk (fun h => hK2 (by rw [h]; exact hk2))
          have hk6 : k1 < 6002 := by
            have h1 := (q_idx hj1).1
            have h2 := (q_lt (by1 A) n k1).1
            omega
          have ht1 := (rS_T hS1).2
          have hX : Ans (d + 9) 288 [.ref 61, .ref 107, .int (nI s), .int (nI e), .int (nI l), .int (nI (s - p))] S none S1 := lexLine_go hB
          have hS2 : rS A n bj V W z own0 S0 gn0 (N0 + (k1 + 1)) (k1 + 1) (wI 6113 (nI l) (wI 6112 (nI (k1 + 1)) (wA 70 k1 ((nI 0)) (wA 69 k1 ((nI l)) (wA 68 k1 ((nI 0)) (wA 67 k1 ((nI 6)) S1)))))) := rS_w13 (rS_le (rS_tok (kd := 6) (vl := nI 0) (bl := nI 0) hS1 hk6 (by rw [hl1]) (by rw [hk2]; rfl) (Or.inl ⟨Or.inr hk2, rfl⟩) (fun h => by omega) (fun h => by omega) (fun h => by omega) (fun h => by omega) (fun h => by omega)) (by omega))
          have hnx : tq (by1 A) n (k1 + 1) = if e < n then tq_ln (by1 A) n (e + 1) (l + 1) l else (1, n, n, l, 0) := by
            show tq_nx (by1 A) n (tq (by1 A) n k1) = _
            unfold tq_nx
            rw [if_neg (show ¬ (tq (by1 A) n k1).1 = 1 from fun h => by have h2 : (tq (by1 A) n k1).1 = 2 := hk2; omega), if_pos (show (tq (by1 A) n k1).1 = 2 from hk2), show (tq (by1 A) n k1).2.2.2.1 = l from hl1, show tk_eol (by1 A) n (tq (by1 A) n k1).2.1 = e from hee]
          have hnext : e + 1 ≤ n ∧ tq (by1 A) n (k1 + 1) = tq_ln (by1 A) n (e + 1) (l + 1) l ∨ n < e + 1 ∧ tq (by1 A) n (k1 + 1) = (1, n, n, l, 0) := by
            by_cases hen : e < n
            · exact Or.inl ⟨hen, by rw [hnx, if_pos hen]⟩
            · exact Or.inr ⟨by omega, by rw [hnx, if_neg hen]⟩
          obtain ⟨S3, k3, hB3, rest⟩ := ih (e + 1) (l + 1) l (k1 + 1) _ (by omega) (by omega) (by omega) hnext (rIe _ _ _) (fun j hj => by
            rcases Nat.lt_or_ge j k1 with h | h
            · exact hj1 j h
            · rw [show j = k1 by omega, hk2]; decide) hS2
          exact ⟨S3, k3, run none S3 (fun lv1 h h5 h6 => le_1 hn hpn (by omega) h.1 h.2.1 h.2.2.1 h.2.2.2.1 h.2.2.2.2 h5 h6 s1 hse e2 hX ht ht1 hk6 hkk (fun lv2 a0 a1 a2 a3 a4 => hB3 lv2 ⟨a0, a1, a2, a3, a4⟩)), rest⟩
/-- the reference's lex: its arrays hold the row, up to its end -/
theorem lex_T {nn g0 g1 g3 g4 g5 gn : Nat} (hn : n ≤ 3000) (hfA : ∀ i, i < n → fits .byte (.int (A i)) = true) (hN0 : N0 ≤ 60000) (h86 : ∀ p t, p < 1500 → sQ S0 86 p = some t → 108 ≤ t) (hR : RN own0 S0 nn g0 g1 g3 g4 g5 gn) (hgn : gn ≤ 64 + 2 * nn) (hnn : nn ≤ N0) (hft : ∀ i, fits .byte (.int (sA S0 g0 i)) = true) (hNM : NMv bj S0 V W z nn g0 g1 g3 g4 g5) (hO : OW own0 S0) (h107 : ∀ i, i < n → sA S0 107 i = A i) : ∃ S1 k1, Ans (d + 10) 287 [.ref 61, .ref 107, .int (nI n)] S0 none S1 ∧ (∀ j, j < k1 → qK (by1 A) n j ≠ 1) ∧ qK (by1 A) n k1 = 1 ∧ rS A n bj V W z own0 S0 gn (N0 + (k1 + 1)) (k1 + 1) S1 := by
  obtain ⟨q1, q2, q3, q4, q5, q6, k0, k1, k3, k4, k5, qn, o64, o0, o1, o3, o4, o5⟩ := id hR
  have h0 : rS A n bj V W z own0 S0 gn (N0 + 0) 0 (wI 6112 (nI 0) S0) := ⟨own0, nn, g0, g1, g3, g4, g5, gn, ⟨(rIn _ _ (by decide)).trans q1, q2, q3, q4, q5, q6, isK_S rfl k0, isK_S rfl k1, isK_S rfl k3, isK_S rfl k4, isK_S rfl k5, qn, o64, o0, o1, o3, o4, o5⟩, hgn, hnn, hft, NMv_S hNM rfl rfl rfl rfl rfl rfl rfl, hO, rIe _ _ _, fun j hj => absurd hj (Nat.not_lt_zero j), ⟨rfl, rfl, fun i hi => by
    have hi2 : i ≠ 6112 := fun e => hi (by rw [e]; decide)
    exact rIn _ _ hi2, fun _ _ => rfl, ⟨[], (List.append_nil _).symm⟩, fun _ _ _ _ => rfl, fun _ _ _ _ => rfl, fun _ _ => rfl⟩, h107, rfl, Nat.le_refl _⟩
  obtain ⟨S1, k1, hB, hj, hk, hS⟩ := lex_loop (d := d) hn hfA hN0 h86 (n + 2) 0 1 0 0 (wI 6113 (nI 0) (wI 6112 (nI 0) S0)) (by omega) (Nat.zero_le _) (by omega) (Or.inl ⟨Nat.zero_le _, rfl⟩) (rIe _ _ _) (fun j hj => absurd hj (Nat.not_lt_zero j)) (rS_w13 h0)
  exact ⟨S1, k1, lex_go hn (fun lv1 a0 a1 a2 a3 a4 => hB lv1 ⟨a0, a1, a2, a3, a4⟩), hj, hk, hS⟩
end
