/-! STRINGS, SIGNS of the reference's line; the whole line -/
section
variable {A : Nat → Int32} {n z gn0 N : Nat} {bj : Nat → Nat} {V W : Nat → Int64} {own0 : Nat → Nat × Nat} {S0 S : cS} {N0 e l bl p k d : Nat}
theorem by_and {i : Nat} (hf : fits .byte (.int (A i)) = true) : by1 A i < 256 ∧ A i &&& nI 255 = nI (by1 A i) := by
  rcases byte_or hf with ⟨b, b1, b2, b3, b4⟩ | ⟨b1, b, b2, b3, b4, b5⟩
  · have hb : by1 A i = b := b4
    rw [hb]
    exact ⟨by omega, b3⟩
  · have hb : by1 A i = b := b5
    rw [hb]
    exact ⟨b3, b4⟩
theorem lx_str (c : LC A n bj V W z own0 S0 gn0 N0 e l bl p k S) (hLt : c_let (by1 A p) = false) (hG : c_dig (by1 A p) = false) (h39 : by1 A p = 39) (ct : LCont A n bj V W z own0 S0 gn0 N0 d e l bl p k) : LXq A n bj V W z own0 S0 gn0 N0 d e l bl p k S := by
  obtain ⟨hT, ht⟩ := rS_T c.hS
  have hp := c.hp
  have hen := c.hen
  have hn := c.hn
  have hk6 := c.k6
  have hpn : p < n := by omega
  obtain ⟨r1, r2, r3⟩ := t_run_end (P := tk_in) (β := by1 A) (n := n) (p := p + 1) (by omega)
  have hMd : tk_txN (by1 A) n p = t_run tk_in (by1 A) n (n - (p + 1)) (p + 1) := rfl
  have htk := c.tkq
  unfold tk at htk
  rw [if_neg c.not0, if_neg (by rw [hLt]; decide), if_neg (by rw [hG]; decide), if_pos h39, hMd] at htk
  generalize t_run tk_in (by1 A) n (n - (p + 1)) (p + 1) = M at *
  have hqe : p + 1 + M ≤ e := by
    rcases Nat.lt_or_ge e (p + 1 + M) with h | h
    · exfalso
      have h10 := r2 (e - (p + 1)) (by omega)
      rw [show p + 1 + (e - (p + 1)) = e by omega] at h10
      rcases c.he10 with h | h
      · omega
      · rw [h] at h10; exact absurd h10 (by decide)
    · exact h
  have hend : p + 1 + M = e ∨ tk_in (by1 A (p + 1 + M)) = false := r3.imp (fun h => by omega) id
  have hfp : fits .byte (.int (sA S 107 p)) = true := by rw [hT p hpn]; exact c.hfA p hpn
  have hA39 : sA S 107 p = nI 39 := by rw [hT p hpn]; exact by_eq (c.hfA p hpn) h39 (by decide)
  have hsub : p + 1 + M - 1 - p = M := by omega
  have run : ∀ (Sf : cS) (v : Option Value) (lv : sm_L), (∀ lv1, LG8 lv1 e l bl (p + 1 + M) (nI 39) p → Bod (d + 8) 288 335 lv1 [] S v Sf) → LG6 lv e l bl p → Bod (d + 8) 288 3 lv [] S v Sf := fun Sf v lv hB h => rl_str (by omega) (by omega) h.1 h.2.1 h.2.2.1 h.2.2.2.1 h.2.2.2.2.1 h.2.2.2.2.2 hp hA39 hfp (by rw [hT p hpn]; exact hLt) (by rw [hT p hpn]; exact hG) (fun lv1 a0 a1 a3 a4 a5 a6 a7 a8 => rl_srun hn hen hT c.hfA hqe hend hB M (p + 1) lv1 rfl ⟨⟨a0, a1, a3, a4, a5, a6⟩, a7, a8⟩ (fun i h1 h2 => by
    have := r2 (i - (p + 1)) (by omega)
    rw [show p + 1 + (i - (p + 1)) = i by omega] at this
    exact this))
  by_cases hgood : p + 1 + M < n ∧ by1 A (p + 1 + M) = 39 ∧ M ≤ 15
  · rw [if_pos hgood] at htk
    obtain ⟨g1, g2, g3⟩ := hgood
    have hk0 : qK (by1 A) n k = 5 := congrArg Prod.fst htk
    have hE : qE (by1 A) n k = p + 1 + M + 1 := congrArg Prod.snd htk
    have hlt : p + 1 + M < e := by
      rcases Nat.lt_or_ge (p + 1 + M) e with h | h
      · exact h
      · exfalso
        have he : p + 1 + M = e := by omega
        rcases c.he10 with h | h
        · omega
        · rw [he, h] at g2; cases g2
    have hx : sA S 107 (p + 1 + M) = nI 39 := by rw [hT _ g1]; exact by_eq (c.hfA _ g1) g2 (by decide)
    have hb : ∀ (S' : cS), sA S' 107 = sA S 107 → ∀ i, i < M → (fun i => by1 A (p + 1 + i)) i < 256 ∧ sA S' 107 (p + 1 + i) &&& nI 255 = nI ((fun i => by1 A (p + 1 + i)) i) := fun S' e i hi => by
      rw [e, hT _ (by omega)]
      exact by_and (c.hfA _ (by omega))
    have hK1 : Ans (d + 8) 297 [.ref 107, .int (nI (p + 1)), .int (nI M), .int (nI 0)] S (some (.long (p_A (fun i => by1 A (p + 1 + i)) M))) S := by
      have h := packed_ev (d := d + 7) (fr := p + 1) (M := M) (hf := 0) (S := S) (f := fun i => by1 A (p + 1 + i)) (by omega) g3 (by omega) (hb S rfl)
      rw [if_pos rfl] at h
      exact h
    have hK2 : Ans (d + 8) 297 [.ref 107, .int (nI (p + 1)), .int (nI M), .int (nI 1)] (wL 71 k (p_A (fun i => by1 A (p + 1 + i)) M) S) (some (.long (p_B (fun i => by1 A (p + 1 + i)) M))) (wL 71 k (p_A (fun i => by1 A (p + 1 + i)) M) S) := by
      have h := packed_ev (d := d + 7) (fr := p + 1) (M := M) (hf := 1) (S := wL 71 k (p_A (fun i => by1 A (p + 1 + i)) M) S) (f := fun i => by1 A (p + 1 + i)) (by omega) g3 (by omega) (hb _ rfl)
      rw [if_neg (by decide)] at h
      exact h
    have hM2 : p + 1 + M + 1 - p - 2 = M := by omega
    exact lx_glue (ct (p + 1 + M + 1) _ (by omega) (by omega) hE (by omega) (c.tok (kd := 4) (vl := nI 0) (rS_wL (a := 72) (x := p_B (fun i => by1 A (p + 1 + i)) M) (rS_wL (a := 71) (x := p_A (fun i => by1 A (p + 1 + i)) M) c.hS (Or.inl rfl)) (Or.inr rfl)) (by omega) rfl (by rw [hk0]; rfl) (by omega) (fun h => by omega) (fun h => by omega) (fun h => by omega) (fun h => by omega) (fun _ => by
      rw [c.hq, hE, hM2]
      exact ⟨by rw [rLn _ _ _ (by decide), rLe, vp_at, if_pos rfl], by rw [rLe, vp_at, if_pos rfl]⟩))) (fun S1 hB lv h => run S1 none lv (fun lv1 h1 => rl_text (by omega) (by omega) h1.1.1 h1.1.2.1 h1.1.2.2.1 h1.1.2.2.2.1 h1.1.2.2.2.2.1 h1.1.2.2.2.2.2 h1.2.1 h1.2.2 hlt (by omega) hx (by omega) ht hk6 (by rw [hsub]; exact hK1) (by rw [hsub]; exact hK2) (fun lv2 a0 a1 a3 a4 a5 a6 => hB lv2 ⟨a0, a1, a3, a4, a5, a6⟩)) h)
  · rw [if_neg hgood] at htk
    have hk0 : qK (by1 A) n k = 0 := congrArg Prod.fst htk
    have heol : tk_eol (by1 A) n p = e := eol_at (Nat.le_of_lt hp) hen c.hno c.he10
    have hE : qE (by1 A) n k = e := (congrArg Prod.snd htk).trans heol
    obtain ⟨x1, x2, x3, x4⟩ := q_next c.hk1 (show qK (by1 A) n k ≠ 2 by omega)
    have hq1 : qP (by1 A) n (k + 1) = e := by
      rw [x1, hE]
      exact skip_here (c.he10.elim (fun h => Or.inr (by omega)) (fun h => Or.inl (by rw [h]; decide)))
    have hk2 : qK (by1 A) n (k + 1) = 2 := by
      have h := (q_parts x4).1
      rw [hq1] at h
      have h2 : tk (by1 A) n e = (2, e) := by
        unfold tk
        rw [if_pos (c.he10.elim (fun h => Or.inl (by omega)) (fun h => Or.inr (Or.inl h)))]
      exact congrArg Prod.fst (h.trans h2)
    refine ⟨wI 6112 (nI (k + 1)) (wA 70 k (nI bl) (wA 69 k (nI l) (wA 68 k (nI 0) (wA 67 k (nI 8) S)))), k + 1, fun lv h => run _ none lv (fun lv1 h1 => ?_) h, Nat.le_succ k, fun j hj => ?_, c.tok (kd := 8) (vl := nI 0) c.hS (by omega) rfl (by rw [hk0]; rfl) (by omega) (fun h => by omega) (fun h => by omega) (fun h => by omega) (fun h => by omega) (fun h => by omega), hk2, by rw [hq1]; exact eol_at (Nat.le_refl _) hen (fun i h1 h2 => by omega) c.he10, x2.trans c.hL, x3.trans c.hI⟩
    · by_cases he : p + 1 + M = e
      · exact rl_tbad1 (by omega) (by omega) h1.1.1 h1.1.2.1 h1.1.2.2.1 h1.1.2.2.2.1 h1.1.2.2.2.2.1 h1.1.2.2.2.2.2 h1.2.1 h1.2.2 he ht hk6
      · have hqn : p + 1 + M < n := by omega
        by_cases h9 : by1 A (p + 1 + M) = 39
        · exact rl_tbad3 (by omega) (by omega) h1.1.1 h1.1.2.1 h1.1.2.2.1 h1.1.2.2.2.1 h1.1.2.2.2.2.1 h1.1.2.2.2.2.2 h1.2.1 h1.2.2 (by omega) (by omega) (by rw [hT _ hqn]; exact by_eq (c.hfA _ hqn) h9 (by decide)) (by
            rcases Nat.lt_or_ge 15 M with h | h
            · omega
            · exact absurd ⟨hqn, h9, h⟩ hgood) ht hk6
        · exact rl_tbad2 (by omega) (by omega) h1.1.1 h1.1.2.1 h1.1.2.2.1 h1.1.2.2.2.1 h1.1.2.2.2.2.1 h1.1.2.2.2.2.2 h1.2.1 h1.2.2 (by omega) (by rw [hT _ hqn]; exact by_ne h9 (by decide)) ht hk6
    · rcases Nat.lt_or_ge j k with h | h
      · exact c.hj j h
      · rw [show j = k by omega]; exact c.hk1
theorem lx_sign (c : LC A n bj V W z own0 S0 gn0 N0 e l bl p k S) (hLt : c_let (by1 A p) = false) (hG : c_dig (by1 A p) = false) (h39 : by1 A p ≠ 39) (ct : LCont A n bj V W z own0 S0 gn0 N0 d e l bl p k) : LXq A n bj V W z own0 S0 gn0 N0 d e l bl p k S := by
  obtain ⟨hT, ht⟩ := rS_T c.hS
  have hp := c.hp
  have hen := c.hen
  have hn := c.hn
  have hk6 := c.k6
  have hpn : p < n := by omega
  have htk := c.tkq
  unfold tk at htk
  rw [if_neg c.not0, if_neg (by rw [hLt]; decide), if_neg (by rw [hG]; decide), if_neg h39] at htk
  have hfp : fits .byte (.int (sA S 107 p)) = true := by rw [hT p hpn]; exact c.hfA p hpn
  have hux : ub (sA S 107 p) = by1 A p := by rw [hT p hpn]; rfl
  have hc : ∃ dd : Int32, (dd = nI 61 ∧ tk_at (by1 A) n (p + 1) = 61 ∨ dd = nI 47 ∧ tk_at (by1 A) n (p + 1) = 47 ∨ dd ≠ nI 61 ∧ dd ≠ nI 47 ∧ tk_at (by1 A) n (p + 1) ≠ 61 ∧ tk_at (by1 A) n (p + 1) ≠ 47) ∧ (22 ≤ tk_sg (by1 A p) (tk_at (by1 A) n (p + 1)) → p + 2 ≤ e) ∧ ∀ (Sf : cS) (v : Option Value) (lv : sm_L), (∀ lv1, LG9 lv1 e l bl p (sA S 107 p) p dd → Bod (d + 8) 288 476 lv1 [] S v Sf) → LG8 lv e l bl p (sA S 107 p) p → Bod (d + 8) 288 456 lv [] S v Sf := by
    by_cases hin : p + 1 < e
    · have h1n : p + 1 < n := by omega
      have hat : tk_at (by1 A) n (p + 1) = by1 A (p + 1) := if_pos h1n
      refine ⟨sA S 107 (p + 1), ?_, fun _ => by omega, fun Sf v lv hB h => rs_d1 (by omega) (by omega) h.1.1 h.1.2.1 h.1.2.2.1 h.1.2.2.2.1 h.1.2.2.2.2.1 h.1.2.2.2.2.2 h.2.1 h.2.2 hin (fun lv1 a0 a1 a3 a4 a5 a6 a7 a8 a9 => hB lv1 ⟨⟨⟨a0, a1, a3, a4, a5, a6⟩, a7, a8⟩, a9⟩)⟩
      rw [hat, hT _ h1n]
      by_cases h61 : by1 A (p + 1) = 61
      · exact Or.inl ⟨by_eq (c.hfA _ h1n) h61 (by decide), h61⟩
      · by_cases h47 : by1 A (p + 1) = 47
        · exact Or.inr (Or.inl ⟨by_eq (c.hfA _ h1n) h47 (by decide), h47⟩)
        · exact Or.inr (Or.inr ⟨by_ne h61 (by decide), by_ne h47 (by decide), h61, h47⟩)
    · have h1e : p + 1 = e := by omega
      have hat : tk_at (by1 A) n (p + 1) = 0 ∨ tk_at (by1 A) n (p + 1) = 10 := by
        unfold tk_at
        rcases c.he10 with h | h
        · exact Or.inl (if_neg (by omega))
        · rw [h1e, h]
          split
          · exact Or.inr rfl
          · exact Or.inl rfl
      exact ⟨nI 0, Or.inr (Or.inr ⟨by decide, by decide, by omega, by omega⟩), fun h => by
        have := tk_sg_2 h
        omega, fun Sf v lv hB h => rs_d0 (by omega) (by omega) h.1.1 h.1.2.1 h.1.2.2.1 h.1.2.2.2.1 h.1.2.2.2.2.1 h.1.2.2.2.2.2 h.2.1 h.2.2 (by omega) (fun lv1 a0 a1 a3 a4 a5 a6 a7 a8 a9 => hB lv1 ⟨⟨⟨a0, a1, a3, a4, a5, a6⟩, a7, a8⟩, a9⟩)⟩
  obtain ⟨dd, hdd, hp2, hB9⟩ := hc
  have hsr := tk_sg_r (by1 A p) (tk_at (by1 A) n (p + 1))
  obtain ⟨vl, hvl, hgo⟩ := sg_any (d := d) (e := e) (l := l) (bl := bl) (p := p) (st := p) (t := k) (S := S) (by omega) (by omega) ht hk6 hfp hux hdd
  generalize tk_sg (by1 A p) (tk_at (by1 A) n (p + 1)) = K at *
  have hk0 : qK (by1 A) n k = K ∧ qE (by1 A) n k = if 22 ≤ K then p + 2 else p + 1 := by
    by_cases h0 : K = 0
    · rw [if_pos h0] at htk
      exact ⟨(congrArg Prod.fst htk).trans h0.symm, by rw [if_neg (by omega)]; exact congrArg Prod.snd htk⟩
    · rw [if_neg h0] at htk
      by_cases h22 : 22 ≤ K
      · rw [if_pos h22] at htk
        exact ⟨congrArg Prod.fst htk, by rw [if_pos h22]; exact congrArg Prod.snd htk⟩
      · rw [if_neg h22] at htk
        exact ⟨congrArg Prod.fst htk, by rw [if_neg h22]; exact congrArg Prod.snd htk⟩
  obtain ⟨hk0, hE⟩ := hk0
  have hq1 : p < (if 22 ≤ K then p + 2 else p + 1) ∧ (if 22 ≤ K then p + 2 else p + 1) ≤ e := by
    by_cases h22 : 22 ≤ K
    · rw [if_pos h22]; exact ⟨by omega, hp2 h22⟩
    · rw [if_neg h22]; exact ⟨by omega, by omega⟩
  exact lx_glue (ct _ _ hq1.1 hq1.2 hE (by omega) (c.tok (kd := rkd K) (vl := vl) c.hS (by omega) rfl (by rw [hk0]) (by omega) (fun h => by omega) (fun h => by omega) (fun h => by rw [hk0]; exact hvl (by omega)) (fun h => by omega) (fun h => by omega))) (fun S1 hB lv h => rs_go (by omega) (by omega) h.1 h.2.1 h.2.2.1 h.2.2.2.1 h.2.2.2.2.1 h.2.2.2.2.2 hp (by rw [hT p hpn]; exact by_ne c.h35 (by decide)) (by rw [hT p hpn]; exact by_ne c.h32 (by decide)) (by rw [hT p hpn]; exact by_ne h39 (by decide)) hfp (by rw [hT p hpn]; exact hLt) (by rw [hT p hpn]; exact hG) (fun lv1 a0 a1 a3 a4 a5 a6 a7 a8 => hB9 S1 none lv1 (fun lv2 h2 => hgo S1 none hB lv2 h2) ⟨⟨a0, a1, a3, a4, a5, a6⟩, a7, a8⟩))
/-- from any place of a line on -/
theorem lexLine_T (hn : n ≤ 3000) (hfA : ∀ i, i < n → fits .byte (.int (A i)) = true) (hN0 : N0 ≤ 60000) (hen : e ≤ n) (he10 : e = n ∨ by1 A e = 10) (h86 : ∀ p t, p < 1500 → sQ S0 86 p = some t → 108 ≤ t) : ∀ (r p k : Nat) (S : cS), e - p < r → p ≤ e → (∀ i, p ≤ i → i < e → by1 A i ≠ 10) → t_skip (by1 A) n (n - p) p = qP (by1 A) n k → (∀ j, j < k → qK (by1 A) n j ≠ 1) → qK (by1 A) n k ≠ 1 → qL (by1 A) n k = l → qI (by1 A) n k = bl → rS A n bj V W z own0 S0 gn0 (N0 + k) k S → LXq A n bj V W z own0 S0 gn0 N0 d e l bl p k S := by
  intro r
  induction r with
  | zero => intro p k S h; omega
  | succ r ih =>
    intro p k S hr hpe hno hsk hj hk1 hL hI hS
    obtain ⟨hT, ht⟩ := rS_T hS
    by_cases he : p = e
    · have hq : qP (by1 A) n k = p := hsk.symm.trans (skip_here (he10.elim (fun h => Or.inr (by omega)) (fun h => Or.inl (by rw [he, h]; decide))))
      have hk2 : qK (by1 A) n k = 2 := by
        have h := (q_parts hk1).1
        rw [hq] at h
        have h2 : tk (by1 A) n p = (2, p) := by
          unfold tk
          rw [if_pos (he10.elim (fun h => Or.inl (by omega)) (fun h => Or.inr (Or.inl (by rw [he]; exact h))))]
        exact congrArg Prod.fst (h.trans h2)
      exact ⟨S, k, fun lv h => rl_end (by omega) hpe h.1 h.2.1 h.2.2.1 h.2.2.2.1 h.2.2.2.2.1 h.2.2.2.2.2 he, Nat.le_refl k, hj, hS, hk2, by rw [hq]; exact eol_at hpe hen hno he10, hL, hI⟩
    · have hp : p < e := by omega
      have hpn : p < n := by omega
      by_cases h32 : by1 A p = 32
      · obtain ⟨S1, k1, hB, rest⟩ := ih (p + 1) k S (by omega) (by omega) (fun i h1 h2 => hno i (by omega) h2) (by rw [← skip_step hpn h32]; exact hsk) hj hk1 hL hI hS
        exact ⟨S1, k1, fun lv h => rl_blank (by omega) hpe h.1 h.2.1 h.2.2.1 h.2.2.2.1 h.2.2.2.2.1 h.2.2.2.2.2 hp (by rw [hT p hpn]; exact by_eq (hfA p hpn) h32 (by decide)) (fun lv1 a0 a1 a3 a4 a5 a6 => hB lv1 ⟨a0, a1, a3, a4, a5, a6⟩), rest⟩
      · have hq : qP (by1 A) n k = p := hsk.symm.trans (skip_here (Or.inl h32))
        by_cases h35 : by1 A p = 35
        · have hk2 : qK (by1 A) n k = 2 := by
            have h := (q_parts hk1).1
            rw [hq] at h
            have h2 : tk (by1 A) n p = (2, p) := by
              unfold tk
              rw [if_pos (Or.inr (Or.inr h35))]
            exact congrArg Prod.fst (h.trans h2)
          exact ⟨S, k, fun lv h => rl_hash (by omega) hpe h.1 h.2.1 h.2.2.1 h.2.2.2.1 h.2.2.2.2.1 h.2.2.2.2.2 hp (by rw [hT p hpn]; exact by_eq (hfA p hpn) h35 (by decide)), Nat.le_refl k, hj, hS, hk2, by rw [hq]; exact eol_at hpe hen hno he10, hL, hI⟩
        · have c : LC A n bj V W z own0 S0 gn0 N0 e l bl p k S := ⟨hn, hfA, hN0, hen, he10, hno, hj, hk1, hL, hI, hS, hp, hq, h32, h35, h86⟩
          have ct : LCont A n bj V W z own0 S0 gn0 N0 d e l bl p k := fun q S' h1 h2 h3 h4 h5 => by
            obtain ⟨x1, x2, x3, x4⟩ := q_next hk1 h4
            refine ih q (k + 1) S' (by omega) h2 (fun i h6 h7 => hno i (by omega) h7) (by rw [x1, h3]) (fun j h6 => ?_) x4 (x2.trans hL) (x3.trans hI) h5
            rcases Nat.lt_or_ge j k with h | h
            · exact hj j h
            · rw [show j = k by omega]; exact hk1
          cases hLt : c_let (by1 A p) with
          | true => exact lx_name c hLt ct
          | false =>
            cases hG : c_dig (by1 A p) with
            | true => exact lx_num c hLt hG ct
            | false =>
              by_cases h39 : by1 A p = 39
              · exact lx_str c hLt hG h39 ct
              · exact lx_sign c hLt hG h39 ct
end
