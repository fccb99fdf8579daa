/-! A LINE OF THE REFERENCE: lexLine goes along the row -/
theorem by_ub (A : Nat → Int32) (i : Nat) : by1 A i = ub (A i) := rfl
theorem by_ne {A : Nat → Int32} {i c : Nat} (h : by1 A i ≠ c) (hc : c < 128) : A i ≠ nI c := fun e => h (by rw [by_ub, e]; unfold ub; rw [ub_pos c hc, gN_nI (by omega)])
theorem by_eq {A : Nat → Int32} {i c : Nat} (hf : fits .byte (.int (A i)) = true) (h : by1 A i = c) (hc : c < 128) : A i = nI c := byte_val hf h hc
theorem let_128 {b : Nat} (h : tk_al b = true) : b < 128 := by
  unfold tk_al c_let c_dig at h
  simp only [Bool.or_eq_true, Bool.and_eq_true, Nat.ble_eq, Nat.beq_eq] at h
  omega
theorem eol_at {β : Nat → Nat} {n p e : Nat} (hpe : p ≤ e) (hen : e ≤ n) (h : ∀ i, p ≤ i → i < e → β i ≠ 10) (he : e = n ∨ β e = 10) : tk_eol β n p = e := by
  obtain ⟨h1, h2, h3, h4⟩ := tk_eol_ok (β := β) (n := n) (p := p) (by omega)
  rcases Nat.lt_trichotomy (tk_eol β n p) e with h5 | h5 | h5
  · rcases h4 with h4 | h4
    · omega
    · exact absurd h4 (h _ h1 h5)
  · exact h5
  · rcases he with he | he
    · omega
    · exact absurd he (h3 e hpe h5)
theorem skip_step {β : Nat → Nat} {n p : Nat} (hp : p < n) (h : β p = 32) : t_skip β n (n - p) p = t_skip β n (n - (p + 1)) (p + 1) := by
  obtain ⟨f, hf⟩ : ∃ f, n - p = f + 1 := ⟨n - p - 1, by omega⟩
  rw [hf, show n - (p + 1) = f by omega]
  show (if p < n ∧ β p = 32 then t_skip β n f (p + 1) else p) = _
  rw [if_pos ⟨hp, h⟩]
theorem skip_here {β : Nat → Nat} {n p : Nat} (h : β p ≠ 32 ∨ n ≤ p) : t_skip β n (n - p) p = p := by
  cases hf : n - p with
  | zero => rfl
  | succ f =>
    show (if p < n ∧ β p = 32 then t_skip β n f (p + 1) else p) = _
    rw [if_neg (fun c => h.elim (fun h => h c.2) (fun h => by omega))]
theorem tk_k2 {β : Nat → Nat} {n p : Nat} (h : (tk β n p).1 = 2) : n ≤ p ∨ β p = 10 ∨ β p = 35 := by
  rcases Classical.em (n ≤ p ∨ β p = 10 ∨ β p = 35) with hc | hc
  · exact hc
  exfalso
  have hs := tk_sg_r (β p) (tk_at β n (p + 1))
  unfold tk at h
  rw [if_neg hc] at h
  by_cases c1 : c_let (β p) = true
  · rw [if_pos c1] at h
    by_cases c2 : 12 < tk_nmN β n p
    · rw [if_pos c2] at h; cases h
    · rw [if_neg c2] at h
      by_cases c3 : tk_word (fun i => β (p + i)) (tk_nmN β n p) < 24
      · rw [if_pos c3] at h
        have h' : 40 + tk_word (fun i => β (p + i)) (tk_nmN β n p) = 2 := h
        omega
      · rw [if_neg c3] at h; cases h
  · rw [if_neg c1] at h
    by_cases c2 : c_dig (β p) = true
    · rw [if_pos c2] at h
      by_cases c3 : 9223372036854775807 < tk_val β p (tk_dgN β n p)
      · rw [if_pos c3] at h; cases h
      · rw [if_neg c3] at h; cases h
    · rw [if_neg c2] at h
      by_cases c3 : β p = 39
      · rw [if_pos c3] at h
        by_cases c4 : p + 1 + tk_txN β n p < n ∧ β (p + 1 + tk_txN β n p) = 39 ∧ tk_txN β n p ≤ 15
        · rw [if_pos c4] at h; cases h
        · rw [if_neg c4] at h; cases h
      · rw [if_neg c3] at h
        by_cases c4 : tk_sg (β p) (tk_at β n (p + 1)) = 0
        · rw [if_pos c4] at h; cases h
        · rw [if_neg c4] at h
          by_cases c5 : 22 ≤ tk_sg (β p) (tk_at β n (p + 1))
          · rw [if_pos c5] at h
            have h' : tk_sg (β p) (tk_at β n (p + 1)) = 2 := h
            omega
          · rw [if_neg c5] at h
            have h' : tk_sg (β p) (tk_at β n (p + 1)) = 2 := h
            omega
theorem ln_k2 {β : Nat → Nat} {n p l last : Nat} (hp : p ≤ n) : (tq_ln β n p l last).1 ≠ 2 := fun h => by
  unfold tq_ln at h
  split at h
  · cases h
  · rename_i q l2 i htl
    obtain ⟨b1, b2, b3, b4, b5, b6, b7, b8⟩ := tl_ok _ _ _ _ _ _ hp htl
    rcases tk_k2 h with h1 | h1 | h1
    · omega
    · exact b3 h1
    · exact b4 h1
theorem q_idx {β : Nat → Nat} {n k : Nat} (hj : ∀ j, j < k → qK β n j ≠ 1) : k ≤ 2 * qP β n k ∧ (qK β n k = 2 → k + 1 ≤ 2 * qP β n k) := by
  induction k with
  | zero => exact ⟨Nat.zero_le _, fun h => absurd h (ln_k2 (Nat.zero_le _))⟩
  | succ k ih =>
    obtain ⟨i1, i2⟩ := ih (fun j h => hj j (by omega))
    have hk1 := hj k (by omega)
    have h4 := q_mono1 β n k
    by_cases hk2 : qK β n k = 2
    · have h3 := i2 hk2
      have h5 : qP β n k ≤ qE β n k := (tq_ok β n k).2.1
      refine ⟨by omega, fun h => ?_⟩
      exfalso
      have e : qK β n (k + 1) = (tq_nx β n (tq β n k)).1 := rfl
      rw [e] at h
      unfold tq_nx at h
      rw [if_neg (show ¬ (tq β n k).1 = 1 from hk1), if_pos (show (tq β n k).1 = 2 from hk2)] at h
      split at h
      · rename_i he
        exact ln_k2 (by omega) h
      · cases h
    · obtain ⟨p1, p2, p3, p4⟩ := q_parts hk1
      have h1 := (tk_end (β := β) p2).2.2
      rw [← p1] at h1
      dsimp only at h1
      exact ⟨by omega, fun _ => by omega⟩
def LG6 (lv : sm_L) (e l bl p : Nat) : Prop := sm_get lv 0 = some (.ref 61) ∧ sm_get lv 1 = some (.ref 107) ∧ sm_get lv 3 = some (.int (nI e)) ∧ sm_get lv 4 = some (.int (nI l)) ∧ sm_get lv 5 = some (.int (nI bl)) ∧ sm_get lv 6 = some (.int (nI p))
def LG8 (lv : sm_L) (e l bl p : Nat) (x : Int32) (st : Nat) : Prop := LG6 lv e l bl p ∧ sm_get lv 7 = some (.int x) ∧ sm_get lv 8 = some (.int (nI st))
section
variable {A : Nat → Int32} {n : Nat} {S : cS}
theorem rl_run {d e l bl st q : Nat} {x : Int32} {v : Option Value} {Sf : cS} (hn : n ≤ 3000) (hen : e ≤ n) (hT : ∀ i, i < n → sA S 107 i = A i) (hfA : ∀ i, i < n → fits .byte (.int (A i)) = true) (hq : q ≤ e) (hend : q = e ∨ tk_al (by1 A q) = false) (hB : ∀ lv1, LG8 lv1 e l bl q x st → Bod (d + 8) 288 81 lv1 [] S v Sf) : ∀ (r p : Nat) (lv : sm_L), p + r = q → LG8 lv e l bl p x st → (∀ i, p ≤ i → i < q → tk_al (by1 A i) = true) → Bod (d + 8) 288 49 lv [] S v Sf := by
  intro r
  induction r with
  | zero =>
    intro p lv hp hlv _
    obtain rfl : p = q := by omega
    obtain ⟨⟨h0, h1, h3, h4, h5, h6⟩, h7, h8⟩ := hlv
    by_cases he : p = e
    · exact rl_let3 (by omega) hq h0 h1 h3 h4 h5 h6 h7 h8 he (fun lv1 a0 a1 a3 a4 a5 a6 a7 a8 => hB lv1 ⟨⟨a0, a1, a3, a4, a5, a6⟩, a7, a8⟩)
    · have h9 := hend.resolve_left he
      unfold tk_al at h9
      rw [Bool.or_eq_false_iff] at h9
      have hpn : p < n := by omega
      exact rl_let4 (by omega) hq h0 h1 h3 h4 h5 h6 h7 h8 (by omega) (by rw [hT p hpn]; exact hfA p hpn) (by rw [hT p hpn]; exact h9.1) (by rw [hT p hpn]; exact h9.2) (fun lv1 a0 a1 a3 a4 a5 a6 a7 a8 => hB lv1 ⟨⟨a0, a1, a3, a4, a5, a6⟩, a7, a8⟩)
  | succ r ih =>
    intro p lv hp hlv hal
    obtain ⟨⟨h0, h1, h3, h4, h5, h6⟩, h7, h8⟩ := hlv
    have hpn : p < n := by omega
    have h9 := hal p (Nat.le_refl _) (by omega)
    have hf : fits .byte (.int (sA S 107 p)) = true := by rw [hT p hpn]; exact hfA p hpn
    have next : ∀ lv1 : sm_L, LG8 lv1 e l bl (p + 1) x st → Bod (d + 8) 288 49 lv1 [] S v Sf := fun lv1 h => ih (p + 1) lv1 (by omega) h (fun i h1 h2 => hal i (by omega) h2)
    cases hL : c_let (by1 A p) with
    | true => exact rl_let1 (by omega) (by omega) h0 h1 h3 h4 h5 h6 h7 h8 (by omega) hf (by rw [hT p hpn]; exact hL) (fun lv1 a0 a1 a3 a4 a5 a6 a7 a8 => next lv1 ⟨⟨a0, a1, a3, a4, a5, a6⟩, a7, a8⟩)
    | false =>
      have hG : c_dig (by1 A p) = true := by
        unfold tk_al at h9
        rw [hL] at h9
        exact h9
      exact rl_let2 (by omega) (by omega) h0 h1 h3 h4 h5 h6 h7 h8 (by omega) hf (by rw [hT p hpn]; exact hL) (by rw [hT p hpn]; exact hG) (fun lv1 a0 a1 a3 a4 a5 a6 a7 a8 => next lv1 ⟨⟨a0, a1, a3, a4, a5, a6⟩, a7, a8⟩)
theorem tk_val_mono {β : Nat → Nat} {p m : Nat} (h : 9223372036854775807 < tk_val β p m) : 9223372036854775807 < tk_val β p (m + 1) := by
  show 9223372036854775807 < 10 * tk_val β p m + _
  omega
theorem num_step {V b : Nat} (h48 : 48 ≤ b) (hb : b < 128) : 10 * lN V + (nI b).toInt64 - 48 = lN (10 * V + (b - 48)) := by
  rw [nI_l (by omega), show (10 : Int64) = lN 10 from rfl, show (48 : Int64) = lN 48 from rfl, lN_mul, lN_add, lN_sub (by omega)]
  exact congrArg lN (by omega)
def dW (A : Nat → Int32) (p0 : Nat) : Nat → Int64
  | 0 => 0
  | m + 1 => 10 * dW A p0 m + (A (p0 + m)).toInt64 - 48
def numI (A : Nat → Int32) (p0 m : Nat) (w : Int64) (fi : Int32) : Prop := w = dW A p0 m ∧ ((fi = nI 1 ∧ w = lN (tk_val (by1 A) p0 m) ∧ tk_val (by1 A) p0 m ≤ 9223372036854775807) ∨ (fi = nI 0 ∧ 9223372036854775807 < tk_val (by1 A) p0 m))
theorem rl_drun {d e l bl q : Nat} {x : Int32} {v : Option Value} {Sf : cS} {st p0 : Nat} (hn : n ≤ 3000) (hen : e ≤ n) (hT : ∀ i, i < n → sA S 107 i = A i) (hfA : ∀ i, i < n → fits .byte (.int (A i)) = true) (hq : q ≤ e) (hend : q = e ∨ c_dig (by1 A q) = false) (hB : ∀ lv1 w fi, LG8 lv1 e l bl q x st → sm_get lv1 9 = some (.long w) → sm_get lv1 11 = some (.int fi) → numI A p0 (q - p0) w fi → Bod (d + 8) 288 252 lv1 [] S v Sf) : ∀ (r p : Nat) (lv : sm_L) (w : Int64) (fi : Int32), p + r = q → p0 ≤ p → LG8 lv e l bl p x st → sm_get lv 9 = some (.long w) → sm_get lv 11 = some (.int fi) → numI A p0 (p - p0) w fi → (∀ i, p ≤ i → i < q → c_dig (by1 A i) = true) → Bod (d + 8) 288 175 lv [] S v Sf := by
  intro r
  induction r with
  | zero =>
    intro p lv w fi hp hp0 hlv h9 h11 hI _
    obtain rfl : p = q := by omega
    obtain ⟨⟨h0, h1, h3, h4, h5, h6⟩, h7, h8⟩ := hlv
    by_cases he : p = e
    · exact rl_dig3 (by omega) hq h0 h1 h3 h4 h5 h6 h7 h8 h9 h11 he (fun lv1 a0 a1 a3 a4 a5 a6 a7 a8 a9 a11 => hB lv1 w fi ⟨⟨a0, a1, a3, a4, a5, a6⟩, a7, a8⟩ a9 a11 hI)
    · have hpn : p < n := by omega
      exact rl_dig4 (by omega) hq h0 h1 h3 h4 h5 h6 h7 h8 h9 h11 (by omega) (by rw [hT p hpn]; exact hfA p hpn) (by rw [hT p hpn]; exact hend.resolve_left he) (fun lv1 a0 a1 a3 a4 a5 a6 a7 a8 a9 a11 => hB lv1 w fi ⟨⟨a0, a1, a3, a4, a5, a6⟩, a7, a8⟩ a9 a11 hI)
  | succ r ih =>
    intro p lv w fi hp hp0 hlv h9 h11 hI hdg
    obtain ⟨⟨h0, h1, h3, h4, h5, h6⟩, h7, h8⟩ := hlv
    have hpn : p < n := by omega
    have hd := hdg p (Nat.le_refl _) (by omega)
    have hbl := c_dig_le hd
    have hf : fits .byte (.int (sA S 107 p)) = true := by rw [hT p hpn]; exact hfA p hpn
    have hG : c_dig (ub (sA S 107 p)) = true := by rw [hT p hpn]; exact hd
    have hx : sA S 107 p = nI (by1 A p) := by rw [hT p hpn]; exact by_eq (hfA p hpn) rfl (by omega)
    have hval : tk_val (by1 A) p0 (p - p0 + 1) = 10 * tk_val (by1 A) p0 (p - p0) + (by1 A p - 48) := by
      show 10 * tk_val (by1 A) p0 (p - p0) + (by1 A (p0 + (p - p0)) - 48) = _
      rw [show p0 + (p - p0) = p by omega]
    have hsub : p + 1 - p0 = p - p0 + 1 := by omega
    have next : ∀ (fi' : Int32), numI A p0 (p + 1 - p0) (10 * w + (sA S 107 p).toInt64 - 48) fi' → ∀ lv1 : sm_L, sm_get lv1 0 = some (.ref 61) → sm_get lv1 1 = some (.ref 107) → sm_get lv1 3 = some (.int (nI e)) → sm_get lv1 4 = some (.int (nI l)) → sm_get lv1 5 = some (.int (nI bl)) → sm_get lv1 6 = some (.int (nI (p + 1))) → sm_get lv1 7 = some (.int x) → sm_get lv1 8 = some (.int (nI st)) → sm_get lv1 9 = some (.long (10 * w + (sA S 107 p).toInt64 - 48)) → sm_get lv1 11 = some (.int fi') → Bod (d + 8) 288 175 lv1 [] S v Sf := fun fi' hI' lv1 a0 a1 a3 a4 a5 a6 a7 a8 a9 a11 => ih (p + 1) lv1 _ fi' (by omega) (by omega) ⟨⟨a0, a1, a3, a4, a5, a6⟩, a7, a8⟩ a9 a11 hI' (fun i h1 h2 => hdg i (by omega) h2)
    have hW' : 10 * w + (sA S 107 p).toInt64 - 48 = dW A p0 (p + 1 - p0) := by
      rw [hsub, hI.1, hT p hpn]
      show _ = 10 * dW A p0 (p - p0) + (A (p0 + (p - p0))).toInt64 - 48
      rw [show p0 + (p - p0) = p by omega]
    have keep0 : ∀ c : Int32, fi = nI 0 → (c = nI 0 ∨ c = nI 1) → 9223372036854775807 < tk_val (by1 A) p0 (p - p0) → numI A p0 (p + 1 - p0) (10 * w + (sA S 107 p).toInt64 - 48) (fi &&& c) := fun c h0 hc h1 => ⟨hW', Or.inr ⟨by rw [h0]; rcases hc with rfl | rfl <;> decide, by rw [hsub]; exact tk_val_mono h1⟩⟩
    by_cases c1 : lg_cmp w 922337203685477580 < 0
    · refine rl_dig_lt (by omega) (by omega) h0 h1 h3 h4 h5 h6 h7 h8 h9 h11 (by omega) hf hG c1 (next _ ?_)
      rcases hI.2 with ⟨i1, i2, i3⟩ | ⟨i1, i2⟩
      · have hlt : tk_val (by1 A) p0 (p - p0) < 922337203685477580 := by
          rcases Nat.lt_or_ge (tk_val (by1 A) p0 (p - p0)) 922337203685477580 with h | h
          · exact h
          · exfalso
            rw [i2, show (922337203685477580 : Int64) = lN 922337203685477580 from rfl] at c1
            exact cmp_ge (fun hc => by have := (pk_lLT (by omega) (by omega)).mp hc; omega) c1
        exact ⟨hW', Or.inl ⟨by rw [i1]; decide, by rw [i2, hx, num_step (by omega) (by omega), hsub, hval], by rw [hsub, hval]; omega⟩⟩
      · exact keep0 _ i1 (Or.inr rfl) i2
    · by_cases c2 : lg_cmp w 922337203685477580 = 0
      · by_cases c3 : by1 A p ≤ 55
        · refine rl_dig_eq (by omega) (by omega) h0 h1 h3 h4 h5 h6 h7 h8 h9 h11 (by omega) hf hG c1 c2 hx c3 (next _ ?_)
          rcases hI.2 with ⟨i1, i2, i3⟩ | ⟨i1, i2⟩
          · have heq : tk_val (by1 A) p0 (p - p0) = 922337203685477580 := by
              rcases Nat.lt_trichotomy (tk_val (by1 A) p0 (p - p0)) 922337203685477580 with h | h | h
              · exfalso
                rw [i2, show (922337203685477580 : Int64) = lN 922337203685477580 from rfl] at c1
                exact c1 (cmp_lt ((pk_lLT (by omega) (by omega)).mpr h))
              · exact h
              · exfalso
                rw [i2, show (922337203685477580 : Int64) = lN 922337203685477580 from rfl] at c2
                have h2 := cmp_gt (a := lN (tk_val (by1 A) p0 (p - p0))) (b := lN 922337203685477580) ((pk_lLT (by omega) (by omega)).mpr h)
                rw [c2] at h2
                exact absurd h2 (by decide)
            exact ⟨hW', Or.inl ⟨by rw [i1]; decide, by rw [i2, hx, num_step (by omega) (by omega), hsub, hval], by rw [hsub, hval]; omega⟩⟩
          · exact keep0 _ i1 (Or.inr rfl) i2
        · refine rl_dig_gt (by omega) (by omega) h0 h1 h3 h4 h5 h6 h7 h8 h9 h11 (by omega) hf hG c1 c2 hx (by omega) (by omega) (next _ ?_)
          rcases hI.2 with ⟨i1, i2, i3⟩ | ⟨i1, i2⟩
          · have hge : 922337203685477580 ≤ tk_val (by1 A) p0 (p - p0) := by
              rcases Nat.lt_or_ge (tk_val (by1 A) p0 (p - p0)) 922337203685477580 with h | h
              · exfalso
                rw [i2, show (922337203685477580 : Int64) = lN 922337203685477580 from rfl] at c1
                exact c1 (cmp_lt ((pk_lLT (by omega) (by omega)).mpr h))
              · exact h
            exact ⟨hW', Or.inr ⟨by rw [i1]; decide, by rw [hsub, hval]; omega⟩⟩
          · exact keep0 _ i1 (Or.inl rfl) i2
      · refine rl_dig_ne (by omega) (by omega) h0 h1 h3 h4 h5 h6 h7 h8 h9 h11 (by omega) hf hG c1 c2 (next _ ?_)
        rcases hI.2 with ⟨i1, i2, i3⟩ | ⟨i1, i2⟩
        · have hgt : 922337203685477580 < tk_val (by1 A) p0 (p - p0) := by
            rcases Nat.lt_trichotomy (tk_val (by1 A) p0 (p - p0)) 922337203685477580 with h | h | h
            · exfalso
              rw [i2, show (922337203685477580 : Int64) = lN 922337203685477580 from rfl] at c1
              exact c1 (cmp_lt ((pk_lLT (by omega) (by omega)).mpr h))
            · exfalso
              rw [i2, h, show (922337203685477580 : Int64) = lN 922337203685477580 from rfl] at c2
              exact c2 (cmp_eq rfl)
            · exact h
          exact ⟨hW', Or.inr ⟨by rw [i1]; decide, by rw [hsub, hval]; omega⟩⟩
        · exact keep0 _ i1 (Or.inl rfl) i2
theorem rl_srun {d e l bl q : Nat} {x : Int32} {v : Option Value} {Sf : cS} {st : Nat} (hn : n ≤ 3000) (hen : e ≤ n) (hT : ∀ i, i < n → sA S 107 i = A i) (hfA : ∀ i, i < n → fits .byte (.int (A i)) = true) (hq : q ≤ e) (hend : q = e ∨ tk_in (by1 A q) = false) (hB : ∀ lv1, LG8 lv1 e l bl q x st → Bod (d + 8) 288 335 lv1 [] S v Sf) : ∀ (r p : Nat) (lv : sm_L), p + r = q → LG8 lv e l bl p x st → (∀ i, p ≤ i → i < q → tk_in (by1 A i) = true) → Bod (d + 8) 288 296 lv [] S v Sf := by
  intro r
  induction r with
  | zero =>
    intro p lv hp hlv _
    obtain rfl : p = q := by omega
    obtain ⟨⟨h0, h1, h3, h4, h5, h6⟩, h7, h8⟩ := hlv
    have nx : ∀ lv1 : sm_L, sm_get lv1 0 = some (.ref 61) → sm_get lv1 1 = some (.ref 107) → sm_get lv1 3 = some (.int (nI e)) → sm_get lv1 4 = some (.int (nI l)) → sm_get lv1 5 = some (.int (nI bl)) → sm_get lv1 6 = some (.int (nI p)) → sm_get lv1 7 = some (.int x) → sm_get lv1 8 = some (.int (nI st)) → Bod (d + 8) 288 335 lv1 [] S v Sf := fun lv1 a0 a1 a3 a4 a5 a6 a7 a8 => hB lv1 ⟨⟨a0, a1, a3, a4, a5, a6⟩, a7, a8⟩
    by_cases he : p = e
    · exact rl_str2 (by omega) hq h0 h1 h3 h4 h5 h6 h7 h8 he nx
    · have hpn : p < n := by omega
      have h9 := hend.resolve_left he
      by_cases h39 : by1 A p = 39
      · exact rl_str3 (by omega) hq h0 h1 h3 h4 h5 h6 h7 h8 (by omega) (by rw [hT p hpn]; exact by_eq (hfA p hpn) h39 (by decide)) nx
      · rcases byte_or (hfA p hpn) with ⟨b, b1, b2, b3, b4⟩ | ⟨b1, b, b2, b3, b4, b5⟩
        · have hb : by1 A p = b := b4
          rw [hb] at h9 h39
          unfold tk_in at h9
          have e1 : Nat.beq b 39 = false := by
            cases h : Nat.beq b 39 with
            | false => rfl
            | true => exact absurd (Nat.beq_eq.mp h) h39
          rcases Nat.lt_or_ge b 32 with h10 | h10
          · exact rl_str4 (by omega) hq h0 h1 h3 h4 h5 h6 h7 h8 (by omega) (by rw [hT p hpn]; exact b2) h10 nx
          · rcases Nat.lt_or_ge 126 b with h11 | h11
            · exact rl_str5 (by omega) hq h0 h1 h3 h4 h5 h6 h7 h8 (by omega) (by rw [hT p hpn]; exact b2) h11 b1 nx
            · rw [e1, Nat.ble_eq.mpr h10, Nat.ble_eq.mpr h11] at h9
              cases h9
        · refine rl_str6 (by omega) hq h0 h1 h3 h4 h5 h6 h7 h8 (by omega) (by rw [hT p hpn]; exact by_ne h39 (by decide)) ?_ nx
          rw [hT p hpn]
          exact if_pos (Int32.lt_trans b1 (by decide))
  | succ r ih =>
    intro p lv hp hlv hal
    obtain ⟨⟨h0, h1, h3, h4, h5, h6⟩, h7, h8⟩ := hlv
    have hpn : p < n := by omega
    have h9 := hal p (Nat.le_refl _) (by omega)
    unfold tk_in at h9
    rw [Bool.and_eq_true, Bool.and_eq_true, Nat.ble_eq, Nat.ble_eq] at h9
    have h39 : by1 A p ≠ 39 := fun e => by rw [e] at h9; cases h9.1
    exact rl_str1 (by omega) (by omega) h0 h1 h3 h4 h5 h6 h7 h8 (by omega) (by rw [hT p hpn]; exact by_eq (hfA p hpn) rfl (by omega)) h39 h9.2.1 h9.2.2 (fun lv1 a0 a1 a3 a4 a5 a6 a7 a8 => ih (p + 1) lv1 (by omega) ⟨⟨a0, a1, a3, a4, a5, a6⟩, a7, a8⟩ (fun i h1 h2 => hal i (by omega) h2))
end
