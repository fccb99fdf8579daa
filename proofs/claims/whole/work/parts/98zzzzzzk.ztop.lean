/-! COMPILING OF THE REFERENCE: a text's statements, one behind the other -/
section
variable {β : Nat → Nat} {n : Nat} {E : Nat → Nat → Bool} {V : Nat → Int32} {T : Nat → Nat × Nat} {own own0 : Nat → Nat × Nat} {m u k1 : Nat} {S S0 S1 : cS} {H B0 W d : Nat}
/-- tokens and names stay -/
theorem rTk_E {g0 g1 nn j : Nat} {S' : cS} (h : rTk β n S g0 g1 nn j) (e67 : sA S' 67 = sA S 67) (e68 : sA S' 68 = sA S 68) (e69 : sA S' 69 = sA S 69) (e70 : sA S' 70 = sA S 70) (l71 : sL S' 71 = sL S 71) (l72 : sL S' 72 = sL S 72) (eg0 : sA S' g0 = sA S g0) (eg1 : sA S' g1 = sA S g1) : rTk β n S' g0 g1 nn j := by
  have hrn : ∀ r, rnH S' g0 g1 r = rnH S g0 g1 r ∧ rnL S' g0 g1 r = rnL S g0 g1 r := fun r => by
    unfold rnH rnL rnm
    rw [eg0, eg1]
    exact ⟨rfl, rfl⟩
  obtain ⟨t1, t2, t3, t4, t5, t6, t7, t8, t9, t10⟩ := h
  unfold rTk
  rw [e67, e68, e69, e70, l71, l72]
  refine ⟨t1, t2, t3, fun e => ?_, t5, t6, t7, t8, t9, t10⟩
  obtain ⟨r, r1, r2, r3, r4⟩ := t4 e
  exact ⟨r, r1, r2, by rw [(hrn r).1]; exact r3, by rw [(hrn r).2]; exact r4⟩
theorem tc0_X {g0 g1 nn : Nat} (hn : n ≤ 3000) (hK : qK β n k1 = 1) (hj : ∀ j, j < k1 → qK β n j ≠ 1) (hO : OW own S) (h86 : ∀ p t, p < 1500 → sQ S 86 p = some t → 108 ≤ t ∧ t < 108 + (sS S).length) (hnn : nn ≤ 90000) (hg0 : g0 < 108 + (sS S).length) (o0 : (own g0).1 = 20) (hg1 : g1 < 108 + (sS S).length) (o1 : (own g1).1 = 21) (hT : ∀ j, j ≤ k1 → rTk β n S g0 g1 nn j) : zX β n (sA S 68) (own9 own (108 + (sS S).length)) (108 + (sS S).length) k1 (tc0 S) := by
  have hk1 : k1 < 6001 := by
    have h1 := (q_idx hj).1
    have h2 := (q_lt β n k1).1
    omega
  have h73 : (own 73).1 = 0 := hO.2.1 73 (by omega) (by omega) (by omega) (by omega)
  refine ⟨hn, hk1, hK, hj, by omega, fun p t hp hq => ?_, fun j => ?_, tc0_O hO h86, g0, g1, nn, hnn, by rw [tc0_n]; omega, by rw [own9_a hg0]; exact o0, by rw [tc0_n]; omega, by rw [own9_a hg1]; exact o1, fun j hj' => rTk_E (hT j hj') ((tc0_a S 67 (by omega)).1 (by omega)) ((tc0_a S 68 (by omega)).1 (by omega)) ((tc0_a S 69 (by omega)).1 (by omega)) ((tc0_a S 70 (by omega)).1 (by omega)) (tc0_a S 71 (by omega)).2 (tc0_a S 72 (by omega)).2 ((tc0_a S g0 hg0).1 (fun e => by rw [e, h73] at o0; omega)) ((tc0_a S g1 hg1).1 (fun e => by rw [e, h73] at o1; omega))⟩
  · rw [(tc0_q S).1] at hq
    have := (h86 p t hp hq).2
    omega
  · exact (congrFun ((tc0_a S 68 (by omega)).1 (by omega)) j).symm
theorem tc0_in (hX : zX β n V own0 m k1 S0) (hS : S = S0) (hE : zE own0 m u S0 H B0 0 0 0 0 0 S) (hi : ∀ i, i ∈ [6140, 6139, 6137, 6134, 6130, 6127, 6126, 6123, 6122, 6117, 6116, 6115] → sI S i = nI 0) (h73 : sA S 73 0 = nI 0) (hH : 13 * (n + 1) ≤ H ∧ H ≤ 40000) (hW : n + 1 ≤ W ∧ W ≤ 40000) : zIn β n E V T own0 m u k1 S0 H B0 W 0 (fun _ => 0) 0 0 0 none 0 sc0 [] (fun _ => 0) 0 0 0 0 0 0 S := by
  have hr := rem_n β n 0
  have hZ : zTk β n k1 := ⟨hX.2.1, hX.2.2.1, hX.2.2.2.1⟩
  have hsc : zSc (qK β n) (qI β n) E V T (agT T sc0.1) sc0 0 0 0 0 0 0 S := by
    refine ⟨fun _ => [], fun _ => [], fun _ => 0, fun _ => 0, fun _ => 0, fun _ => 0, fun _ => 0, 0, ⟨rfl, fun e he => by cases he⟩, rfl, fun _ => ⟨rfl, rfl⟩, ⟨Nat.le_refl _, Nat.le_refl _, by omega⟩, fun h => by omega, fun k' hk hk2 _ => ?_, fun f h1 h2 => by omega⟩
    rcases Nat.lt_or_ge k' k1 with h | h
    · obtain ⟨r, r1, r2, r3, r4, r5⟩ := nx_1 hZ (Nat.le_of_lt h) (by omega)
      rw [r5]
      have := (enR_1 hZ (qI β n k') 6001 (r + 1) r2).2
      have := hX.2.1
      omega
    · have := zK_past hX.2.2.1 (k' - k1)
      rw [show k1 + (k' - k1) = k' by omega] at this
      omega
  have hz : ∀ i, i ≤ 0 → sA S 73 i = nI 0 ∧ 0 < 4000 := fun i hi' => by
    obtain rfl : i = 0 := by omega
    exact ⟨h73, by omega⟩
  refine ⟨⟨hE, hi _ (by decide), hi _ (by decide), ⟨⟨rfl, hi _ (by decide), by omega, rfl, hz⟩, ⟨hi _ (by decide), Nat.zero_le _⟩, ⟨hi _ (by decide), Nat.zero_le _, fun _ => Or.inl rfl⟩, ⟨0, hi _ (by decide), Nat.zero_le _, fun _ => rfl⟩, hi _ (by decide), hi _ (by decide), ⟨hi _ (by decide), Nat.zero_le _⟩, ⟨hi _ (by decide), Nat.zero_le _, hi _ (by decide), Nat.zero_le _⟩, ⟨fun i h => by omega, by omega⟩, hsc, Iff.rfl⟩, fun i e he => ?_, by show 0 < 1; omega, Nat.zero_le _, (fun h => by cases h), by omega, by omega, by show 0 ≤ W; omega, hH.2, hW.2⟩, ⟨by omega, by omega, by omega, by show 0 + _ ≤ W; omega, hH.2, hW.2⟩, Or.inr rfl, Nat.le_refl _, Nat.le_refl _, fun _ => Nat.le_refl _⟩
  cases he
theorem zCq_F {d j ft : Nat} {S Sf : cS} {v : Option Value} {lv : sm_L} (q0 : sm_get lv 0 = some (.ref 61)) (hk : sI S 6115 = nI j) (mk : j < 6001) (hft : sI S 6116 = nI ft) (mft : ft < 2 ^ 20) (b2 : ft ≠ 0) (hB : ∀ lv1 : sm_L, sm_get lv1 0 = some (.ref 61) → Bod (d + 8) 286 133 lv1 [] S v Sf) : Bod (d + 8) 286 84 lv [] S v Sf := by
  refine Bod.aldnG dc_286_84 q0 ?_
  refine Bod.get dc_286_85 fr_286_129 (mk_61 _) rfl ?_
  refine Bod.aldnG dc_286_88 q0 ?_
  refine Bod.get dc_286_89 fr_286_190 (mk_61 _) rfl ?_
  refine Bod.eqI (nI j) hk ?_
  refine Bod.ialdN j rfl (by omega) (by omega) dc_286_92 (mk_67 _) ?_
  refine Bod.bip 7 (by decide) dc_286_93 ?_
  by_cases e : sA S 67 j = nI 7
  · refine Bod.icT dc_286_95 rfl (k2_eq_T e) ?_
    exact hB _ q0
  · refine Bod.icF dc_286_95 rfl (k2_eq_F e) ?_
    refine Bod.aldnG dc_286_98 q0 ?_
    refine Bod.get dc_286_99 fr_286_187 (mk_61 _) rfl ?_
    refine Bod.eqI (nI ft) hft ?_
    refine Bod.ifT dc_286_102 rfl (k1_ne_T (k_ne ft 0 rfl rfl (by omega) (by omega) (by omega))) ?_
    exact hB _ q0
theorem flq_b {q : Nat} (h : q ≤ 3001) : 1 ≤ flq q ∧ flq q ≤ 3001 := by
  unfold flq
  split <;> omega
/-- the loop of compile, at place 84 -/
theorem Z_top (hX : zX β n V own0 m k1 S0) (hE : eqV E (qK β n) V) (hEr : eqR E) : ∀ (F : Nat) (opn : Nat → Nat) (sc : SCs) (at' : List Nat) (X : Nat → Nat) (af ca c w t b k : Nat) (S : cS) (d : Nat), zIn β n E V T own0 m u k1 S0 H B0 W 0 opn 0 0 0 none 0 sc at' X af c w t b k S → 4 * rem β n k + 4 ≤ F → (∀ q, ps (qK β n) (qL β n) (qI β n) E F 1 0 0 0 none 0 ca c sc at' k = .inl q → q ≤ 3001) → 308 ≤ d + 8 → ∃ S1, (∀ (lv : sm_L) (v : Option Value) (Sf : cS), sm_get lv 0 = some (.ref 61) → (∀ lv1 : sm_L, sm_get lv1 0 = some (.ref 61) → Bod (d + 8) 286 133 lv1 [] S1 v Sf) → Bod (d + 8) 286 84 lv [] S v Sf) ∧ ((∃ q, ps (qK β n) (qL β n) (qI β n) E F 1 0 0 0 none 0 ca c sc at' k = .inl q ∧ zB own0 m u S0 H B0 W (flq q) S1) ∨ ∃ x, ps (qK β n) (qL β n) (qI β n) E F 1 0 0 0 none 0 ca c sc at' k = .inr x ∧ zG β n E V T own0 m u k1 S0 H B0 0 0 none sc at' X af S c w t b k x S1) := by
  intro F
  induction F with
  | zero => intro opn sc at' X af ca c w t b k S d h hF; omega
  | succ F ih =>
    intro opn sc at' X af ca c w t b k S d h hF hL hd
    have e : ps (qK β n) (qL β n) (qI β n) E (F + 1) 1 0 0 0 none 0 ca c sc at' k = psQ (qK β n) (qL β n) (qI β n) (ps (qK β n) (qL β n) (qI β n) E F) 0 1 0 0 0 none 0 ca c sc at' k := rfl
    rw [e] at hL ⊢
    obtain ⟨h0, hrm, hls, hbd⟩ := id h
    obtain ⟨h1, h2, h3, h4, h5, h6, h7, h8, h9, h10, h11, h12, h13⟩ := id h0
    obtain ⟨⟨c01, c02, c03, c04, c05⟩, -⟩ := id h4
    have hk1 := hX.2.1
    have hiM := k_i (k := k) hX
    obtain ⟨t1, t2, t3, -⟩ := z_tok hX h1 h7
    have hlt := rkd_lt (qK β n k)
    have leave : ∀ (S1 : cS) (q : Nat), q ≤ 3001 → zB own0 m u S0 H B0 W (flq q) S1 → ∀ (lv : sm_L) (v : Option Value) (Sf : cS), sm_get lv 0 = some (.ref 61) → (∀ lv1 : sm_L, sm_get lv1 0 = some (.ref 61) → Bod (d + 8) 286 133 lv1 [] S1 v Sf) → Bod (d + 8) 286 84 lv [] S1 v Sf := fun S1 q hq hB lv v Sf q0 hb => by
      obtain ⟨j, j1, j2⟩ := hB.2.2
      have := flq_b hq
      exact zCq_F q0 j2 j1 hB.2.1 (by omega) (by omega) hb
    by_cases hK1 : qK β n k = 1
    · have e2 : psQ (qK β n) (qL β n) (qI β n) (ps (qK β n) (qL β n) (qI β n) E F) 0 1 0 0 0 none 0 ca c sc at' k = .inr (k, [], sc, at') := if_pos (Or.inl hK1)
      rw [e2]
      exact ⟨S, fun lv v Sf q0 hb => zCq_1 q0 h2 (by omega) t1 (by omega) (rkd_7.mpr hK1) hb, Or.inr ⟨_, rfl, zG_nil h0⟩⟩
    have hK2 := q_ls2 hls
    have h70 := t3 hK1 hK2
    by_cases hgt : 0 < qI β n k
    · have e2 : psQ (qK β n) (qL β n) (qI β n) (ps (qK β n) (qL β n) (qI β n) E F) 0 1 0 0 0 none 0 ca c sc at' k = .inl (qL β n k) := by
        unfold psQ
        rw [if_neg (by omega), if_pos hgt]
      rw [e2]
      obtain ⟨b1, b2⟩ := z_bad (d := d + 6) hX h1 h2 h3 h7 h9 h10 h11
      have hq : qL β n k ≤ 3001 := hL _ e2
      exact ⟨_, fun lv v Sf q0 hb => zCq_6 q0 h2 (by omega) t1 (by omega) (fun e => hK1 (rkd_7.mp e)) h3 (by omega) rfl h70 (by omega) (by omega) b1 (fun lv1 a0 => leave _ _ hq b2 lv1 v Sf a0 hb), Or.inl ⟨_, rfl, b2⟩⟩
    have hI : qI β n k = 0 := by omega
    have e2 : psQ (qK β n) (qL β n) (qI β n) (ps (qK β n) (qL β n) (qI β n) E F) 0 1 0 0 0 none 0 ca c sc at' k = sb (ps (qK β n) (qL β n) (qI β n) E F 0 0 0 0 none 0 ca c sc at' k) fun x => sb (ps (qK β n) (qL β n) (qI β n) E F 1 0 0 0 none 0 (ca + wC x.2.1) (c + wR (qK β n) x.2.1) x.2.2.1 x.2.2.2 x.1) fun y => .inr (y.1, x.2.1 ++ y.2.1, y.2.2.1, y.2.2.2) := by
      unfold psQ
      rw [if_neg (by omega), if_neg (by omega)]
    rw [e2] at hL ⊢
    obtain ⟨S1, v1, hA, hO⟩ := (Z_all (T := T) (u := u) (H := H) (B0 := B0) (W := W) hX hE hEr F).1.1 opn 0 0 0 none 0 ca sc at' X af c w t b k S (d + 8) h hK1 hI (by omega) (by show 308 ≤ d + 8; exact hd)
    have hw : ∀ x, ps (qK β n) (qL β n) (qI β n) E F (umZ 0) 0 0 0 none 0 ca c sc at' k = x → ps (qK β n) (qL β n) (qI β n) E F 0 0 0 0 none 0 ca c sc at' k = x := fun x hx => hx
    have bad : ∀ q, v1 = nI 0 → q ≤ 3001 → zB own0 m u S0 H B0 W (flq q) S1 → ∀ (lv : sm_L) (v : Option Value) (Sf : cS), sm_get lv 0 = some (.ref 61) → (∀ lv1 : sm_L, sm_get lv1 0 = some (.ref 61) → Bod (d + 8) 286 133 lv1 [] S1 v Sf) → Bod (d + 8) 286 84 lv [] S v Sf := fun q hv hq hB lv v Sf q0 hb => by
      rw [hv] at hA
      exact zCq_4 q0 h2 (by omega) t1 (by omega) (fun e => hK1 (rkd_7.mp e)) h3 (by omega) rfl h70 (by omega) hI hA (fun lv1 a0 => leave _ _ hq hB lv1 v Sf a0 hb)
    rcases hO with ⟨l, hb, hv, hzB⟩ | ⟨x, hx, hv, hG⟩
    · rcases hb with ⟨q, hq, hl⟩ | ⟨x, hx, e1, e3, hl⟩
      · rw [hw _ hq] at hL ⊢
        rw [hl] at hzB
        exact ⟨S1, bad q hv (hL q rfl) hzB, Or.inl ⟨q, rfl, hzB⟩⟩
      · rw [hw _ hx, sb_r] at hL ⊢
        obtain ⟨F', rfl⟩ : ∃ F', F = F' + 1 := ⟨F - 1, by omega⟩
        have e4 : ps (qK β n) (qL β n) (qI β n) E (F' + 1) 1 0 0 0 none 0 (ca + wC x.2.1) (c + wR (qK β n) x.2.1) x.2.2.1 x.2.2.2 x.1 = .inl (qL β n x.1) := by
          show psQ (qK β n) (qL β n) (qI β n) (ps (qK β n) (qL β n) (qI β n) E F') 0 1 0 0 0 none 0 (ca + wC x.2.1) (c + wR (qK β n) x.2.1) x.2.2.1 x.2.2.2 x.1 = _
          have := e3 0 (by omega)
          rw [c04] at this
          unfold psQ
          rw [if_neg (by omega), if_pos (by omega)]
        rw [e4] at hL ⊢
        have hzB' : zB own0 m u S0 H B0 W (flq (qL β n x.1)) S1 := by
          rw [hl] at hzB
          exact hzB
        exact ⟨S1, bad _ hv (hL _ rfl) hzB', Or.inl ⟨_, rfl, hzB'⟩⟩
    · rw [hw _ hx, sb_r] at hL ⊢
      obtain ⟨_, hklt, hrem, _⟩ := (ps_H β n E F).1 (umZ 0) 0 0 0 none 0 ca c sc at' k x (Or.inl rfl) hI (fun h => absurd rfl h) hx
      have hN := zIn_next hX h (Or.inl rfl) hK1 hI hG hklt
      obtain ⟨S3, hB3, hO3⟩ := ih opn x.2.2.1 x.2.2.2 (upX 0 (af + x.2.2.2.length) X) af (ca + wC x.2.1) _ _ _ _ x.1 S1 d hN (by omega) (fun q hq => hL q (by rw [hq]; rfl)) hd
      rw [hv] at hA
      refine ⟨S3, fun lv v Sf q0 hb => zCq_3 q0 h2 (by omega) t1 (by omega) (fun e => hK1 (rkd_7.mp e)) h3 (by omega) rfl h70 (by omega) hI hA (fun lv1 a0 => hB3 lv1 v Sf a0 hb), ?_⟩
      rcases hO3 with ⟨q, hq, hzB⟩ | ⟨y, hy, hG3⟩
      · rw [hq]
        exact Or.inl ⟨q, rfl, hzB⟩
      · rw [hy]
        refine Or.inr ⟨_, rfl, zG_app hG hG3 (fun i => ?_) (if_neg (fun e => by cases e.1)) (Or.inr hklt)⟩
        show X i ≤ if i = 6 ∧ (0 : Nat) = 1 then _ else X i
        rw [if_neg (fun q => by omega)]
        exact Nat.le_refl _
end
