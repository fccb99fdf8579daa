/-! READ OF THE CLASS over the pure tokens -/
def FrT (LI LJ LA LL : List Nat) (S0 S : cS) : Prop := (∀ i, i ∉ LI → sI S i = sI S0 i) ∧ (∀ i, i ∉ LJ → sJ S i = sJ S0 i) ∧ (∀ a, a ∉ LA → sA S a = sA S0 a) ∧ (∀ a, a ∉ LL → sL S a = sL S0 a) ∧ sV S = sV S0 ∧ sQ S = sQ S0 ∧ sS S = sS S0 ∧ mu S = mu S0
theorem FrT.refl (LI LJ LA LL : List Nat) (S : cS) : FrT LI LJ LA LL S S := ⟨fun _ _ => rfl, fun _ _ => rfl, fun _ _ => rfl, fun _ _ => rfl, rfl, rfl, rfl, rfl⟩
theorem FrT.trans {LI LJ LA LL : List Nat} {S0 S1 S2 : cS} (h : FrT LI LJ LA LL S0 S1) (g : FrT LI LJ LA LL S1 S2) : FrT LI LJ LA LL S0 S2 :=
  ⟨fun i hi => (g.1 i hi).trans (h.1 i hi), fun i hi => (g.2.1 i hi).trans (h.2.1 i hi), fun i hi => (g.2.2.1 i hi).trans (h.2.2.1 i hi), fun i hi => (g.2.2.2.1 i hi).trans (h.2.2.2.1 i hi), g.2.2.2.2.1.trans h.2.2.2.2.1, g.2.2.2.2.2.1.trans h.2.2.2.2.2.1, g.2.2.2.2.2.2.1.trans h.2.2.2.2.2.2.1, g.2.2.2.2.2.2.2.trans h.2.2.2.2.2.2.2⟩
theorem FrT.mono {LI LJ LA LL MI MJ MA ML : List Nat} {S0 S : cS} (h : FrT LI LJ LA LL S0 S) (h1 : ∀ i, i ∈ LI → i ∈ MI) (h2 : ∀ i, i ∈ LJ → i ∈ MJ) (h3 : ∀ i, i ∈ LA → i ∈ MA) (h4 : ∀ i, i ∈ LL → i ∈ ML) : FrT MI MJ MA ML S0 S :=
  ⟨fun i hi => h.1 i (fun c => hi (h1 i c)), fun i hi => h.2.1 i (fun c => hi (h2 i c)), fun i hi => h.2.2.1 i (fun c => hi (h3 i c)), fun i hi => h.2.2.2.1 i (fun c => hi (h4 i c)), h.2.2.2.2⟩
theorem FrT_wI {LI LJ LA LL : List Nat} {S0 S : cS} {k : Nat} {v : Int32} (hk : k ∈ LI) (h : FrT LI LJ LA LL S0 S) : FrT LI LJ LA LL S0 (wI k v S) := ⟨fun i hi => (rIn v S (fun e : i = k => hi (by rw [e]; exact hk))).trans (h.1 i hi), h.2⟩
theorem FrT_wJ {LI LJ LA LL : List Nat} {S0 S : cS} {k : Nat} {v : Int64} (hk : k ∈ LJ) (h : FrT LI LJ LA LL S0 S) : FrT LI LJ LA LL S0 (wJ k v S) := ⟨h.1, fun i hi => (rJn v S (fun e : i = k => hi (by rw [e]; exact hk))).trans (h.2.1 i hi), h.2.2⟩
theorem FrT_wA {LI LJ LA LL : List Nat} {S0 S : cS} {k i : Nat} {v : Int32} (hk : k ∈ LA) (h : FrT LI LJ LA LL S0 S) : FrT LI LJ LA LL S0 (wA k i v S) := ⟨h.1, h.2.1, fun a ha => (rAn i v S (fun e : a = k => ha (by rw [e]; exact hk))).trans (h.2.2.1 a ha), h.2.2.2⟩
theorem FrT_wL {LI LJ LA LL : List Nat} {S0 S : cS} {k i : Nat} {v : Int64} (hk : k ∈ LL) (h : FrT LI LJ LA LL S0 S) : FrT LI LJ LA LL S0 (wL k i v S) := ⟨h.1, h.2.1, h.2.2.1, fun a ha => ((rL k i v S a).trans (if_neg (fun e : a = k => ha (by rw [e]; exact hk)))).trans (h.2.2.2.1 a ha), h.2.2.2.2⟩
theorem nI_inj {a b : Nat} (ha : a < 2 ^ 31) (hb : b < 2 ^ 31) (e : nI a = nI b) : a = b := by
  have h := congrArg gN e
  rw [gN_nI ha, gN_nI hb] at h
  exact h
def by1 (A : Nat → Int32) (i : Nat) : Nat := (A i &&& nI 255).toNatClampNeg
theorem c_byte_by (S : cS) (i : Nat) : c_byte S i = by1 (sA S 1) i := rfl
theorem by1_lt (A : Nat → Int32) (i : Nat) : by1 A i < 256 := by
  obtain ⟨q, hq, e⟩ := pk_andE (A i) (m := nI 255) 8 (by decide)
  unfold by1
  rw [e, nI_clamp (by omega)]
  exact hq
def nm_is (S : cS) (β : Nat → Nat) (p M q : Nat) : Prop := c_is S (e_H (fun i => β (p + i)) M) (e_L (fun i => β (p + i)) M) q
/-- the class holds the token t, which begins at p, on line l -/
def ct_tk (β : Nat → Nat) (S : cS) (z p : Nat) (t : Nat × Nat) (l : Nat) : Prop := sI S 3105 = nI t.1 ∧ sI S 3104 = nI p ∧ (t.1 = 0 → sI S 3113 = nI l) ∧ (t.1 ≠ 0 → sI S 3103 = nI t.2 ∧ sI S 3113 = nI 0) ∧ (t.1 = 3 → ∃ q, 24 ≤ q ∧ q < z ∧ sI S 3109 = nI q ∧ nm_is S β p (t.2 - p) q) ∧ (t.1 = 4 → sJ S 3110 = lN (tk_val β p (t.2 - p))) ∧ (t.1 = 5 → sJ S 3111 = e_H (fun i => β (p + 1 + i)) (t.2 - p - 2) ∧ sJ S 3112 = e_L (fun i => β (p + 1 + i)) (t.2 - p - 2))
theorem ct_plain {β : Nat → Nat} {S : cS} {z p k e l : Nat} (hk : k ≠ 0 ∧ k ≠ 3 ∧ k ≠ 4 ∧ k ≠ 5) (h5 : sI S 3105 = nI k) (h4 : sI S 3104 = nI p) (h3 : sI S 3103 = nI e) (h13 : sI S 3113 = nI 0) : ct_tk β S z p (k, e) l := ⟨h5, h4, fun h => absurd h hk.1, fun _ => ⟨h3, h13⟩, fun h => absurd h hk.2.1, fun h => absurd h hk.2.2.1, fun h => absurd h hk.2.2.2⟩
theorem ct_bad {β : Nat → Nat} {S : cS} {z p e l : Nat} (h5 : sI S 3105 = nI 0) (h4 : sI S 3104 = nI p) (h13 : sI S 3113 = nI l) : ct_tk β S z p (0, e) l := ⟨h5, h4, fun _ => h13, fun h => absurd rfl h, fun h => (by cases h), fun h => (by cases h), fun h => (by cases h)⟩
/-- the table of names, maybe with one more -/
def NTx (S : cS) (z : Nat) (S1 : cS) (z1 : Nat) : Prop := z ≤ z1 ∧ c_NT S1 z1 ∧ ∀ i, i < z → sL S1 17 i = sL S 17 i ∧ sL S1 18 i = sL S 18 i
def lxI : List Nat := [3103, 3104, 3105, 3109, 3113, 1607]
def lxJ : List Nat := [3110, 3111, 3112]
theorem NTx_same {S S1 : cS} {z : Nat} (hN : c_NT S z) (h1 : sI S1 1607 = sI S 1607) (h17 : sL S1 17 = sL S 17) (h18 : sL S1 18 = sL S 18) (h19 : sA S1 19 = sA S 19) (h20 : sA S1 20 = sA S 20) : NTx S z S1 z := by
  refine ⟨Nat.le_refl _, ?_, fun i _ => ⟨by rw [h17], by rw [h18]⟩⟩
  unfold c_NT
  rw [h1, h17, h18, h19]
  refine ⟨hN.1, hN.2.1, hN.2.2.1, fun h hh => ?_⟩
  obtain ⟨b, cs, h2, h3, h4, h5⟩ := hN.2.2.2 h hh
  exact ⟨b, cs, h2, chain_congr cs b (fun i _ => by rw [h20]) h3, h4, h5⟩
theorem nmH_b {S : cS} {A : Nat → Int32} (hA : sA S 1 = A) (p m : Nat) : c_nmH S p m = e_H (fun i => by1 A (p + i)) m := by
  rw [nmH_e]
  refine e_H_congr (fun i _ => ?_)
  rw [c_byte_by, hA]
theorem nmL_b {S : cS} {A : Nat → Int32} (hA : sA S 1 = A) (p m : Nat) : c_nmL S p m = e_L (fun i => by1 A (p + i)) m := by
  rw [nmL_e]
  refine e_L_congr (fun i _ => ?_)
  rw [c_byte_by, hA]
theorem dv_b {S : cS} {A : Nat → Int32} (hA : sA S 1 = A) (p : Nat) : ∀ m, c_dv S p m = tk_val (by1 A) p m := by
  intro m
  induction m with
  | zero => rfl
  | succ m ih => show 10 * c_dv S p m + _ = 10 * tk_val (by1 A) p m + _; rw [ih, c_byte_by, hA]
theorem fail_of {S : cS} {l : Nat} (h13 : sI S 3113 = nI 0) (h6 : sI S 3106 = nI l) : c_fail S = wI 3105 (nI 0) (wI 3113 (nI l) S) := by
  unfold c_fail
  rw [if_pos (show sI S 3113 = 0 from h13), h6]
theorem fail_old2 {S : cS} (h13 : sI S 3113 ≠ 0) : c_fail S = wI 3105 (nI 0) S := by
  unfold c_fail
  rw [if_neg h13]
/-- the loop of a name's bytes, as far as one likes -/
theorem readName_go {d n p M : Nat} {v : Option Value} {Sf : cS} (hM : n ≤ 3000) (hM2 : M ≤ 12) : ∀ (r m : Nat) (S : cS), m + r = M → sI S 3102 = nI n → sI S 3104 = nI p → sI S 3103 = nI (p + m) → p + M ≤ n → (∀ x, m ≤ x → x < M → c_al S n (p + x)) → Bod (d + 2) 42 16 [(5, .int (c_b S n (p + M))), (1, .long (c_nmH S p M)), (3, .long (c_nmL S p M)), (0, .ref 31)] [] (wI 3103 (nI (p + M)) S) v Sf → Bod (d + 2) 42 16 [(5, .int (c_b S n (p + m))), (1, .long (c_nmH S p m)), (3, .long (c_nmL S p m)), (0, .ref 31)] [] S v Sf := by
  intro r
  induction r with
  | zero =>
    intro m S hm hn hs hp hpn _ hB
    obtain rfl : m = M := by omega
    rw [wI_same hp] at hB
    exact hB
  | succ r ih =>
    intro m S hm hn hs hp hpn ha hB
    have h := ih (m + 1) (wI 3103 (nI (p + m + 1)) S) (by omega) hn hs (rIe _ _ _) hpn (fun x h1 h2 => (c_al_I _ _ _ _ _).mpr (ha x (by omega) h2)) (by rw [wI_wI, c_nmH_I, c_nmL_I, c_b_I]; exact hB)
    rw [c_nmH_I, c_nmL_I] at h
    exact readName_next hM hn hs hp (by omega) (ha m (Nat.le_refl _) (by omega)) (by rw [c_nmH_len S p m (by omega)]; omega) h
theorem readName_much {d n p : Nat} {S : cS} (hM : n ≤ 3000) (hn : sI S 3102 = nI n) (hs : sI S 3104 = nI p) (hp : sI S 3103 = nI p) (hpn : p + 12 < n) (ha : ∀ x, x < 13 → c_al S n (p + x)) : Ans (d + 3) 42 [.ref 31] S none (c_fail (wI 3103 (nI (p + 12)) S)) := by
  refine Ans.of (by rw [ml_42]; exact Nat.le_of_ble_eq_true rfl) ?_
  refine Bod.ldc2 dc_42_0 cj_42_83 ?_
  refine Bod.lstn dc_42_3 (by rw [ml_42]; exact Nat.le_of_ble_eq_true rfl) ?_
  refine Bod.go dc_42_4 rfl ?_
  refine Bod.lstn dc_42_5 (by rw [ml_42]; exact Nat.le_of_ble_eq_true rfl) ?_
  refine Bod.go dc_42_6 rfl ?_
  refine Bod.go dc_42_7 rfl ?_
  refine Bod.get dc_42_8 fr_42_23 (mk_31 _) rfl ?_
  refine Bod.eqI (nI p) hp ?_
  refine Bod.virt (r := []) dc_42_11 kr_42_50 ⟨Or.inl rfl, ow_38, cl_3⟩ (by rw [np_38]; rfl) (by rw [np_38]; rfl) (ob_of (mk_31 _)) (Nat.le_of_ble_eq_true rfl) (byteAt_b (n := n) (i := p) (S := S) hn (by omega) (by omega)) ?_
  show Bod _ _ _ _ [_] _ _ _
  refine Bod.ist dc_42_14 (by rw [ml_42]; exact Nat.le_of_ble_eq_true rfl) ?_
  have h0 := readName_long (d := d) (n := n) (p := p) (m := 12) (S := wI 3103 (nI (p + 12)) S) (hi := c_nmH S p 12) (lo := c_nmL S p 12) hM hn hs (rIe _ _ _) rfl (ha 12 (by omega))
  have h := readName_go (d := d) (p := p) (M := 12) hM (by omega) 11 1 (wI 3103 (nI (p + 0 + 1)) S) (by omega) hn hs (rIe _ _ _) (by omega) (fun x h1 h2 => (c_al_I _ _ _ _ _).mpr (ha x (by omega))) (by rw [wI_wI, c_nmH_I, c_nmL_I, c_b_I]; exact h0)
  rw [c_nmH_I, c_nmL_I] at h
  exact readName_first (m := 0) (hi := 3458764513820540928) (lo := 0) hM hn hs hp (by omega) (ha 0 (by omega)) (by rw [show c_len 3458764513820540928 = 0 from c_nmH_len S p 0 (by omega)]; omega) h
theorem readNumber_go {d n p M : Nat} {v : Option Value} {Sf : cS} (hM : n ≤ 3000) : ∀ (r m : Nat) (S : cS), m + r = M → sI S 3102 = nI n → sI S 3103 = nI (p + m) → sJ S 3110 = lN (c_dv S p m) → p + M ≤ n → (∀ x, m ≤ x → x < M → c_dig (c_byte S (p + x)) = true) → c_dv S p M ≤ 9223372036854775807 → Bod (d + 2) 45 14 [(1, .int (c_b S n (p + M))), (0, .ref 31)] [] (wI 3103 (nI (p + M)) (wJ 3110 (lN (c_dv S p M)) S)) v Sf → Bod (d + 2) 45 14 [(1, .int (c_b S n (p + m))), (0, .ref 31)] [] S v Sf := by
  intro r
  induction r with
  | zero =>
    intro m S hm hn hp hv hpn _ _ hB
    obtain rfl : m = M := by omega
    rw [wI_wJ 3103, wI_same hp, wJ_same hv] at hB
    exact hB
  | succ r ih =>
    intro m S hm hn hp hv hpn hd hx hB
    have hdm := hd m (Nat.le_refl _) (by omega)
    have hbl := c_dig_le hdm
    have hle := c_dv_le S p r (m + 1) M (by omega)
    have h2 : c_dv S p (m + 1) = 10 * c_dv S p m + (c_byte S (p + m) - 48) := rfl
    refine readNumber_next hM hn hp hv (by omega) hdm (by omega) (w := c_dv S p (m + 1)) (by omega) ?_
    exact ih (m + 1) (wI 3103 (nI (p + m + 1)) (wJ 3110 (lN (c_dv S p (m + 1))) S)) (by omega) hn (rIe _ _ _) (by rw [rIJ, rJe, c_dv_I, c_dv_J]) hpn (fun x h1 h2 => by rw [c_byte_I, c_byte_J]; exact hd x (by omega) h2) (by rw [c_dv_I, c_dv_J]; exact hx) (by rw [c_dv_I, c_dv_J, st_num]; exact hB)
/-- digits that are too many: the first place where they are -/
theorem dv_first {S : cS} {p : Nat} : ∀ M, 9223372036854775807 < c_dv S p M → ∃ m, m < M ∧ c_dv S p m ≤ 9223372036854775807 ∧ 9223372036854775807 < c_dv S p (m + 1) := by
  intro M
  induction M with
  | zero => intro h; exact absurd h (by show ¬ 9223372036854775807 < 0; omega)
  | succ M ih =>
    intro h
    by_cases h1 : 9223372036854775807 < c_dv S p M
    · obtain ⟨m, h2, h3⟩ := ih h1
      exact ⟨m, by omega, h3⟩
    · exact ⟨M, by omega, by omega, h⟩
theorem readNumber_much {d n p M : Nat} {S : cS} (hM : n ≤ 3000) (hn : sI S 3102 = nI n) (hp : sI S 3103 = nI p) (hpn : p + M ≤ n) (hd : ∀ x, x < M → c_dig (c_byte S (p + x)) = true) (hx : 9223372036854775807 < c_dv S p M) : ∃ m, Ans (d + 3) 45 [.ref 31] S none (c_fail (wI 3103 (nI (p + m)) (wJ 3110 (lN (c_dv S p m)) S))) := by
  obtain ⟨m, hm, h1, h2⟩ := dv_first M hx
  refine ⟨m, ?_⟩
  refine Ans.of (by rw [ml_45]; exact Nat.le_of_ble_eq_true rfl) ?_
  refine Bod.go dc_45_0 rfl ?_
  refine Bod.go dc_45_1 rfl ?_
  refine Bod.put dc_45_2 fr_45_102 (mk_31 _) (Nat.le_of_ble_eq_true rfl) pf_3_10 (st_3110 _ _) (mu_J _ _ _) ?_
  refine Bod.go dc_45_5 rfl ?_
  refine Bod.go dc_45_6 rfl ?_
  refine Bod.get dc_45_7 fr_45_23 (mk_31 _) rfl ?_
  refine Bod.eqI (nI p) hp ?_
  refine Bod.virt (r := []) dc_45_10 kr_45_50 ⟨Or.inl rfl, ow_38, cl_3⟩ (by rw [np_38]; rfl) (by rw [np_38]; rfl) (ob_of (mk_31 _)) (Nat.le_of_ble_eq_true rfl) (byteAt_b (n := n) (i := p) hn (by omega) (by omega)) ?_
  show Bod _ _ _ _ [_] _ _ _
  refine Bod.istn dc_45_13 (by rw [ml_45]; exact Nat.le_of_ble_eq_true rfl) ?_
  have hdm := hd m hm
  have hbl := c_dig_le hdm
  have h3 : c_dv S p (m + 1) = 10 * c_dv S p m + (c_byte S (p + m) - 48) := rfl
  have h0 := readNumber_great (d := d) (n := n) (p := p) (m := m) (v := c_dv S p m) (S := wI 3103 (nI (p + m)) (wJ 3110 (lN (c_dv S p m)) S)) hM hn (rIe _ _ _) (by rw [rIJ, rJe]) h1 (by omega) hdm (by show (9223372036854775855 - c_byte S (p + m)) / 10 < c_dv S p m; omega)
  refine readNumber_go (d := d) (p := p) (M := m) hM m 0 (wJ 3110 0 S) (by omega) hn hp rfl (by omega) (fun x _ h2 => by rw [c_byte_J]; exact hd x (by omega)) (by rw [c_dv_J]; exact h1) ?_
  rw [c_dv_J, wJ_wJ]
  exact h0
