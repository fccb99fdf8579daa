/-! SETTLE of the reference: what nothing holds goes, all of it and nothing else -/
def r_ref (S : cS) (x : Nat) : Nat := match sV S x with
  | .ref a => a
  | _ => 0
def r_t (S : cS) (k : Nat) : Nat := (sQ S 86 k).getD 0
def r_ent (S : cS) (k i : Nat) : Nat := r_o (sA S (r_ref S (100 * r_t S k + 2)) i) (sL S (r_ref S (100 * r_t S k + 4)) i)
/-- what a thing holds: places and one -/
def rtgs (S : cS) (k : Nat) : List Nat := seqN (r_ent S k) 0 (gN (sI S (100 * r_t S k + 1))) ++ [r_opt (sI S (100 * r_t S k + 11)), r_opt (sI S (100 * r_t S k + 12))]
def r_obj (c : Int32) (x : Int64) : Prop := c = nI 3 → ∃ o, o < 1500 ∧ x.toInt32 = nI o
/-- a thing as it must be, as far as its holds go -/
def r_ok (S : cS) (k : Nat) : Prop := ∃ t N z v2 v4 n : Nat, sQ S 86 k = some t ∧ 108 ≤ t ∧ (sS S)[t - 108]? = some (13, N) ∧ sI S (100 * t + 1) = nI z ∧ sV S (100 * t + 2) = .ref v2 ∧ sV S (100 * t + 4) = .ref v4 ∧ isK S v2 0 n ∧ isK S v4 1 n ∧ z ≤ n ∧ n < 2 ^ 20 ∧ (108 ≤ v2 ∧ 108 ≤ v4) ∧ (∀ i, i < z → r_obj (sA S v2 i) (sL S v4 i)) ∧ r_lk (sI S (100 * t + 11)) ∧ r_lk (sI S (100 * t + 12))
theorem r_o_le {c : Int32} {x : Int64} (h : r_obj c x) : r_o c x ≤ 1500 := by
  unfold r_o
  by_cases hc : c = nI 3
  · obtain ⟨o, h1, h2⟩ := h hc
    rw [if_pos hc, h2, gN_nI (by omega)]
    omega
  · rw [if_neg hc]; omega
theorem r_opt_le {x : Int32} (h : r_lk x) : r_opt x ≤ 1500 := by
  rcases h with h | ⟨o, h1, h2⟩
  · rw [h, r_opt_n]; omega
  · rw [h2, r_opt_y h1]; omega
theorem r_ref_e {S : cS} {x a : Nat} (h : sV S x = .ref a) : r_ref S x = a := by
  unfold r_ref
  rw [h]
theorem r_t_e {S : cS} {k t : Nat} (h : sQ S 86 k = some t) : r_t S k = t := by
  unfold r_t
  rw [h]
  rfl
theorem rtgs_e {S : cS} {k t z v2 v4 : Nat} (hq : sQ S 86 k = some t) (hz : sI S (100 * t + 1) = nI z) (hz2 : z < 2 ^ 31) (h2 : sV S (100 * t + 2) = .ref v2) (h4 : sV S (100 * t + 4) = .ref v4) : rtgs S k = seqN (fun i => r_o (sA S v2 i) (sL S v4 i)) 0 z ++ [r_opt (sI S (100 * t + 11)), r_opt (sI S (100 * t + 12))] := by
  have e : r_ent S k = fun i => r_o (sA S v2 i) (sL S v4 i) := by
    funext i
    unfold r_ent
    rw [r_t_e hq, r_ref_e h2, r_ref_e h4]
  unfold rtgs
  rw [e, r_t_e hq, hz, gN_nI hz2]
theorem rtgs_le {S : cS} {k : Nat} (h : r_ok S k) : ∀ o, o ∈ rtgs S k → o ≤ 1500 := by
  obtain ⟨t, N, z, v2, v4, n, hq, ht, hs, hz, h2, h4, hk2, hk4, hzn, hn, hv2, ho, h11, h12⟩ := h
  intro o hm
  rw [rtgs_e hq hz (by omega) h2 h4] at hm
  rcases List.mem_append.mp hm with hm | hm
  · obtain ⟨i, _, hi, e⟩ := seqN_mem hm
    rw [e]
    exact r_o_le (ho i (by omega))
  · rcases List.mem_cons.mp hm with e | hm
    · rw [e]; exact r_opt_le h11
    · rw [List.mem_singleton.mp hm]; exact r_opt_le h12
theorem holdAll_k {d k : Nat} {b : Int32} {S : cS} (h : r_ok S k) : Ans (d + 2) 370 [.ref 61, .ref (r_t S k), .int b] S none ((rtgs S k).foldl (tK b) S) := by
  obtain ⟨t, N, z, v2, v4, n, hq, ht, hs, hz, h2, h4, hk2, hk4, hzn, hn, hv2, ho, h11, h12⟩ := h
  rw [rtgs_e hq hz (by omega) h2 h4, r_t_e hq]
  exact holdAll_ev ht hs hz h2 h4 hk2 hk4 hzn hn (fun _ _ => rfl) (fun i hi => ho i hi) (by rw [List.mem_singleton]; omega) h11 h12
theorem drop_k {d k n0 : Nat} {S : cS} {P : List Nat → cS × Nat → Prop} (hP1 : ∀ (o : Nat) (l : List Nat) (p : cS × Nat), P (o :: l) p → o ≠ 0 → sA p.1 87 (o - 1) ≠ 0 → p.2 < 1500) (hP2 : ∀ (o : Nat) (l : List Nat) (p : cS × Nat), P (o :: l) p → P l (dO p o)) (h : r_ok S k) (hp : P (rtgs S k) (S, n0)) : Ans (d + 2) 372 [.ref 61, .ref (r_t S k), .int (nI n0)] S (some (.int (nI ((rtgs S k).foldl dO (S, n0)).2))) ((rtgs S k).foldl dO (S, n0)).1 := by
  obtain ⟨t, N, z, v2, v4, n, hq, ht, hs, hz, h2, h4, hk2, hk4, hzn, hn, hv2, ho, h11, h12⟩ := h
  rw [rtgs_e hq hz (by omega) h2 h4] at hp ⊢
  rw [r_t_e hq]
  exact drop_ev hP1 hP2 ht hs hz h2 h4 hk2 hk4 hzn hn (fun _ _ => rfl) (fun i hi => ho i hi) (by
    intro hm
    rcases List.mem_cons.mp hm with e | hm
    · omega
    · rw [List.mem_singleton] at hm; omega) h11 h12 hp
/-- counts, marks and lists of what goes do not touch things -/
theorem r_ok_Fr {S S' : cS} {L1 L2 : List Nat} {k : Nat} (hF : Fr L1 L2 S S') (h1 : ∀ i, i ∈ L1 → i < 10800) (h2 : ∀ a, a ∈ L2 → a < 108) (h : r_ok S k) : r_ok S' k := by
  obtain ⟨t, N, z, v2, v4, n, hq, ht, hs, hz, e2, e4, hk2, hk4, hzn, hn, hv2, ho, h11, h12⟩ := h
  have hI : ∀ i, 10800 ≤ i → sI S' i = sI S i := fun i hi => hF.I (fun hm => by have := h1 i hm; omega)
  have hA : sA S' v2 = sA S v2 := hF.A (fun hm => by have := h2 v2 hm; omega)
  refine ⟨t, N, z, v2, v4, n, by rw [hF.2.2.2.1]; exact hq, ht, by rw [hF.2.2.2.2.1]; exact hs, by rw [hI _ (by omega)]; exact hz, by rw [hF.2.2.1]; exact e2, by rw [hF.2.2.1]; exact e4, isK_S hF.2.2.2.2.1 hk2, isK_S hF.2.2.2.2.1 hk4, hzn, hn, hv2, ?_, by rw [hI _ (by omega)]; exact h11, by rw [hI _ (by omega)]; exact h12⟩
  rw [hA, hF.2.1]
  exact ho
theorem rtgs_Fr {S S' : cS} {L1 L2 : List Nat} {k : Nat} (hF : Fr L1 L2 S S') (h1 : ∀ i, i ∈ L1 → i < 10800) (h2 : ∀ a, a ∈ L2 → a < 108) (h : r_ok S k) : rtgs S' k = rtgs S k := by
  obtain ⟨t, N, z, v2, v4, n, hq, ht, hs, hz, e2, e4, hk2, hk4, hzn, hn, hv2, ho, h11, h12⟩ := h
  have hI : ∀ i, 10800 ≤ i → sI S' i = sI S i := fun i hi => hF.I (fun hm => by have := h1 i hm; omega)
  have hA : sA S' v2 = sA S v2 := hF.A (fun hm => by have := h2 v2 hm; omega)
  rw [rtgs_e hq hz (by omega) e2 e4, rtgs_e (S := S') (by rw [hF.2.2.2.1]; exact hq) (by rw [hI _ (by omega)]; exact hz) (by omega) (by rw [hF.2.2.1]; exact e2) (by rw [hF.2.2.1]; exact e4), hA, hF.2.1, hI _ (by omega), hI _ (by omega)]
def nmL (S : cS) : List Nat := seqN (fun i => r_o (sA S (r_ref S 6103) i) (sL S (r_ref S 6104) i)) 0 (gN (sI S 6102))
def wkL (S : cS) : List Nat := seqN (fun i => r_o (sA S 91 i) (sL S 92 i)) 0 (gN (sI S 6151)) ++ seqN (fun i => r_opt (sA S 96 i)) 0 (gN (sI S 6159))
def r_nm (S : cS) : Prop := ∃ nn g3 g4 gn : Nat, sI S 6102 = nI nn ∧ sV S 6103 = .ref g3 ∧ sV S 6104 = .ref g4 ∧ isK S g3 0 gn ∧ isK S g4 1 gn ∧ nn ≤ gn ∧ gn < 2 ^ 20 ∧ g3 ∉ [87, 88, 89, 90] ∧ (∀ i, i < nn → r_obj (sA S g3 i) (sL S g4 i))
def r_wk (S : cS) : Prop := ∃ sp c : Nat, sI S 6151 = nI sp ∧ sp ≤ 20480 ∧ (∀ i, i < sp → r_obj (sA S 91 i) (sL S 92 i)) ∧ sI S 6159 = nI c ∧ c ≤ 31 ∧ (∀ i, i < c → r_lk (sA S 96 i))
def r_W (S : cS) : Prop := (∀ k, k < 1500 → sA S 87 k ≠ 0 → r_ok S k) ∧ r_nm S ∧ r_wk S
def rHeld (S : cS) (k : Nat) : Nat := sumN (fun j => if sA S 87 j = 0 then 0 else (rtgs S j).count (k + 1)) 1500
theorem r_ok_t {S : cS} {k : Nat} (h : r_ok S k) : ∃ N, sQ S 86 k = some (r_t S k) ∧ 108 ≤ r_t S k ∧ (sS S)[r_t S k - 108]? = some (13, N) := by
  obtain ⟨t, N, z, v2, v4, n, hq, ht, hs, _⟩ := h
  rw [r_t_e hq]
  exact ⟨N, hq, ht, hs⟩
theorem cn_things {d : Nat} {S0 : cS} (hW : ∀ k, k < 1500 → sA S0 87 k ≠ 0 → r_ok S0 k) {h : Nat → Nat} : ∀ (r i : Nat) (S : cS), i + r = 1500 → Fr [] [89] S0 S → (∀ k, k < 1500 → sA S 89 k = nI (h k + sumN (fun j => if sA S0 87 j = 0 then 0 else (rtgs S0 j).count (k + 1)) i)) → ∃ S', Bod (d + 2) 367 43 (sm_p1 (lv_args 0 [.ref 61]) 1 (.int (nI i))) [] S none S' ∧ Fr [] [89] S0 S' ∧ (∀ k, k < 1500 → sA S' 89 k = nI (h k + rHeld S0 k)) := by
  intro r
  induction r with
  | zero =>
    intro i S hi hF hh
    obtain rfl : i = 1500 := by omega
    exact ⟨S, cn_end rfl, hF, hh⟩
  | succ r ih =>
    intro i S hi hF hh
    by_cases he : sA S0 87 i = 0
    · obtain ⟨S', hb, hF', h'⟩ := ih (i + 1) S (by omega) hF (fun k hk => by
        rw [hh k hk]
        show nI (h k + sumN _ i) = nI (h k + (sumN _ i + (if sA S0 87 i = 0 then 0 else (rtgs S0 i).count (k + 1))))
        rw [if_pos he]
        exact congrArg nI (by omega))
      exact ⟨S', cn_dead (by omega) (by rw [hF.A (by decide)]; exact he) hb, hF', h'⟩
    · have hok0 := hW i (by omega) he
      have hok := r_ok_Fr hF (fun _ h => by cases h) (fun a h => by rw [List.mem_singleton] at h; omega) hok0
      have htg := rtgs_Fr hF (fun _ h => by cases h) (fun a h => by rw [List.mem_singleton] at h; omega) hok0
      obtain ⟨N, q1, q2, q3⟩ := r_ok_t hok
      obtain ⟨S', hb, hF', h'⟩ := ih (i + 1) ((rtgs S i).foldl (tK (nI 1)) S) (by omega) (hF.trans (tK_fold _ _ _)) (fun k hk => by
        rw [hold_add (rtgs_le hok) hh hk, htg]
        show nI (h k + sumN _ i + (rtgs S0 i).count (k + 1)) = nI (h k + (sumN _ i + (if sA S0 87 i = 0 then 0 else (rtgs S0 i).count (k + 1))))
        rw [if_neg he, Nat.add_assoc])
      exact ⟨S', cn_live (by omega) (by rw [hF.A (by decide)]; exact he) q1 q2 q3 (holdAll_k hok) hb, hF', h'⟩
theorem seqN_le {f : Nat → Nat} {i r : Nat} (h : ∀ j, i ≤ j → j < i + r → f j ≤ 1500) : ∀ o, o ∈ seqN f i r → o ≤ 1500 := fun o hm => by
  obtain ⟨j, h1, h2, e⟩ := seqN_mem hm
  rw [e]
  exact h j h1 h2
theorem countNames_ev {d : Nat} {S : cS} (hW : r_W S) : ∃ S', Ans (d + 3) 367 [.ref 61] S none S' ∧ Fr [] [89] S S' ∧ (∀ k, k < 1500 → sA S' 89 k = nI ((nmL S).count (k + 1) + rHeld S k)) := by
  obtain ⟨hok, ⟨nn, g3, g4, gn, h1, h2, h3, h4, h5, h6, h7, h8, h9⟩, _⟩ := hW
  obtain ⟨S1, hF0, hF1, hz⟩ := fill89_ev (d := d) (v := nI 0) (S := S)
  have hne : g3 ∉ [89] := fun hm => h8 (by rw [List.mem_singleton] at hm; rw [hm]; decide)
  have eL : nmL S = seqN (fun i => r_o (sA S g3 i) (sL S g4 i)) 0 nn := by
    unfold nmL
    rw [r_ref_e h2, r_ref_e h3, h1, gN_nI (by omega)]
  obtain ⟨S2, hb, hF2, hh⟩ := cn_things (d := d) hok (h := fun k => (nmL S).count (k + 1)) 1500 0 ((seqN (fun i => r_o (sA S g3 i) (sL S g4 i)) 0 nn).foldl (tK (nI 1)) S1) (by omega) (hF1.trans (tK_fold _ _ _)) (fun k hk => by
    rw [hold_add (h := fun _ => 0) (seqN_le (fun j _ hj => r_o_le (h9 j (by omega)))) (fun q hq => hz q hq) hk, eL]
    show nI (0 + _) = nI (_ + 0)
    exact congrArg nI (by omega))
  exact ⟨S2, cn_in hF0 (cn_names h1 h2 h3 h4 h5 h6 h7 hne (fun _ _ => rfl) h9 nn 0 S1 (by omega) hF1 hb), hF2, hh⟩
theorem countWork_ev {d : Nat} {S : cS} {h : Nat → Nat} (hW : r_wk S) (hh : ∀ k, k < 1500 → sA S 89 k = nI (h k)) : ∃ S', Ans (d + 2) 371 [.ref 61, .int (nI 1)] S none S' ∧ Fr [] [89] S S' ∧ (∀ k, k < 1500 → sA S' 89 k = nI (h k + (wkL S).count (k + 1))) := by
  obtain ⟨sp, c, h1, h2, h3, h4, h5, h6⟩ := hW
  have eL : wkL S = seqN (fun i => r_o (sA S 91 i) (sL S 92 i)) 0 sp ++ seqN (fun i => r_opt (sA S 96 i)) 0 c := by
    unfold wkL
    rw [h1, h4, gN_nI (by omega), gN_nI (by omega)]
  refine ⟨_, cw_in (cw_stack (f := fun i => r_o (sA S 91 i) (sL S 92 i)) h1 h2 (fun _ _ => rfl) h3 sp 0 S (by omega) (Fr.refl _ _ _) (cw_calls (S0 := S) h4 h5 h6 c 0 _ (by omega) (tK_fold _ _ _))), (tK_fold _ _ _).trans (tK_fold _ _ _), fun k hk => ?_⟩
  rw [hold_add (h := fun k => h k + (seqN (fun i => r_o (sA S 91 i) (sL S 92 i)) 0 sp).count (k + 1)) (seqN_le (fun j _ hj => r_opt_le (h6 j (by omega)))) (fun q hq => hold_add (seqN_le (fun j _ hj => r_o_le (h3 j (by omega)))) hh hq) hk, eL, List.count_append]
  exact congrArg nI (by omega)
