/-! COMPARISONS of ints that are told as numbers; array rules at such places -/
theorem k2_ge_T {x y : Int32} (a b : Nat) (ex : x = nI a) (ey : y = nI b) (h : b ≤ a) (hM : a < 2 ^ 31) : sm_c2 .ge x y true false = true := by subst ex ey; exact if_pos (nI_le h hM)
theorem k2_ge_F {x y : Int32} (a b : Nat) (ex : x = nI a) (ey : y = nI b) (h : a < b) (hM : b < 2 ^ 31) : sm_c2 .ge x y true false = false := by subst ex ey; exact if_neg (nI_ge h hM)
theorem k2_lt_T {x y : Int32} (a b : Nat) (ex : x = nI a) (ey : y = nI b) (h : a < b) (hM : b < 2 ^ 31) : sm_c2 .lt x y true false = true := by subst ex ey; exact if_pos (nI_lt h hM)
theorem k2_lt_F {x y : Int32} (a b : Nat) (ex : x = nI a) (ey : y = nI b) (h : b ≤ a) (hM : a < 2 ^ 31) : sm_c2 .lt x y true false = false := by subst ex ey; exact if_neg (nI_nlt h hM)
theorem k2_gt_T {x y : Int32} (a b : Nat) (ex : x = nI a) (ey : y = nI b) (h : b < a) (hM : a < 2 ^ 31) : sm_c2 .gt x y true false = true := by subst ex ey; exact if_pos (nI_lt h hM)
theorem k2_gt_F {x y : Int32} (a b : Nat) (ex : x = nI a) (ey : y = nI b) (h : a ≤ b) (hM : b < 2 ^ 31) : sm_c2 .gt x y true false = false := by subst ex ey; exact if_neg (nI_nlt h hM)
theorem k2_le_T {x y : Int32} (a b : Nat) (ex : x = nI a) (ey : y = nI b) (h : a ≤ b) (hM : b < 2 ^ 31) : sm_c2 .le x y true false = true := by subst ex ey; exact if_pos (nI_le h hM)
theorem k2_le_F {x y : Int32} (a b : Nat) (ex : x = nI a) (ey : y = nI b) (h : b < a) (hM : a < 2 ^ 31) : sm_c2 .le x y true false = false := by subst ex ey; exact if_neg (nI_ge h hM)
theorem k2_eq_T {x y : Int32} (h : x = y) : sm_c2 .eq x y true false = true := if_pos h
theorem k2_eq_F {x y : Int32} (h : x ≠ y) : sm_c2 .eq x y true false = false := if_neg h
theorem k2_ne_T {x y : Int32} (h : x ≠ y) : sm_c2 .ne x y true false = true := if_neg h
theorem k2_ne_F {x y : Int32} (h : x = y) : sm_c2 .ne x y true false = false := if_pos h
theorem k1_lt_F {x : Int32} (a : Nat) (ex : x = nI a) (hM : a < 2 ^ 31) : sm_c1 .lt x true false = false := by subst ex; exact if_neg (nI_pos hM)
theorem k1_ge_T {x : Int32} (a : Nat) (ex : x = nI a) (hM : a < 2 ^ 31) : sm_c1 .ge x true false = true := by subst ex; exact if_pos (nI_pos' hM)
theorem k1_eq_T {x : Int32} (h : x = 0) : sm_c1 .eq x true false = true := if_pos h
theorem k1_eq_F {x : Int32} (h : x ≠ 0) : sm_c1 .eq x true false = false := if_neg h
theorem k1_ne_T {x : Int32} (h : x ≠ 0) : sm_c1 .ne x true false = true := if_neg h
theorem k1_ne_F {x : Int32} (h : x = 0) : sm_c1 .ne x true false = false := if_pos h
theorem k1_gt_T {x : Int32} (a : Nat) (ex : x = nI a) (h : 0 < a) (hM : a < 2 ^ 31) : sm_c1 .gt x true false = true := by subst ex; exact if_pos (nI_lt (a := 0) h hM)
theorem k1_gt_F {x : Int32} (ex : x = 0) : sm_c1 .gt x true false = false := by subst ex; decide
theorem k1_le_T {x : Int32} (ex : x = 0) : sm_c1 .le x true false = true := by subst ex; decide
theorem k1_le_F {x : Int32} (a : Nat) (ex : x = nI a) (h : 0 < a) (hM : a < 2 ^ 31) : sm_c1 .le x true false = false := by subst ex; exact if_neg (nI_nle h hM)
variable {d j pc k pc1 : Nat} {lv lv1 : sm_L} {st st1 r : List Value} {S S1 Sf : cS} {v : Option Value} {i : Instr}
theorem Bod.ialdN {a N : Nat} {f : Nat → Int32} {x : Int32} (m : Nat) (ex : x = nI m) (hm : m < N) (hN : N < 2 ^ 31) (hd : decode (sm_cc j) pc = .ok (.iaload, 1)) (hc : (mk S)[a]? = some (.inl (0, N, .inl f))) (h : Bod d j (pc + 1) lv (.int (f m) :: st) S v Sf) : Bod d j pc lv (.int x :: .ref a :: st) S v Sf := by
  subst ex
  refine Bod.iald hd hc (nI_in hm hN) ?_
  rw [nI_clamp (by omega)]
  exact h
theorem Bod.baldN {a N t : Nat} {f : Nat → Int32} {x : Int32} (m : Nat) (ex : x = nI m) (hm : m < N) (hN : N < 2 ^ 31) (hd : decode (sm_cc j) pc = .ok (.baload, 1)) (hc : (mk S)[a]? = some (.inl (t, N, .inl f))) (ht : t = 2 ∨ t = 3) (h : Bod d j (pc + 1) lv (.int (f m) :: st) S v Sf) : Bod d j pc lv (.int x :: .ref a :: st) S v Sf := by
  subst ex
  refine Bod.bald hd hc ht (nI_in hm hN) ?_
  rw [nI_clamp (by omega)]
  exact h
theorem Bod.laldN {a N : Nat} {f : Nat → Int64} {x : Int32} (m : Nat) (ex : x = nI m) (hm : m < N) (hN : N < 2 ^ 31) (hd : decode (sm_cc j) pc = .ok (.laload, 1)) (hc : (mk S)[a]? = some (.inl (1, N, .inr (.inl f)))) (h : Bod d j (pc + 1) lv (.long (f m) :: st) S v Sf) : Bod d j pc lv (.int x :: .ref a :: st) S v Sf := by
  subst ex
  refine Bod.lald hd hc (nI_in hm hN) ?_
  rw [nI_clamp (by omega)]
  exact h
theorem Bod.aaldN {a N t : Nat} {f : Nat → Option Nat} {x : Int32} (m : Nat) (ex : x = nI m) (hm : m < N) (hN : N < 2 ^ 31) (hd : decode (sm_cc j) pc = .ok (.aaload, 1)) (hc : (mk S)[a]? = some (.inl (t, N, .inr (.inr (.inr (.inr f)))))) (ht : 4 ≤ t ∧ t < mt_el.length) (h : Bod d j (pc + 1) lv (va_rf (f m) :: st) S v Sf) : Bod d j pc lv (.int x :: .ref a :: st) S v Sf := by
  subst ex
  refine Bod.aald hd hc ht (nI_in hm hN) ?_
  rw [nI_clamp (by omega)]
  exact h
theorem Bod.iastN {a N : Nat} {f : Nat → Int32} {x y : Int32} (m : Nat) (ex : x = nI m) (hm : m < N) (hN : N < 2 ^ 31) (hd : decode (sm_cc j) pc = .ok (.iastore, 1)) (hc : (mk S)[a]? = some (.inl (0, N, .inl f))) (hs : (mk S).set a (.inl (0, N, .inl (upd f m y))) = mk S1) (hu : mu S1 = mu S) (h : Bod d j (pc + 1) lv st S1 v Sf) : Bod d j pc lv (.int y :: .int x :: .ref a :: st) S v Sf := by
  subst ex
  exact Bod.iast hd hc (nI_in hm hN) (by rw [nI_clamp (by omega)]; exact hs) hu h
theorem Bod.bastN {a N : Nat} {f : Nat → Int32} {x y : Int32} (m : Nat) (ex : x = nI m) (hm : m < N) (hN : N < 2 ^ 31) (hd : decode (sm_cc j) pc = .ok (.bastore, 1)) (hc : (mk S)[a]? = some (.inl (2, N, .inl f))) (hs : (mk S).set a (.inl (2, N, .inl (upd f m (vp_nar .byte y)))) = mk S1) (hu : mu S1 = mu S) (h : Bod d j (pc + 1) lv st S1 v Sf) : Bod d j pc lv (.int y :: .int x :: .ref a :: st) S v Sf := by
  subst ex
  exact Bod.bast hd hc (nI_in hm hN) (by rw [nI_clamp (by omega)]; exact hs) hu h
theorem Bod.lastN {a N : Nat} {f : Nat → Int64} {x : Int32} {y : Int64} (m : Nat) (ex : x = nI m) (hm : m < N) (hN : N < 2 ^ 31) (hd : decode (sm_cc j) pc = .ok (.lastore, 1)) (hc : (mk S)[a]? = some (.inl (1, N, .inr (.inl f)))) (hs : (mk S).set a (.inl (1, N, .inr (.inl (vp_updL f m y)))) = mk S1) (hu : mu S1 = mu S) (h : Bod d j (pc + 1) lv st S1 v Sf) : Bod d j pc lv (.long y :: .int x :: .ref a :: st) S v Sf := by
  subst ex
  exact Bod.last hd hc (nI_in hm hN) (by rw [nI_clamp (by omega)]; exact hs) hu h
theorem Bod.sw {X : Instr} {n t : Nat} {x : Int32} (hd : decode (sm_cc j) pc = .ok (X, n)) (ho : sm_ops X (.int x :: st) = none) (hl : sm_loc (sm_ml j) X lv (.int x :: st) = none) (ht : sm_br X n pc (.int x :: st) = some (t, st)) (h : Bod d j t lv st S v Sf) : Bod d j pc lv (.int x :: st) S v Sf := Bod.of (fun _ _ => sx_go hd (sd_br ho hl ht)) h
theorem nI_at (n : Nat) : Int32.ofNat n = nI n := rfl
/-- reads behind writes -/
theorem rI (k : Nat) (x : Int32) (S : cS) (i : Nat) : sI (wI k x S) i = if i = k then x else sI S i := rfl
theorem rIe (k : Nat) (x : Int32) (S : cS) : sI (wI k x S) k = x := if_pos rfl
theorem rIn {k : Nat} (x : Int32) (S : cS) {i : Nat} (h : i ≠ k) : sI (wI k x S) i = sI S i := if_neg h
theorem rAe (a i : Nat) (x : Int32) (S : cS) : sA (wA a i x S) a = upd (sA S a) i x := if_pos rfl
theorem rAn {a : Nat} (i : Nat) (x : Int32) (S : cS) {b : Nat} (h : b ≠ a) : sA (wA a i x S) b = sA S b := if_neg h
theorem rLe (a i : Nat) (x : Int64) (S : cS) : sL (wL a i x S) a = vp_updL (sL S a) i x := if_pos rfl
theorem rLn {a : Nat} (i : Nat) (x : Int64) (S : cS) {b : Nat} (h : b ≠ a) : sL (wL a i x S) b = sL S b := if_neg h
theorem Bod.putI {q k1 ci fk a ho w : Nat} {x y : Int32} {fs : List Value} (ex : x = y) (hd : decode (sm_cc j) pc = .ok (.putfield q, 3)) (hf : sm_at mt_f (sm_ow j) q = some (k1, ci, fk, ho, w)) (hc : (mk S)[a]? = some (.inr (ci, fs))) (hk : fk < fs.length) (ht : fk < (sm_T ci).2.2 ∧ sm_fit (sm_ty ci fk) (.int y) = true ∧ ((sm_T ci).2.1 fk).2.2.2 = false) (hs : (mk S).set a (.inr (ci, fs.set fk (.int y))) = mk S1) (hu : mu S1 = mu S) (h : Bod d j (pc + 3) lv st S1 v Sf) : Bod d j pc lv (.int x :: .ref a :: st) S v Sf := by
  subst ex
  exact Bod.put hd hf hc hk ht hs hu h
theorem Bod.retIE {x y : Int32} (ex : x = y) (hd : decode (sm_cc j) pc = .ok (.ireturn, 1)) (hr : sm_rt j = some .int) : Bod d j pc lv [.int x] S (some (.int y)) S := by
  subst ex
  exact Bod.retI hd hr
theorem rJI (a : Nat) (x : Int64) (S : cS) (k : Nat) : sI (wJ a x S) k = sI S k := rfl
theorem rAI (a i : Nat) (x : Int32) (S : cS) (k : Nat) : sI (wA a i x S) k = sI S k := rfl
theorem rLI (a i : Nat) (x : Int64) (S : cS) (k : Nat) : sI (wL a i x S) k = sI S k := rfl
theorem rIJ (a : Nat) (x : Int32) (S : cS) (k : Nat) : sJ (wI a x S) k = sJ S k := rfl
theorem rAJ (a i : Nat) (x : Int32) (S : cS) (k : Nat) : sJ (wA a i x S) k = sJ S k := rfl
theorem rLJ (a i : Nat) (x : Int64) (S : cS) (k : Nat) : sJ (wL a i x S) k = sJ S k := rfl
theorem rIA (a : Nat) (x : Int32) (S : cS) (k : Nat) : sA (wI a x S) k = sA S k := rfl
theorem rJA (a : Nat) (x : Int64) (S : cS) (k : Nat) : sA (wJ a x S) k = sA S k := rfl
theorem rLA (a i : Nat) (x : Int64) (S : cS) (k : Nat) : sA (wL a i x S) k = sA S k := rfl
theorem rIL (a : Nat) (x : Int32) (S : cS) (k : Nat) : sL (wI a x S) k = sL S k := rfl
theorem rJL (a : Nat) (x : Int64) (S : cS) (k : Nat) : sL (wJ a x S) k = sL S k := rfl
theorem rAL (a i : Nat) (x : Int32) (S : cS) (k : Nat) : sL (wA a i x S) k = sL S k := rfl
/-- ints that are numbers, on the stack -/
theorem Bod.ic {c : Int} (n : Nat) (e : Int32.ofInt c = nI n) (hd : decode (sm_cc j) pc = .ok (.iconst c, 1)) (h : Bod d j (pc + 1) lv (.int (nI n) :: st) S v Sf) : Bod d j pc lv st S v Sf := Bod.go hd rfl (by rw [e]; exact h)
theorem Bod.bip {c : Int} (n : Nat) (e : (Int8.ofInt c).toInt32 = nI n) (hd : decode (sm_cc j) pc = .ok (.bipush c, 2)) (h : Bod d j (pc + 2) lv (.int (nI n) :: st) S v Sf) : Bod d j pc lv st S v Sf := Bod.go hd rfl (by rw [e]; exact h)
theorem Bod.sip {c : Int} (n : Nat) (e : (Int16.ofInt c).toInt32 = nI n) (hd : decode (sm_cc j) pc = .ok (.sipush c, 3)) (h : Bod d j (pc + 3) lv (.int (nI n) :: st) S v Sf) : Bod d j pc lv st S v Sf := Bod.go hd rfl (by rw [e]; exact h)
theorem Bod.ldcN {q k1 w : Nat} {x : Int32} (n : Nat) (e : x = nI n) (hd : decode (sm_cc j) pc = .ok (.ldc q, 2)) (hk : sm_at mt_ci (sm_ow j) q = some (k1, x, w)) (h : Bod d j (pc + 2) lv (.int (nI n) :: st) S v Sf) : Bod d j pc lv st S v Sf := by
  subst e
  exact Bod.ldc hd hk h
theorem Bod.addN {a b : Nat} (m : Nat) (e : a + b = m) (hd : decode (sm_cc j) pc = .ok (.iadd, 1)) (h : Bod d j (pc + 1) lv (.int (nI m) :: st) S v Sf) : Bod d j pc lv (.int (nI b) :: .int (nI a) :: st) S v Sf := Bod.go hd rfl (by rw [nI_add, e]; exact h)
theorem Bod.subN {a b : Nat} (m : Nat) (hb : b ≤ a) (e : a - b = m) (hd : decode (sm_cc j) pc = .ok (.isub, 1)) (h : Bod d j (pc + 1) lv (.int (nI m) :: st) S v Sf) : Bod d j pc lv (.int (nI b) :: .int (nI a) :: st) S v Sf := Bod.go hd rfl (by rw [pk_sub hb, e]; exact h)
theorem Bod.mulN {a b : Nat} (m : Nat) (e : a * b = m) (hd : decode (sm_cc j) pc = .ok (.imul, 1)) (h : Bod d j (pc + 1) lv (.int (nI m) :: st) S v Sf) : Bod d j pc lv (.int (nI b) :: .int (nI a) :: st) S v Sf := Bod.go hd rfl (by rw [pk_mul, e]; exact h)
theorem Bod.incN {q : Nat} {c : Int} {a : Nat} (m : Nat) (e : nI a + Int32.ofInt c = nI m) (hd : decode (sm_cc j) pc = .ok (.iinc q c, 3)) (hl : q < sm_ml j) (hg : sm_get lv q = some (.int (nI a))) (h : Bod d j (pc + 3) (sm_p1 lv q (.int (nI m))) st S v Sf) : Bod d j pc lv st S v Sf := Bod.inc hd hl hg (by rw [e]; exact h)
theorem Bod.eqI {x : Int32} (y : Int32) (e : x = y) (h : Bod d j pc lv (.int y :: st) S v Sf) : Bod d j pc lv (.int x :: st) S v Sf := by
  subst e
  exact h
theorem Bod.eqJ {x : Int64} (y : Int64) (e : x = y) (h : Bod d j pc lv (.long y :: st) S v Sf) : Bod d j pc lv (.long x :: st) S v Sf := by
  subst e
  exact h
theorem Bod.eqS {S2 : cS} (e : S = S2) (h : Bod d j pc lv st S2 v Sf) : Bod d j pc lv st S v Sf := by
  subst e
  exact h
/-- references in arrays; lengths as numbers -/
theorem Bod.aaldR {a N t b : Nat} {f : Nat → Option Nat} {x : Int32} (m : Nat) (ex : x = nI m) (hm : m < N) (hN : N < 2 ^ 31) (hq : f m = some b) (hd : decode (sm_cc j) pc = .ok (.aaload, 1)) (hc : (mk S)[a]? = some (.inl (t, N, .inr (.inr (.inr (.inr f)))))) (ht : 4 ≤ t ∧ t < mt_el.length) (h : Bod d j (pc + 1) lv (.ref b :: st) S v Sf) : Bod d j pc lv (.int x :: .ref a :: st) S v Sf := Bod.aaldN m ex hm hN hd hc ht (by rw [hq]; exact h)
theorem Bod.aald0 {a N t : Nat} {f : Nat → Option Nat} {x : Int32} (m : Nat) (ex : x = nI m) (hm : m < N) (hN : N < 2 ^ 31) (hq : f m = none) (hd : decode (sm_cc j) pc = .ok (.aaload, 1)) (hc : (mk S)[a]? = some (.inl (t, N, .inr (.inr (.inr (.inr f)))))) (ht : 4 ≤ t ∧ t < mt_el.length) (h : Bod d j (pc + 1) lv (.null :: st) S v Sf) : Bod d j pc lv (.int x :: .ref a :: st) S v Sf := Bod.aaldN m ex hm hN hd hc ht (by rw [hq]; exact h)
theorem Bod.alenN {a t N : Nat} {f : (Nat → Int32) ⊕ (Nat → Int64) ⊕ (Nat → UInt32) ⊕ (Nat → UInt64) ⊕ (Nat → Option Nat)} (hd : decode (sm_cc j) pc = .ok (.arraylength, 1)) (hc : (mk S)[a]? = some (.inl (t, N, f))) (ht : t < mt_el.length) (h : Bod d j (pc + 1) lv (.int (nI N) :: st) S v Sf) : Bod d j pc lv (.ref a :: st) S v Sf := Bod.alen hd hc ht h
theorem el_1 : 1 < mt_el.length := by decide +kernel
theorem rA (a i : Nat) (x : Int32) (S : cS) (b : Nat) : sA (wA a i x S) b = if b = a then upd (sA S a) i x else sA S b := rfl
theorem upd_at (f : Nat → Int32) (k : Nat) (x : Int32) (j : Nat) : upd f k x j = if j = k then x else f j := rfl
theorem rL (a i : Nat) (x : Int64) (S : cS) (b : Nat) : sL (wL a i x S) b = if b = a then vp_updL (sL S a) i x else sL S b := rfl
theorem sx_zast {X : Option (Nat × (Nat → Int32))} {cal : Nat → List Value → sm_H → Nat → Option sm_R} {n u : Nat} {σ : sm_H} {a N : Nat} {f : Nat → Int32} {x y : Int32} (hd : decode (sm_cc j) pc = .ok (.bastore, 1)) (hc : σ[a]? = some (.inl (3, N, .inl f))) (hi : ¬ (x < 0 ∨ N ≤ x.toNatClampNeg)) : sm_run X cal j (n + 1) (pc, lv, .int y :: .int x :: .ref a :: st, σ, u) = sm_run X cal j n (pc + 1, lv, st, σ.set a (.inl (3, N, .inl (upd f x.toNatClampNeg (vp_nar .boolean y)))), u) := sx_go hd (sd_wr rfl rfl rfl rfl (by
  unfold sm_wr
  simp only [hc, if_neg (show ¬ (3 : Nat) = 2 by decide), if_true, if_neg hi]))
theorem Bod.zastN {a N : Nat} {f : Nat → Int32} {x y : Int32} (m : Nat) (ex : x = nI m) (hm : m < N) (hN : N < 2 ^ 31) (hd : decode (sm_cc j) pc = .ok (.bastore, 1)) (hc : (mk S)[a]? = some (.inl (3, N, .inl f))) (hs : (mk S).set a (.inl (3, N, .inl (upd f m (vp_nar .boolean y)))) = mk S1) (hu : mu S1 = mu S) (h : Bod d j (pc + 1) lv st S1 v Sf) : Bod d j pc lv (.int y :: .int x :: .ref a :: st) S v Sf := by
  subst ex
  refine Bod.of (fun cal n => (sx_zast hd hc (nI_in hm hN)).trans ?_) h
  rw [nI_clamp (by omega), hs, hu]
theorem rIQ (a : Nat) (x : Int32) (S : cS) : sQ (wI a x S) = sQ S := rfl
theorem rIV (a : Nat) (x : Int32) (S : cS) : sV (wI a x S) = sV S := rfl
theorem rIS (a : Nat) (x : Int32) (S : cS) : sS (wI a x S) = sS S := rfl
theorem rJQ (a : Nat) (x : Int64) (S : cS) : sQ (wJ a x S) = sQ S := rfl
theorem rJV (a : Nat) (x : Int64) (S : cS) : sV (wJ a x S) = sV S := rfl
theorem rJS (a : Nat) (x : Int64) (S : cS) : sS (wJ a x S) = sS S := rfl
theorem rAQ (a i : Nat) (x : Int32) (S : cS) : sQ (wA a i x S) = sQ S := rfl
theorem rAV (a i : Nat) (x : Int32) (S : cS) : sV (wA a i x S) = sV S := rfl
theorem rAS (a i : Nat) (x : Int32) (S : cS) : sS (wA a i x S) = sS S := rfl
theorem rLQ (a i : Nat) (x : Int64) (S : cS) : sQ (wL a i x S) = sQ S := rfl
theorem rLV (a i : Nat) (x : Int64) (S : cS) : sV (wL a i x S) = sV S := rfl
theorem rLS (a i : Nat) (x : Int64) (S : cS) : sS (wL a i x S) = sS S := rfl
theorem rVI (a : Nat) (x : Value) (S : cS) : sI (wV a x S) = sI S := rfl
theorem rVJ (a : Nat) (x : Value) (S : cS) : sJ (wV a x S) = sJ S := rfl
theorem rVA (a : Nat) (x : Value) (S : cS) : sA (wV a x S) = sA S := rfl
theorem rVL (a : Nat) (x : Value) (S : cS) : sL (wV a x S) = sL S := rfl
theorem rVQ (a : Nat) (x : Value) (S : cS) : sQ (wV a x S) = sQ S := rfl
theorem rVS (a : Nat) (x : Value) (S : cS) : sS (wV a x S) = sS S := rfl
theorem rQI (a i : Nat) (x : Option Nat) (S : cS) : sI (wQ a i x S) = sI S := rfl
theorem rQJ (a i : Nat) (x : Option Nat) (S : cS) : sJ (wQ a i x S) = sJ S := rfl
theorem rQA (a i : Nat) (x : Option Nat) (S : cS) : sA (wQ a i x S) = sA S := rfl
theorem rQL (a i : Nat) (x : Option Nat) (S : cS) : sL (wQ a i x S) = sL S := rfl
theorem rQV (a i : Nat) (x : Option Nat) (S : cS) : sV (wQ a i x S) = sV S := rfl
theorem rQS (a i : Nat) (x : Option Nat) (S : cS) : sS (wQ a i x S) = sS S := rfl
theorem rQ (a i : Nat) (x : Option Nat) (S : cS) (b : Nat) : sQ (wQ a i x S) b = if b = a then va_up (sQ S a) i x else sQ S b := rfl
/-! what is written twice, or as it was -/
theorem wI_same {k : Nat} {x : Int32} {S : cS} (h : sI S k = x) : wI k x S = S := by
  unfold wI
  have e : upd (sI S) k x = sI S := funext (fun i => by
    by_cases hi : i = k
    · rw [hi, pk_us, h]
    · rw [pk_un hi])
  rw [e]
  rfl
theorem wI_wI (k : Nat) (x y : Int32) (S : cS) : wI k x (wI k y S) = wI k x S := by
  unfold wI
  have e : upd (sI (upd (sI S) k y, S.2)) k x = upd (sI S) k x := funext (fun i => by
    by_cases hi : i = k
    · rw [hi, pk_us, pk_us]
    · rw [pk_un hi, pk_un hi]
      exact pk_un hi)
  rw [e]
theorem wI_comm {k q : Nat} (x y : Int32) (S : cS) (h : k ≠ q) : wI k x (wI q y S) = wI q y (wI k x S) := by
  have e : upd (upd (sI S) q y) k x = upd (upd (sI S) k x) q y := funext (fun i => by
    by_cases hi : i = k
    · rw [hi, pk_us, pk_un h, pk_us]
    · by_cases hj : i = q
      · rw [hj, pk_un (fun e => h e.symm), pk_us, pk_us]
      · rw [pk_un hi, pk_un hj, pk_un hj, pk_un hi])
  show (upd (upd (sI S) q y) k x, S.2) = (upd (upd (sI S) k x) q y, S.2)
  rw [e]
theorem filter_filter_self {α : Type} (p : α → Bool) (l : List α) : (l.filter p).filter p = l.filter p := by
  rw [List.filter_filter]
  congr 1
  funext x
  cases p x <;> rfl
theorem sm_p1_p1 (lv : sm_L) (q : Nat) (x y : Value) : sm_p1 (sm_p1 lv q x) q y = sm_p1 lv q y := by
  unfold sm_p1
  rw [List.filter_cons]
  have h : (!((q, x).1 == q) && !((q, x).1 + 1 == q && (q, x).2.category == 2)) = false := by simp
  rw [h]
  simp only [Bool.false_eq_true, if_false]
  rw [filter_filter_self]
