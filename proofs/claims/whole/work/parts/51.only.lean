/-! A LONE NAME on the tape: what onlyName answers -/
theorem only_al {S : cS} {n x m : Nat} : c_al (c_only m S) n x ↔ c_al S n x := Iff.rfl
theorem only_nmH {S : cS} {n M : Nat} : c_nmH (c_only n S) 0 M = c_nmH S 0 M := by
  unfold c_only
  rw [c_nmH_I, c_nmH_I, c_nmH_I, c_nmH_I]
theorem only_nmL {S : cS} {n M : Nat} : c_nmL (c_only n S) 0 M = c_nmL S 0 M := by
  unfold c_only
  rw [c_nmL_I, c_nmL_I, c_nmL_I, c_nmL_I]
theorem only_NT {S : cS} {n z : Nat} (h : c_NT S z) : c_NT (c_only n S) z := NT_I (by decide) (NT_I (by decide) (NT_I (by decide) (NT_I (by decide) h)))
theorem only_is {S : cS} {n i : Nat} {hi lo : Int64} : c_is (c_only n S) hi lo i ↔ c_is S hi lo i := Iff.rfl
theorem only_n (n : Nat) (S : cS) : sI (c_only n S) 3102 = nI n := by
  unfold c_only
  rw [rIn _ _ (by decide), rIn _ _ (by decide), rIn _ _ (by decide), rIe]
theorem only_p (n : Nat) (S : cS) : sI (c_only n S) 3103 = nI 0 := by
  unfold c_only
  rw [rIn _ _ (by decide), rIn _ _ (by decide), rIe]
theorem only_s (n : Nat) (S : cS) : sI (c_only n S) 3104 = nI 0 := by
  unfold c_only
  rw [rIn _ _ (by decide), rIe]
/-- a word of the language that the tape begins with -/
theorem name_word {d n M z q : Nat} {S : cS} (h2 : n ≤ 12) (hM1 : 1 ≤ M) (hMn : M ≤ n) (ha : ∀ x, x < M → c_al S n x) (he : ¬ c_al S n M) (hl : c_let (c_byte S 0) = true) (hN : c_NT S z) (hz : z < 4096) (hq : q < z) (h24 : q < 24) (hi : c_is S (c_nmH S 0 M) (c_nmL S 0 M) q) : Ans (d + 4) 279 [.ref 31, .int (nI n)] S (some (.int (Int32.ofInt (-1)))) (wI 3105 (nI (q + 40)) (wI 3109 (nI q) (wI 3103 (nI (0 + M)) (c_only n S)))) :=
  onlyName_word (by omega) h2 rfl (c_byte_eq S 0).2 hl (readName_word (by omega) hM1 (by omega) (only_n n S) (only_s n S) (only_p n S) (by omega) (fun x hx => by rw [Nat.zero_add, only_al]; exact ha x hx) (by rw [Nat.zero_add, only_al]; exact he) (only_NT hN) hz hq h24 (by rw [only_nmH, only_nmL, only_is]; exact hi)) (rIe _ _ _) (by omega) (by omega)
/-- a known name, alone -/
theorem name_known {d n z q : Nat} {S : cS} (h2 : n ≤ 12) (hM1 : 1 ≤ n) (ha : ∀ x, x < n → c_al S n x) (hl : c_let (c_byte S 0) = true) (hN : c_NT S z) (hz : z < 4096) (hq : q < z) (h24 : 24 ≤ q) (hi : c_is S (c_nmH S 0 n) (c_nmL S 0 n) q) : Ans (d + 4) 279 [.ref 31, .int (nI n)] S (some (.int (nI q))) (wI 3105 (nI 3) (wI 3109 (nI q) (wI 3103 (nI (0 + n)) (c_only n S)))) :=
  onlyName_yes (by omega) h2 rfl (c_byte_eq S 0).2 hl (readName_known (by omega) hM1 (by omega) (only_n n S) (only_s n S) (only_p n S) (by omega) (fun x hx => by rw [Nat.zero_add, only_al]; exact ha x hx) (by rw [Nat.zero_add, only_al]; exact fun h => by have := h.1; omega) (only_NT hN) hz hq h24 (by rw [only_nmH, only_nmL, only_is]; exact hi)) (rIe _ _ _) ((rIn _ _ (by decide)).trans ((rIn _ _ (by decide)).trans ((rIe _ _ _).trans (by rw [Nat.zero_add])))) ((rIn _ _ (by decide)).trans ((rIn _ _ (by decide)).trans ((rIn _ _ (by decide)).trans (only_n n S)))) ((rIn _ _ (by decide)).trans (rIe _ _ _))
/-- a known name, and more behind it -/
theorem name_part {d n M z q : Nat} {S : cS} (h2 : n ≤ 12) (hM1 : 1 ≤ M) (hMn : M < n) (ha : ∀ x, x < M → c_al S n x) (he : ¬ c_al S n M) (hl : c_let (c_byte S 0) = true) (hN : c_NT S z) (hz : z < 4096) (hq : q < z) (h24 : 24 ≤ q) (hi : c_is S (c_nmH S 0 M) (c_nmL S 0 M) q) : Ans (d + 4) 279 [.ref 31, .int (nI n)] S (some (.int (Int32.ofInt (-1)))) (wI 3105 (nI 3) (wI 3109 (nI q) (wI 3103 (nI (0 + M)) (c_only n S)))) :=
  onlyName_part (q := M) (by omega) h2 rfl (c_byte_eq S 0).2 hl (readName_known (by omega) hM1 (by omega) (only_n n S) (only_s n S) (only_p n S) (by omega) (fun x hx => by rw [Nat.zero_add, only_al]; exact ha x hx) (by rw [Nat.zero_add, only_al]; exact he) (only_NT hN) hz hq h24 (by rw [only_nmH, only_nmL, only_is]; exact hi)) (rIe _ _ _) ((rIn _ _ (by decide)).trans ((rIn _ _ (by decide)).trans ((rIe _ _ _).trans (by rw [Nat.zero_add])))) ((rIn _ _ (by decide)).trans ((rIn _ _ (by decide)).trans ((rIn _ _ (by decide)).trans (only_n n S)))) (by omega)
