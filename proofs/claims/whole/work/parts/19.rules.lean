/-! FURTHER RULES -/
variable {X : Option (Nat × (Nat → Int32))} {cal : Nat → List Value → sm_H → Nat → Option sm_R} {j n pc k : Nat} {lv lv1 : sm_L} {st st1 r : List Value} {σ σ1 : sm_H} {u u1 : Nat} {i : Instr}
theorem sx_bald {a N t : Nat} {f : Nat → Int32} {x : Int32} (hd : decode (sm_cc j) pc = .ok (.baload, 1)) (hc : σ[a]? = some (.inl (t, N, .inl f))) (ht : t = 2 ∨ t = 3) (hi : ¬ (x < 0 ∨ N ≤ x.toNatClampNeg)) : sm_run X cal j (n + 1) (pc, lv, .int x :: .ref a :: st, σ, u) = sm_run X cal j n (pc + 1, lv, .int (f x.toNatClampNeg) :: st, σ, u) := sx_go hd (sd_rd rfl rfl rfl (by
  unfold sm_rd
  simp only [hc, if_pos ht, if_neg hi]))
theorem sx_iald {a N : Nat} {f : Nat → Int32} {x : Int32} (hd : decode (sm_cc j) pc = .ok (.iaload, 1)) (hc : σ[a]? = some (.inl (0, N, .inl f))) (hi : ¬ (x < 0 ∨ N ≤ x.toNatClampNeg)) : sm_run X cal j (n + 1) (pc, lv, .int x :: .ref a :: st, σ, u) = sm_run X cal j n (pc + 1, lv, .int (f x.toNatClampNeg) :: st, σ, u) := sx_go hd (sd_rd rfl rfl rfl (by
  unfold sm_rd
  simp only [hc, if_true, if_neg hi]))
theorem sx_iast {a N : Nat} {f : Nat → Int32} {x y : Int32} (hd : decode (sm_cc j) pc = .ok (.iastore, 1)) (hc : σ[a]? = some (.inl (0, N, .inl f))) (hi : ¬ (x < 0 ∨ N ≤ x.toNatClampNeg)) : sm_run X cal j (n + 1) (pc, lv, .int y :: .int x :: .ref a :: st, σ, u) = sm_run X cal j n (pc + 1, lv, st, σ.set a (.inl (0, N, .inl (upd f x.toNatClampNeg y))), u) := sx_go hd (sd_wr rfl rfl rfl rfl (by
  unfold sm_wr
  simp only [hc, if_true, if_neg hi]))
theorem sx_alen {a t : Nat} {x : vp_A} (hd : decode (sm_cc j) pc = .ok (.arraylength, 1)) (hc : σ[a]? = some (.inl (t, x))) (ht : t < mt_el.length) : sm_run X cal j (n + 1) (pc, lv, .ref a :: st, σ, u) = sm_run X cal j n (pc + 1, lv, .int (Int32.ofNat x.1) :: st, σ, u) := sx_go hd (sd_rd rfl rfl rfl (by
  unfold sm_rd
  simp only [hc, if_pos ht]))
theorem sx_ret_void (hd : decode (sm_cc j) pc = .ok (.return_, 1)) (hr : sm_rt j = none) : sm_run X cal j (n + 1) (pc, lv, [], σ, u) = some (none, σ, u) := sx_end0 hd (by
  unfold sm_do
  rw [hr]
  rfl)
theorem sx_iload_n {q : Fin 4} {x : Int32} (hd : decode (sm_cc j) pc = .ok (.iload_n q, 1)) (hg : sm_get lv q = some (.int x)) : sm_run X cal j (n + 1) (pc, lv, st, σ, u) = sm_run X cal j n (pc + 1, lv, .int x :: st, σ, u) := sx_go hd (sd_loc rfl (by
  unfold sm_loc
  simp only [hg]))
theorem sx_aload_n {q : Fin 4} {x : Nat} (hd : decode (sm_cc j) pc = .ok (.aload_n q, 1)) (hg : sm_get lv q = some (.ref x)) : sm_run X cal j (n + 1) (pc, lv, st, σ, u) = sm_run X cal j n (pc + 1, lv, .ref x :: st, σ, u) := sx_go hd (sd_loc rfl (by
  unfold sm_loc
  simp only [hg]))
theorem sm_get_p1 {q : Nat} {v : Value} : sm_get (sm_p1 lv q v) q = some v := by
  unfold sm_get sm_p1
  rw [List.find?_cons]
  simp
theorem sm_get_p1n {q p : Nat} {v w : Value} (h : p ≠ q) (hw : w.category = 1) : sm_get lv p = some w → sm_get (sm_p1 lv q v) p = some w := by
  unfold sm_get sm_p1
  intro h1
  have h2 : (q == p) = false := by
    rw [beq_eq_false_iff_ne]
    exact fun e => h e.symm
  rw [List.find?_cons]
  simp only [h2]
  induction lv with
  | nil => cases h1
  | cons e lv ih =>
    rw [List.find?_cons] at h1
    cases he : e.1 == p with
    | true =>
      rw [he] at h1
      have h3 : e.2 = w := Option.some.inj h1
      have h4 : (e.1 == q) = false := by
        rw [beq_eq_false_iff_ne, eq_of_beq he]
        exact h
      have h5 : (!(e.1 == q) && !(e.1 + 1 == q && e.2.category == 2)) = true := by
        rw [h4, h3, hw]
        simp
      rw [List.filter_cons, if_pos h5, List.find?_cons, he]
      exact h1
    | false =>
      rw [he] at h1
      rw [List.filter_cons]
      split
      · rw [List.find?_cons, he]
        exact ih h1
      · exact ih h1
/-- an int array whose first k ints are v -/
def fl_f (g : Nat → Int32) (v : Int32) : Nat → (Nat → Int32)
  | 0 => g
  | k + 1 => upd (fl_f g v k) k v
theorem fl_f_eq (g : Nat → Int32) (v : Int32) (i : Nat) : ∀ k, fl_f g v k i = if i < k then v else g i := by
  intro k
  induction k with
  | zero => rw [if_neg (Nat.not_lt_zero _)]; rfl
  | succ k ih =>
    unfold fl_f
    by_cases h : i = k
    · rw [h, pk_us, if_pos (Nat.lt_succ_self _)]
    · rw [pk_un h, ih]
      by_cases h2 : i < k
      · rw [if_pos h2, if_pos (by omega)]
      · rw [if_neg h2, if_neg (by omega)]
