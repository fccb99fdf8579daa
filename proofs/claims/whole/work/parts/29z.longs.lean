/-! LONGS that are numbers -/
variable {d j pc k pc1 : Nat} {lv lv1 : sm_L} {st st1 r : List Value} {S S1 Sf : cS} {v : Option Value} {i : Instr}
theorem Bod.i2lN {a : Nat} (ha : a < 2 ^ 31) (hd : decode (sm_cc j) pc = .ok (.i2l, 1)) (h : Bod d j (pc + 1) lv (.long (lN a) :: st) S v Sf) : Bod d j pc lv (.int (nI a) :: st) S v Sf := Bod.go hd rfl (by rw [nI_l ha]; exact h)
theorem Bod.ldc2N {q k1 w : Nat} {x : Int64} (n : Nat) (e : x = lN n) (hd : decode (sm_cc j) pc = .ok (.ldc2_w q, 3)) (hk : sm_at mt_cj (sm_ow j) q = some (k1, x, w)) (h : Bod d j (pc + 3) lv (.long (lN n) :: st) S v Sf) : Bod d j pc lv st S v Sf := by
  subst e
  exact Bod.ldc2 hd hk h
theorem Bod.laddN {a b : Nat} (m : Nat) (e : a + b = m) (hd : decode (sm_cc j) pc = .ok (.ladd, 1)) (h : Bod d j (pc + 1) lv (.long (lN m) :: st) S v Sf) : Bod d j pc lv (.long (lN b) :: .long (lN a) :: st) S v Sf := Bod.go hd rfl (by rw [lN_add, e]; exact h)
theorem Bod.lsubN {a b : Nat} (m : Nat) (hb : b ≤ a) (e : a - b = m) (hd : decode (sm_cc j) pc = .ok (.lsub, 1)) (h : Bod d j (pc + 1) lv (.long (lN m) :: st) S v Sf) : Bod d j pc lv (.long (lN b) :: .long (lN a) :: st) S v Sf := Bod.go hd rfl (by rw [lN_sub hb, e]; exact h)
theorem Bod.lmulN {a b : Nat} (m : Nat) (e : a * b = m) (hd : decode (sm_cc j) pc = .ok (.lmul, 1)) (h : Bod d j (pc + 1) lv (.long (lN m) :: st) S v Sf) : Bod d j pc lv (.long (lN b) :: .long (lN a) :: st) S v Sf := Bod.go hd rfl (by rw [lN_mul, e]; exact h)
theorem lN_ne0 {b : Nat} (h0 : 0 < b) (hb : b < 2 ^ 63) : ¬ lN b = 0 := fun e => by
  have h1 := (pk_lEQ (a := b) (b := 0) hb (by decide)).mp e
  omega
theorem Bod.ldivN {a b : Nat} (m : Nat) (ha : a < 2 ^ 63) (h0 : 0 < b) (hb : b < 2 ^ 63) (e : a / b = m) (hd : decode (sm_cc j) pc = .ok (.ldiv, 1)) (h : Bod d j (pc + 1) lv (.long (lN m) :: st) S v Sf) : Bod d j pc lv (.long (lN b) :: .long (lN a) :: st) S v Sf := Bod.go hd (sd_ops (by
  show (if lN b = 0 then none else some (1, .long (lN a / lN b) :: st)) = _
  rw [if_neg (lN_ne0 h0 hb)])) (by rw [pk_lDiv ha h0 hb, e]; exact h)
theorem cmpN_le {a b : Nat} (h : a ≤ b) (hb : b < 2 ^ 63) : sm_c1 .le (lg_cmp (lN a) (lN b)) true false = true := by
  unfold lg_cmp
  rw [if_neg (fun h2 => by have := (pk_lLT (a := b) (b := a) hb (by omega)).mp h2; omega)]
  split <;> decide
theorem cmpN_gt {a b : Nat} (h : b < a) (ha : a < 2 ^ 63) : sm_c1 .le (lg_cmp (lN a) (lN b)) true false = false := by
  unfold lg_cmp
  rw [if_pos ((pk_lLT (a := b) (b := a) (by omega) ha).mpr h)]
  decide
