/-! COPYOF -/
theorem dc_187_0 : decode (sm_cc 187) 0 = .ok (.iload_n 0, 1) := by decide +kernel
theorem dc_187_1 : decode (sm_cc 187) 1 = .ok (.iload_n 1, 1) := by decide +kernel
theorem dc_187_2 : decode (sm_cc 187) 2 = .ok (.if_icmp .gt (7), 3) := by decide +kernel
theorem dc_187_5 : decode (sm_cc 187) 5 = .ok (.iload_n 0, 1) := by decide +kernel
theorem dc_187_6 : decode (sm_cc 187) 6 = .ok (.goto (4), 3) := by decide +kernel
theorem dc_187_10 : decode (sm_cc 187) 10 = .ok (.ireturn, 1) := by decide +kernel
theorem rt_187 : sm_rt 187 = some .int := by decide +kernel
theorem ml_187 : sm_ml 187 = 2 := by decide +kernel
theorem dc_296_0 : decode (sm_cc 296) 0 = .ok (.iload_n 1, 1) := by decide +kernel
theorem dc_296_1 : decode (sm_cc 296) 1 = .ok (.aload_n 0, 1) := by decide +kernel
theorem dc_296_2 : decode (sm_cc 296) 2 = .ok (.arraylength, 1) := by decide +kernel
theorem dc_296_3 : decode (sm_cc 296) 3 = .ok (.if_icmp .ne (11), 3) := by decide +kernel
theorem dc_296_14 : decode (sm_cc 296) 14 = .ok (.iload_n 1, 1) := by decide +kernel
theorem dc_296_15 : decode (sm_cc 296) 15 = .ok (.newarray .int, 2) := by decide +kernel
theorem dc_296_17 : decode (sm_cc 296) 17 = .ok (.astore_n 2, 1) := by decide +kernel
theorem ml_296 : sm_ml 296 = 3 := by decide +kernel
theorem dc_296_18 : decode (sm_cc 296) 18 = .ok (.aload_n 0, 1) := by decide +kernel
theorem dc_296_19 : decode (sm_cc 296) 19 = .ok (.iconst 0, 1) := by decide +kernel
theorem dc_296_20 : decode (sm_cc 296) 20 = .ok (.aload_n 2, 1) := by decide +kernel
theorem dc_296_21 : decode (sm_cc 296) 21 = .ok (.iconst 0, 1) := by decide +kernel
theorem dc_296_22 : decode (sm_cc 296) 22 = .ok (.aload_n 0, 1) := by decide +kernel
theorem dc_296_23 : decode (sm_cc 296) 23 = .ok (.arraylength, 1) := by decide +kernel
theorem dc_296_24 : decode (sm_cc 296) 24 = .ok (.iload_n 1, 1) := by decide +kernel
theorem dc_296_25 : decode (sm_cc 296) 25 = .ok (.invokestatic 304, 3) := by decide +kernel
theorem kr_296_304 : sm_at mt_k (sm_ow 296) 304 = some (304, 2, 187, 0, 1605) := by decide +kernel
theorem np_187 : sm_np 187 = 2 := by decide +kernel
theorem dc_296_28 : decode (sm_cc 296) 28 = .ok (.invokestatic 150, 3) := by decide +kernel
theorem dc_296_31 : decode (sm_cc 296) 31 = .ok (.aload_n 2, 1) := by decide +kernel
theorem dc_296_32 : decode (sm_cc 296) 32 = .ok (.areturn, 1) := by decide +kernel
theorem kr_296_150 : sm_at mt_k (sm_ow 296) 150 = some (150, 7, 0, 0, 1608) := by decide +kernel
theorem dc_295_0 : decode (sm_cc 295) 0 = .ok (.iload_n 1, 1) := by decide +kernel
theorem dc_295_1 : decode (sm_cc 295) 1 = .ok (.aload_n 0, 1) := by decide +kernel
theorem dc_295_2 : decode (sm_cc 295) 2 = .ok (.arraylength, 1) := by decide +kernel
theorem dc_295_3 : decode (sm_cc 295) 3 = .ok (.if_icmp .ne (11), 3) := by decide +kernel
theorem dc_295_14 : decode (sm_cc 295) 14 = .ok (.iload_n 1, 1) := by decide +kernel
theorem dc_295_15 : decode (sm_cc 295) 15 = .ok (.newarray .byte, 2) := by decide +kernel
theorem dc_295_17 : decode (sm_cc 295) 17 = .ok (.astore_n 2, 1) := by decide +kernel
theorem ml_295 : sm_ml 295 = 3 := by decide +kernel
theorem dc_295_18 : decode (sm_cc 295) 18 = .ok (.aload_n 0, 1) := by decide +kernel
theorem dc_295_19 : decode (sm_cc 295) 19 = .ok (.iconst 0, 1) := by decide +kernel
theorem dc_295_20 : decode (sm_cc 295) 20 = .ok (.aload_n 2, 1) := by decide +kernel
theorem dc_295_21 : decode (sm_cc 295) 21 = .ok (.iconst 0, 1) := by decide +kernel
theorem dc_295_22 : decode (sm_cc 295) 22 = .ok (.aload_n 0, 1) := by decide +kernel
theorem dc_295_23 : decode (sm_cc 295) 23 = .ok (.arraylength, 1) := by decide +kernel
theorem dc_295_24 : decode (sm_cc 295) 24 = .ok (.iload_n 1, 1) := by decide +kernel
theorem dc_295_25 : decode (sm_cc 295) 25 = .ok (.invokestatic 304, 3) := by decide +kernel
theorem kr_295_304 : sm_at mt_k (sm_ow 295) 304 = some (304, 2, 187, 0, 1605) := by decide +kernel
theorem dc_295_28 : decode (sm_cc 295) 28 = .ok (.invokestatic 150, 3) := by decide +kernel
theorem dc_295_31 : decode (sm_cc 295) 31 = .ok (.aload_n 2, 1) := by decide +kernel
theorem dc_295_32 : decode (sm_cc 295) 32 = .ok (.areturn, 1) := by decide +kernel
theorem kr_295_150 : sm_at mt_k (sm_ow 295) 150 = some (150, 7, 0, 0, 1608) := by decide +kernel
theorem dc_186_0 : decode (sm_cc 186) 0 = .ok (.iload_n 1, 1) := by decide +kernel
theorem dc_186_1 : decode (sm_cc 186) 1 = .ok (.aload_n 0, 1) := by decide +kernel
theorem dc_186_2 : decode (sm_cc 186) 2 = .ok (.arraylength, 1) := by decide +kernel
theorem dc_186_3 : decode (sm_cc 186) 3 = .ok (.if_icmp .ne (11), 3) := by decide +kernel
theorem dc_186_14 : decode (sm_cc 186) 14 = .ok (.iload_n 1, 1) := by decide +kernel
theorem dc_186_15 : decode (sm_cc 186) 15 = .ok (.newarray .long, 2) := by decide +kernel
theorem dc_186_17 : decode (sm_cc 186) 17 = .ok (.astore_n 2, 1) := by decide +kernel
theorem ml_186 : sm_ml 186 = 3 := by decide +kernel
theorem dc_186_18 : decode (sm_cc 186) 18 = .ok (.aload_n 0, 1) := by decide +kernel
theorem dc_186_19 : decode (sm_cc 186) 19 = .ok (.iconst 0, 1) := by decide +kernel
theorem dc_186_20 : decode (sm_cc 186) 20 = .ok (.aload_n 2, 1) := by decide +kernel
theorem dc_186_21 : decode (sm_cc 186) 21 = .ok (.iconst 0, 1) := by decide +kernel
theorem dc_186_22 : decode (sm_cc 186) 22 = .ok (.aload_n 0, 1) := by decide +kernel
theorem dc_186_23 : decode (sm_cc 186) 23 = .ok (.arraylength, 1) := by decide +kernel
theorem dc_186_24 : decode (sm_cc 186) 24 = .ok (.iload_n 1, 1) := by decide +kernel
theorem dc_186_25 : decode (sm_cc 186) 25 = .ok (.invokestatic 304, 3) := by decide +kernel
theorem kr_186_304 : sm_at mt_k (sm_ow 186) 304 = some (304, 2, 187, 0, 1605) := by decide +kernel
theorem dc_186_28 : decode (sm_cc 186) 28 = .ok (.invokestatic 150, 3) := by decide +kernel
theorem dc_186_31 : decode (sm_cc 186) 31 = .ok (.aload_n 2, 1) := by decide +kernel
theorem dc_186_32 : decode (sm_cc 186) 32 = .ok (.areturn, 1) := by decide +kernel
theorem kr_186_150 : sm_at mt_k (sm_ow 186) 150 = some (150, 7, 0, 0, 1608) := by decide +kernel
theorem Bod.newbyte {d j pc : Nat} {lv : sm_L} {st : List Value} {S Sf : cS} {v : Option Value} {n : Nat} (hn : n < 2 ^ 26) (hd : decode (sm_cc j) pc = .ok (.newarray .byte, 2)) (h : Bod d j (pc + 2) lv (.ref (108 + (sS S).length) :: st) (wK (2, n) n (wF (108 + (sS S).length) (fun _ => 0) S)) v Sf) : Bod d j pc lv (.int (nI n) :: st) S v Sf := Bod.of (pc1 := pc + 2) (lv1 := lv) (st1 := .ref (108 + (sS S).length) :: st) (S1 := wK (2, n) n (wF (108 + (sS S).length) (fun _ => 0) S)) (fun _ _ => sx_go hd (sd_mk rfl rfl rfl rfl rfl (by
  have h1 : ¬ (nI n < 0 ∨ 67108864 < (nI n).toNatClampNeg) := by
    rw [nI_clamp (by omega)]
    intro h2
    rcases h2 with h2 | h2
    · exact nI_pos (by omega) h2
    · omega
  show (if nI n < 0 ∨ 67108864 < (nI n).toNatClampNeg then none else some (2, Value.ref (mk S).length :: st, mk S ++ [Sum.inl (2, (nI n).toNatClampNeg, if (2 : Nat) = 1 then Sum.inr (Sum.inl (fun _ => 0)) else Sum.inl (fun _ => 0))], mu S + (nI n).toNatClampNeg)) = _
  rw [if_neg h1, nI_clamp (by omega), if_neg (by decide), mk_len, mk_newbyt (u := n)]
  first | done | rfl))) h
theorem wF_wK_wF (a : Nat) (f g : Nat → Int32) (k : Nat × Nat) (u : Nat) (S : cS) : wF a f (wK k u (wF a g S)) = wK k u (wF a f S) := by
  have e : (fun b => if b = a then f else sA (wF a g S) b) = fun b => if b = a then f else sA S b := by
    funext b
    by_cases h : b = a
    · rw [if_pos h, if_pos h]
    · rw [if_neg h, if_neg h, rF, if_neg h]
  show (_, _, (fun b => if b = a then f else sA (wF a g S) b), _) = (_, _, (fun b => if b = a then f else sA S b), _)
  rw [e]
  rfl
theorem wG_wK_wG (a : Nat) (f g : Nat → Int64) (k : Nat × Nat) (u : Nat) (S : cS) : wG a f (wK k u (wG a g S)) = wK k u (wG a f S) := by
  have e : (fun b => if b = a then f else sL (wG a g S) b) = fun b => if b = a then f else sL S b := by
    funext b
    by_cases h : b = a
    · rw [if_pos h, if_pos h]
    · rw [if_neg h, if_neg h, rG, if_neg h]
  show (_, _, _, (fun b => if b = a then f else sL (wG a g S) b), _) = (_, _, _, (fun b => if b = a then f else sL S b), _)
  rw [e]
  rfl
theorem isK_lt {S : cS} {a t N : Nat} (h : isK S a t N) : a < 108 + (sS S).length := by
  rcases h with h | h
  · omega
  · have : a - 108 < (sS S).length := by
      rcases Nat.lt_or_ge (a - 108) (sS S).length with q | q
      · exact q
      · rw [List.getElem?_eq_none q] at h; cases h.2
    omega
/-- a new array of a kind, its values -/
def newI (t n : Nat) (f : Nat → Int32) (S : cS) : cS := wK (t, n) n (wF (108 + (sS S).length) f S)
def newL (n : Nat) (f : Nat → Int64) (S : cS) : cS := wK (1, n) n (wG (108 + (sS S).length) f S)
def cpI (f : Nat → Int32) (N : Nat) : Nat → Int32 := va_cpy f (fun _ => 0) 0 0 N
def cpL (f : Nat → Int64) (N : Nat) : Nat → Int64 := va_cpy f (fun _ => 0) 0 0 N
theorem cpI_at {f : Nat → Int32} {N i : Nat} (h : i < N) : cpI f N i = f i := by
  unfold cpI va_cpy
  rw [if_pos ⟨by omega, by omega⟩, Nat.zero_add, Nat.sub_zero]
theorem cpL_at {f : Nat → Int64} {N i : Nat} (h : i < N) : cpL f N i = f i := by
  unfold cpL va_cpy
  rw [if_pos ⟨by omega, by omega⟩, Nat.zero_add, Nat.sub_zero]
theorem new_lt (S : cS) (k : Nat × Nat) : (sS S ++ [k])[108 + (sS S).length - 108]? = some k := by
  rw [Nat.add_sub_cancel_left, List.getElem?_append_right (Nat.le_refl _), Nat.sub_self]
  rfl
theorem min_a {d : Nat} {S : cS} {a : Nat} {b : Nat} (h : a ≤ b) (hb : b < 2 ^ 31) : Ans (d + 1) 187 [.int (nI a), .int (nI b)] S (some (.int (nI a))) (S) := by
  refine Ans.of (by rw [ml_187]; exact Nat.le_of_ble_eq_true rfl) ?_
  refine Bod.go dc_187_0 rfl ?_
  refine Bod.go dc_187_1 rfl ?_
  refine Bod.icF dc_187_2 rfl (k2_gt_F a b rfl rfl (by omega) (by omega)) ?_
  refine Bod.go dc_187_5 rfl ?_
  refine Bod.go dc_187_6 rfl ?_
  exact Bod.retI dc_187_10 rt_187
theorem rt_296 : sm_rt 296 = some (.array .int) := by decide +kernel
theorem copyOfI {d a n N : Nat} {S : cS} (h : isK S a 0 N) (hN : N < n) (hn : n < 2 ^ 26) : Ans (d + 2) 296 [.ref a, .int (nI n)] S (some (.ref (108 + (sS S).length))) (newI 0 n (cpI (sA S a) N) S) := by
  refine Ans.of (by rw [ml_296]; exact Nat.le_of_ble_eq_true rfl) ?_
  refine Bod.go dc_296_0 rfl ?_
  refine Bod.go dc_296_1 rfl ?_
  refine Bod.alenN (N := N) dc_296_2 (mk_isI h) el_0 ?_
  refine Bod.icT dc_296_3 rfl (k2_ne_T (k_ne n N rfl rfl (by omega) (by omega) (by omega))) ?_
  refine Bod.go dc_296_14 rfl ?_
  refine Bod.newint (by omega) dc_296_15 ?_
  refine Bod.astn dc_296_17 (by rw [ml_296]; exact Nat.le_of_ble_eq_true rfl) ?_
  refine Bod.go dc_296_18 rfl ?_
  refine Bod.ic 0 (by decide) dc_296_19 ?_
  refine Bod.go dc_296_20 rfl ?_
  refine Bod.ic 0 (by decide) dc_296_21 ?_
  refine Bod.go dc_296_22 rfl ?_
  refine Bod.alenN (N := N) dc_296_23 (mk_isI (isK_K rfl h)) el_0 ?_
  refine Bod.go dc_296_24 rfl ?_
  refine Bod.stat (r := [_, _, _, _]) dc_296_25 kr_296_304 (Or.inl rfl) (by rw [np_187]; rfl) (by rw [np_187]; rfl) (by rw [np_187]; exact Nat.le_of_ble_eq_true rfl) (Nat.le_of_ble_eq_true rfl) (min_a (a := N) (b := n) (by omega) (by omega)) ?_
  show Bod _ _ _ _ [_, _, _, _, _] _ _ _
  have hlt := isK_lt h
  have e0 : sA (wK (0, n) n (wF (108 + (sS S).length) (fun _ => 0) S)) a = sA S a := by
    show (if a = 108 + (sS S).length then (fun _ => 0) else sA S a) = _
    rw [if_neg (by omega)]
  have e1 : sA (wK (0, n) n (wF (108 + (sS S).length) (fun _ => 0) S)) (108 + (sS S).length) = (fun _ => 0) := by
    show (if 108 + (sS S).length = 108 + (sS S).length then (fun _ => 0) else sA S (108 + (sS S).length)) = _
    rw [if_pos rfl]
  have es : wF (108 + (sS S).length) (va_cpy (sA (wK (0, n) n (wF (108 + (sS S).length) (fun _ => 0) S)) a) (sA (wK (0, n) n (wF (108 + (sS S).length) (fun _ => 0) S)) (108 + (sS S).length)) 0 0 N) (wK (0, n) n (wF (108 + (sS S).length) (fun _ => 0) S)) = newI 0 n (cpI (sA S a) N) S := by
    rw [e0, e1]
    exact wF_wK_wF _ _ _ _ _ _
  refine Bod.cpyI (sp := 0) (dp := 0) (r := []) dc_296_28 kr_296_150 (mk_isI (isK_K (l := [(0, n)]) rfl h)) (mk_int (Nat.le_add_right 108 _) (new_lt S (0, n))) (by omega) (by omega) (by omega) (by omega) (Nat.zero_le _) (sf_int (Nat.le_add_right 108 _) (new_lt S (0, n))) rfl ?_
  rw [es]
  refine Bod.go dc_296_31 rfl ?_
  exact Bod.retA dc_296_32 rt_296
theorem rt_295 : sm_rt 295 = some (.array .byte) := by decide +kernel
theorem copyOfB {d a n N : Nat} {S : cS} (h : isK S a 2 N) (hN : N < n) (hn : n < 2 ^ 26) (hb : ∀ i, i < N → fits .byte (.int (sA S a i)) = true) : Ans (d + 2) 295 [.ref a, .int (nI n)] S (some (.ref (108 + (sS S).length))) (newI 2 n (cpI (sA S a) N) S) := by
  refine Ans.of (by rw [ml_295]; exact Nat.le_of_ble_eq_true rfl) ?_
  refine Bod.go dc_295_0 rfl ?_
  refine Bod.go dc_295_1 rfl ?_
  refine Bod.alenN (N := N) dc_295_2 (mk_isB h) el_2 ?_
  refine Bod.icT dc_295_3 rfl (k2_ne_T (k_ne n N rfl rfl (by omega) (by omega) (by omega))) ?_
  refine Bod.go dc_295_14 rfl ?_
  refine Bod.newbyte (by omega) dc_295_15 ?_
  refine Bod.astn dc_295_17 (by rw [ml_295]; exact Nat.le_of_ble_eq_true rfl) ?_
  refine Bod.go dc_295_18 rfl ?_
  refine Bod.ic 0 (by decide) dc_295_19 ?_
  refine Bod.go dc_295_20 rfl ?_
  refine Bod.ic 0 (by decide) dc_295_21 ?_
  refine Bod.go dc_295_22 rfl ?_
  refine Bod.alenN (N := N) dc_295_23 (mk_isB (isK_K rfl h)) el_2 ?_
  refine Bod.go dc_295_24 rfl ?_
  refine Bod.stat (r := [_, _, _, _]) dc_295_25 kr_295_304 (Or.inl rfl) (by rw [np_187]; rfl) (by rw [np_187]; rfl) (by rw [np_187]; exact Nat.le_of_ble_eq_true rfl) (Nat.le_of_ble_eq_true rfl) (min_a (a := N) (b := n) (by omega) (by omega)) ?_
  show Bod _ _ _ _ [_, _, _, _, _] _ _ _
  have hlt := isK_lt h
  have e0 : sA (wK (2, n) n (wF (108 + (sS S).length) (fun _ => 0) S)) a = sA S a := by
    show (if a = 108 + (sS S).length then (fun _ => 0) else sA S a) = _
    rw [if_neg (by omega)]
  have e1 : sA (wK (2, n) n (wF (108 + (sS S).length) (fun _ => 0) S)) (108 + (sS S).length) = (fun _ => 0) := by
    show (if 108 + (sS S).length = 108 + (sS S).length then (fun _ => 0) else sA S (108 + (sS S).length)) = _
    rw [if_pos rfl]
  have es : wF (108 + (sS S).length) (va_cpy (sA (wK (2, n) n (wF (108 + (sS S).length) (fun _ => 0) S)) a) (sA (wK (2, n) n (wF (108 + (sS S).length) (fun _ => 0) S)) (108 + (sS S).length)) 0 0 N) (wK (2, n) n (wF (108 + (sS S).length) (fun _ => 0) S)) = newI 2 n (cpI (sA S a) N) S := by
    rw [e0, e1]
    exact wF_wK_wF _ _ _ _ _ _
  refine Bod.cpyB (sp := 0) (dp := 0) (r := []) dc_295_28 kr_295_150 (mk_isB (isK_K (l := [(2, n)]) rfl h)) (mk_byt (Nat.le_add_right 108 _) (new_lt S (2, n))) (by omega) (by omega) (by omega) (by omega) (Nat.zero_le _) (fun i hi => by rw [e0, Nat.zero_add]; exact hb i hi) (sf_byt (Nat.le_add_right 108 _) (new_lt S (2, n))) rfl ?_
  rw [es]
  refine Bod.go dc_295_31 rfl ?_
  exact Bod.retA dc_295_32 rt_295
theorem rt_186 : sm_rt 186 = some (.array .long) := by decide +kernel
theorem copyOfL {d a n N : Nat} {S : cS} (h : isK S a 1 N) (hN : N < n) (hn : n < 2 ^ 26) : Ans (d + 2) 186 [.ref a, .int (nI n)] S (some (.ref (108 + (sS S).length))) (newL n (cpL (sL S a) N) S) := by
  refine Ans.of (by rw [ml_186]; exact Nat.le_of_ble_eq_true rfl) ?_
  refine Bod.go dc_186_0 rfl ?_
  refine Bod.go dc_186_1 rfl ?_
  refine Bod.alenN (N := N) dc_186_2 (mk_isL h) el_1 ?_
  refine Bod.icT dc_186_3 rfl (k2_ne_T (k_ne n N rfl rfl (by omega) (by omega) (by omega))) ?_
  refine Bod.go dc_186_14 rfl ?_
  refine Bod.newlong (by omega) dc_186_15 ?_
  refine Bod.astn dc_186_17 (by rw [ml_186]; exact Nat.le_of_ble_eq_true rfl) ?_
  refine Bod.go dc_186_18 rfl ?_
  refine Bod.ic 0 (by decide) dc_186_19 ?_
  refine Bod.go dc_186_20 rfl ?_
  refine Bod.ic 0 (by decide) dc_186_21 ?_
  refine Bod.go dc_186_22 rfl ?_
  refine Bod.alenN (N := N) dc_186_23 (mk_isL (isK_K rfl h)) el_1 ?_
  refine Bod.go dc_186_24 rfl ?_
  refine Bod.stat (r := [_, _, _, _]) dc_186_25 kr_186_304 (Or.inl rfl) (by rw [np_187]; rfl) (by rw [np_187]; rfl) (by rw [np_187]; exact Nat.le_of_ble_eq_true rfl) (Nat.le_of_ble_eq_true rfl) (min_a (a := N) (b := n) (by omega) (by omega)) ?_
  show Bod _ _ _ _ [_, _, _, _, _] _ _ _
  have hlt := isK_lt h
  have e0 : sL (wK (1, n) n (wG (108 + (sS S).length) (fun _ => 0) S)) a = sL S a := by
    show (if a = 108 + (sS S).length then (fun _ => 0) else sL S a) = _
    rw [if_neg (by omega)]
  have e1 : sL (wK (1, n) n (wG (108 + (sS S).length) (fun _ => 0) S)) (108 + (sS S).length) = (fun _ => 0) := by
    show (if 108 + (sS S).length = 108 + (sS S).length then (fun _ => 0) else sL S (108 + (sS S).length)) = _
    rw [if_pos rfl]
  have es : wG (108 + (sS S).length) (va_cpy (sL (wK (1, n) n (wG (108 + (sS S).length) (fun _ => 0) S)) a) (sL (wK (1, n) n (wG (108 + (sS S).length) (fun _ => 0) S)) (108 + (sS S).length)) 0 0 N) (wK (1, n) n (wG (108 + (sS S).length) (fun _ => 0) S)) = newL n (cpL (sL S a) N) S := by
    rw [e0, e1]
    exact wG_wK_wG _ _ _ _ _ _
  refine Bod.cpyL (sp := 0) (dp := 0) (r := []) dc_186_28 kr_186_150 (mk_isL (isK_K (l := [(1, n)]) rfl h)) (mk_row (Nat.le_add_right 108 _) (new_lt S (1, n))) (by omega) (by omega) (by omega) (by omega) (Nat.zero_le _) (sg_row (Nat.le_add_right 108 _) (new_lt S (1, n))) rfl ?_
  rw [es]
  refine Bod.go dc_186_31 rfl ?_
  exact Bod.retA dc_186_32 rt_186
