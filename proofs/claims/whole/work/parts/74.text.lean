/-! TEXTS: length, charAt -/
theorem sh0 (x : Int32) : x >>> (nI 0 &&& 31) = x := by
  rw [show (nI 0 &&& 31 : Int32) = 0 by decide]
  exact Int32.shiftRight_zero
theorem dc_5_0 : decode (sm_cc 5) 0 = .ok (.getstatic 38, 3) := by decide +kernel
theorem gs_5_38 : sm_at mt_gs (sm_ow 5) 38 = some (38, .int 1, 0, 451) := by decide +kernel
theorem dc_5_3 : decode (sm_cc 5) 3 = .ok (.ifCond .eq (10), 3) := by decide +kernel
theorem dc_5_6 : decode (sm_cc 5) 6 = .ok (.aload_n 0, 1) := by decide +kernel
theorem dc_5_7 : decode (sm_cc 5) 7 = .ok (.getfield 15, 3) := by decide +kernel
theorem xs_5_15 : sm_at mt_xs (sm_ow 5) 15 = some (15, 1, 3049) := by decide +kernel
theorem dc_5_10 : decode (sm_cc 5) 10 = .ok (.goto (4), 3) := by decide +kernel
theorem dc_5_14 : decode (sm_cc 5) 14 = .ok (.ireturn, 1) := by decide +kernel
theorem rt_5 : sm_rt 5 = some .byte := by decide +kernel
theorem ml_5 : sm_ml 5 = 1 := by decide +kernel
theorem dc_4_0 : decode (sm_cc 4) 0 = .ok (.aload_n 0, 1) := by decide +kernel
theorem dc_4_1 : decode (sm_cc 4) 1 = .ok (.getfield 9, 3) := by decide +kernel
theorem xs_4_9 : sm_at mt_xs (sm_ow 4) 9 = some (9, 0, 3048) := by decide +kernel
theorem dc_4_4 : decode (sm_cc 4) 4 = .ok (.arraylength, 1) := by decide +kernel
theorem dc_4_5 : decode (sm_cc 4) 5 = .ok (.aload_n 0, 1) := by decide +kernel
theorem dc_4_6 : decode (sm_cc 4) 6 = .ok (.invokevirtual 335, 3) := by decide +kernel
theorem kr_4_335 : sm_at mt_k (sm_ow 4) 335 = some (335, 0, 5, 0, 447) := by decide +kernel
theorem np_5 : sm_np 5 = 0 := by decide +kernel
theorem dc_4_9 : decode (sm_cc 4) 9 = .ok (.ishr, 1) := by decide +kernel
theorem dc_4_10 : decode (sm_cc 4) 10 = .ok (.ireturn, 1) := by decide +kernel
theorem rt_4 : sm_rt 4 = some .int := by decide +kernel
theorem ml_4 : sm_ml 4 = 1 := by decide +kernel
theorem dc_7_0 : decode (sm_cc 7) 0 = .ok (.getstatic 38, 3) := by decide +kernel
theorem gs_7_38 : sm_at mt_gs (sm_ow 7) 38 = some (38, .int 1, 0, 451) := by decide +kernel
theorem dc_7_3 : decode (sm_cc 7) 3 = .ok (.ifCond .eq (14), 3) := by decide +kernel
theorem dc_7_6 : decode (sm_cc 7) 6 = .ok (.aload_n 0, 1) := by decide +kernel
theorem dc_7_7 : decode (sm_cc 7) 7 = .ok (.getfield 15, 3) := by decide +kernel
theorem xs_7_15 : sm_at mt_xs (sm_ow 7) 15 = some (15, 1, 3049) := by decide +kernel
theorem dc_7_10 : decode (sm_cc 7) 10 = .ok (.ifCond .ne (7), 3) := by decide +kernel
theorem dc_7_13 : decode (sm_cc 7) 13 = .ok (.iconst 1, 1) := by decide +kernel
theorem dc_7_14 : decode (sm_cc 7) 14 = .ok (.goto (4), 3) := by decide +kernel
theorem dc_7_18 : decode (sm_cc 7) 18 = .ok (.ireturn, 1) := by decide +kernel
theorem rt_7 : sm_rt 7 = some .boolean := by decide +kernel
theorem ml_7 : sm_ml 7 = 1 := by decide +kernel
theorem dc_10_0 : decode (sm_cc 10) 0 = .ok (.iload_n 0, 1) := by decide +kernel
theorem dc_10_1 : decode (sm_cc 10) 1 = .ok (.ifCond .lt (8), 3) := by decide +kernel
theorem dc_10_4 : decode (sm_cc 10) 4 = .ok (.iload_n 0, 1) := by decide +kernel
theorem dc_10_5 : decode (sm_cc 10) 5 = .ok (.iload_n 1, 1) := by decide +kernel
theorem dc_10_6 : decode (sm_cc 10) 6 = .ok (.if_icmp .lt (10), 3) := by decide +kernel
theorem dc_10_16 : decode (sm_cc 10) 16 = .ok (.iload_n 0, 1) := by decide +kernel
theorem dc_10_17 : decode (sm_cc 10) 17 = .ok (.ireturn, 1) := by decide +kernel
theorem rt_10 : sm_rt 10 = some .int := by decide +kernel
theorem ml_10 : sm_ml 10 = 3 := by decide +kernel
theorem dc_9_0 : decode (sm_cc 9) 0 = .ok (.iload_n 0, 1) := by decide +kernel
theorem dc_9_1 : decode (sm_cc 9) 1 = .ok (.iload_n 1, 1) := by decide +kernel
theorem dc_9_2 : decode (sm_cc 9) 2 = .ok (.getstatic 1053, 3) := by decide +kernel
theorem gs_9_1053 : sm_at mt_gs (sm_ow 9) 1053 = some (1053, .retAddr 100001, 1, 467) := by decide +kernel
theorem dc_9_5 : decode (sm_cc 9) 5 = .ok (.invokestatic 1059, 3) := by decide +kernel
theorem kr_9_1059 : sm_at mt_k (sm_ow 9) 1059 = some (1059, 2, 10, 0, 469) := by decide +kernel
theorem np_10 : sm_np 10 = 3 := by decide +kernel
theorem dc_9_8 : decode (sm_cc 9) 8 = .ok (.pop, 1) := by decide +kernel
theorem dc_9_9 : decode (sm_cc 9) 9 = .ok (.return_, 1) := by decide +kernel
theorem rt_9 : sm_rt 9 = none := by decide +kernel
theorem ml_9 : sm_ml 9 = 2 := by decide +kernel
theorem dc_8_0 : decode (sm_cc 8) 0 = .ok (.iload_n 1, 1) := by decide +kernel
theorem dc_8_1 : decode (sm_cc 8) 1 = .ok (.aload_n 0, 1) := by decide +kernel
theorem dc_8_2 : decode (sm_cc 8) 2 = .ok (.arraylength, 1) := by decide +kernel
theorem dc_8_3 : decode (sm_cc 8) 3 = .ok (.invokestatic 9, 3) := by decide +kernel
theorem kr_8_9 : sm_at mt_k (sm_ow 8) 9 = some (9, 2, 9, 0, 464) := by decide +kernel
theorem np_9 : sm_np 9 = 2 := by decide +kernel
theorem dc_8_6 : decode (sm_cc 8) 6 = .ok (.aload_n 0, 1) := by decide +kernel
theorem dc_8_7 : decode (sm_cc 8) 7 = .ok (.iload_n 1, 1) := by decide +kernel
theorem dc_8_8 : decode (sm_cc 8) 8 = .ok (.baload, 1) := by decide +kernel
theorem dc_8_9 : decode (sm_cc 8) 9 = .ok (.sipush (255), 3) := by decide +kernel
theorem dc_8_12 : decode (sm_cc 8) 12 = .ok (.iand, 1) := by decide +kernel
theorem dc_8_13 : decode (sm_cc 8) 13 = .ok (.i2c, 1) := by decide +kernel
theorem dc_8_14 : decode (sm_cc 8) 14 = .ok (.ireturn, 1) := by decide +kernel
theorem rt_8 : sm_rt 8 = some .char := by decide +kernel
theorem ml_8 : sm_ml 8 = 2 := by decide +kernel
theorem dc_6_0 : decode (sm_cc 6) 0 = .ok (.aload_n 0, 1) := by decide +kernel
theorem dc_6_1 : decode (sm_cc 6) 1 = .ok (.invokevirtual 492, 3) := by decide +kernel
theorem kr_6_492 : sm_at mt_k (sm_ow 6) 492 = some (492, 0, 7, 0, 457) := by decide +kernel
theorem np_7 : sm_np 7 = 0 := by decide +kernel
theorem dc_6_4 : decode (sm_cc 6) 4 = .ok (.ifCond .eq (12), 3) := by decide +kernel
theorem dc_6_7 : decode (sm_cc 6) 7 = .ok (.aload_n 0, 1) := by decide +kernel
theorem dc_6_8 : decode (sm_cc 6) 8 = .ok (.getfield 9, 3) := by decide +kernel
theorem xs_6_9 : sm_at mt_xs (sm_ow 6) 9 = some (9, 0, 3048) := by decide +kernel
theorem dc_6_11 : decode (sm_cc 6) 11 = .ok (.iload_n 1, 1) := by decide +kernel
theorem dc_6_12 : decode (sm_cc 6) 12 = .ok (.invokestatic 495, 3) := by decide +kernel
theorem kr_6_495 : sm_at mt_k (sm_ow 6) 495 = some (495, 2, 8, 0, 461) := by decide +kernel
theorem np_8 : sm_np 8 = 2 := by decide +kernel
theorem dc_6_15 : decode (sm_cc 6) 15 = .ok (.ireturn, 1) := by decide +kernel
theorem rt_6 : sm_rt 6 = some .char := by decide +kernel
theorem ml_6 : sm_ml 6 = 2 := by decide +kernel
def tx_n (t : Nat) : Nat := (mt_sb.getD t []).length
def tx_b (t i : Nat) : Int32 := (mt_sb.getD t []).getD i 0
def tx_c (t i : Nat) : Nat := gN (tx_b t i)
theorem sb_len : mt_sb.length = 51 := by decide +kernel
theorem tx_ok : ∀ t, t < 51 → ∀ i, i < tx_n t → tx_b t i = nI (tx_c t i) ∧ tx_c t i < 128 := by decide +kernel
theorem tx_n_le : ∀ t, t < 51 → tx_n t < 100 := by decide +kernel
variable {d j pc : Nat} {lv : sm_L} {st : List Value} {S Sf : cS} {v : Option Value}
theorem sx_txf {X : Option (Nat × (Nat → Int32))} {cal : Nat → List Value → sm_H → Nat → Option sm_R} {n u : Nat} {σ : sm_H} {q : Nat} {y : Value} {a : Nat} (hd : decode (sm_cc j) pc = .ok (.getfield q, 3)) (h : sm_rd X (sm_ow j) (.getfield q) (.retAddr a :: st) σ = some (3, y :: st)) : sm_run X cal j (n + 1) (pc, lv, .retAddr a :: st, σ, u) = sm_run X cal j n (pc + 3, lv, y :: st, σ, u) := sx_go hd (sd_rd (by rcases st with _ | ⟨b, st⟩ <;> rfl) rfl (by rcases st with _ | ⟨b, st⟩ <;> rfl) h)
theorem Bod.txv {q k1 w t : Nat} (hd : decode (sm_cc j) pc = .ok (.getfield q, 3)) (hk : sm_at mt_xs (sm_ow j) q = some (k1, 0, w)) (ht : t < 51) (h : Bod d j (pc + 3) lv (.retAddr (2 * t + 1) :: st) S v Sf) : Bod d j pc lv (.retAddr (2 * t) :: st) S v Sf := Bod.of (fun _ _ => sx_txf hd (by
  unfold sm_rd
  simp only [hk]
  rw [if_pos ⟨by omega, by rw [sb_len]; omega⟩])) h
theorem Bod.txc {q k1 w t : Nat} (hd : decode (sm_cc j) pc = .ok (.getfield q, 3)) (hk : sm_at mt_xs (sm_ow j) q = some (k1, 1, w)) (ht : t < 51) (h : Bod d j (pc + 3) lv (.int (nI 0) :: st) S v Sf) : Bod d j pc lv (.retAddr (2 * t) :: st) S v Sf := Bod.of (fun _ _ => sx_txf hd (by
  unfold sm_rd
  simp only [hk]
  rw [if_pos ⟨by omega, by rw [sb_len]; omega⟩]
  rfl)) h
theorem Bod.txl {t : Nat} (hd : decode (sm_cc j) pc = .ok (.arraylength, 1)) (ht : t < 51) (h : Bod d j (pc + 1) lv (.int (nI (tx_n t)) :: st) S v Sf) : Bod d j pc lv (.retAddr (2 * t + 1) :: st) S v Sf := Bod.of (fun _ _ => sx_go hd (sd_rd (by rcases st with _ | ⟨b, st⟩ <;> rfl) rfl (by rcases st with _ | ⟨b, st⟩ <;> rfl) (by
  show (if 2 * t + 1 = 100000 then _ else if (2 * t + 1) % 2 = 1 ∧ 2 * t + 1 < 2 * mt_sb.length then some (1, Value.int (Int32.ofNat (mt_sb.getD ((2 * t + 1) / 2) []).length) :: st) else none) = _
  rw [if_neg (by omega), if_pos ⟨by omega, by rw [sb_len]; omega⟩, show (2 * t + 1) / 2 = t by omega]
  rfl))) h
theorem Bod.txb {t : Nat} {x : Int32} (m : Nat) (ex : x = nI m) (hm : m < tx_n t) (hM : m < 2 ^ 31) (hd : decode (sm_cc j) pc = .ok (.baload, 1)) (ht : t < 51) (h : Bod d j (pc + 1) lv (.int (tx_b t m) :: st) S v Sf) : Bod d j pc lv (.int x :: .retAddr (2 * t + 1) :: st) S v Sf := by
  subst ex
  refine Bod.of (fun _ _ => sx_go hd (sd_rd rfl rfl rfl (by
    show (if (2 * t + 1) % 2 = 1 ∧ 2 * t + 1 < 2 * mt_sb.length then (if nI m < 0 ∨ (mt_sb.getD ((2 * t + 1) / 2) []).length ≤ (nI m).toNatClampNeg then none else some (1, Value.int ((mt_sb.getD ((2 * t + 1) / 2) []).getD (nI m).toNatClampNeg 0) :: st)) else none) = _
    rw [if_pos ⟨by omega, by rw [sb_len]; omega⟩, show (2 * t + 1) / 2 = t by omega, nI_clamp hM, if_neg (fun c => c.elim (nI_pos hM) (fun c => absurd hm (Nat.not_lt.mpr c)))]
    rfl))) h
theorem Bod.gst {q k1 : Nat} {y : Value} {w : Nat × Nat} (hd : decode (sm_cc j) pc = .ok (.getstatic q, 3)) (hk : sm_at mt_gs (sm_ow j) q = some (k1, y, w)) (h : Bod d j (pc + 3) lv (y :: st) S v Sf) : Bod d j pc lv st S v Sf := Bod.of (fun _ _ => sx_go hd (sd_rd (by rcases st with _ | ⟨a, _ | ⟨b, st⟩⟩ <;> rfl) (by rcases st with _ | ⟨a, st⟩ <;> rfl) (by rcases st with _ | ⟨a, _ | ⟨b, st⟩⟩ <;> rfl) (by
  unfold sm_rd
  rcases st with _ | ⟨a, _ | ⟨b, st⟩⟩ <;> simp only [hk]))) h
theorem Bod.ldcT {q k1 t w : Nat} (hd : decode (sm_cc j) pc = .ok (.ldc q, 2)) (hk : sm_at mt_ci (sm_ow j) q = none ∧ sm_at mt_cs (sm_ow j) q = some (k1, t, w)) (h : Bod d j (pc + 2) lv (.retAddr (2 * t) :: st) S v Sf) : Bod d j pc lv st S v Sf := Bod.of (fun _ _ => sx_go hd (sd_rd (by rcases st with _ | ⟨a, _ | ⟨b, st⟩⟩ <;> rfl) (by rcases st with _ | ⟨a, st⟩ <;> rfl) (by rcases st with _ | ⟨a, _ | ⟨b, st⟩⟩ <;> rfl) (by
  unfold sm_rd
  rcases st with _ | ⟨a, _ | ⟨b, st⟩⟩ <;> simp only [hk.1, hk.2]))) h
theorem sx_virtT {X : Option (Nat × (Nat → Int32))} {cal : Nat → List Value → sm_H → Nat → Option sm_R} {n u : Nat} {σ : sm_H} {q k1 kd j1 t : Nat} {w : Nat × Nat} {r : List Value} {y : Option Value} {σ2 : sm_H} {u2 : Nat} (hd : decode (sm_cc j) pc = .ok (.invokevirtual q, 3)) (hk : sm_at mt_k (sm_ow j) q = some (k1, kd, j1, w)) (hn : kd = 0 ∨ kd = 1) (ha : st.drop (sm_np j1) = .retAddr (2 * t) :: r) (ht : t < 51) (ho : sm_ow j1 = mt_so) (hr : (r.map fun v => v.category).sum ≤ 8) (hcal : cal j1 (.retAddr (2 * t) :: (st.take (sm_np j1)).reverse) σ u = some (y, σ2, u2)) : sm_run X cal j (n + 1) (pc, lv, st, σ, u) = sm_run X cal j n (pc + 3, lv, y.toList ++ r, σ2, u2) := by
  have hst : st ≠ [] := fun e => by rw [e, List.drop_nil] at ha; cases ha
  refine sx_call0 hd (sd_cl (j1 := j1) (r := r) ?_ ?_ ?_ ?_ ?_ ?_ ?_ ?_) hcal
  · rcases st with _ | ⟨a, _ | ⟨b, st⟩⟩ <;> rfl
  · rcases st with _ | ⟨a, st⟩ <;> rfl
  · rcases st with _ | ⟨a, _ | ⟨b, st⟩⟩ <;> rfl
  · rcases st with _ | ⟨a, _ | ⟨b, st⟩⟩ <;> rfl
  · rcases st with _ | ⟨a, _ | ⟨b, _ | ⟨c, st⟩⟩⟩ <;> rfl
  · rcases st with _ | ⟨a, st⟩ <;> rfl
  · rcases st with _ | ⟨a, st⟩ <;> rfl
  · unfold sm_cl
    simp only [hk, if_pos hn, ha]
    rw [if_pos ⟨by omega, by rw [sb_len]; omega, ho, hr⟩]
theorem Bod.virtT {q k1 kd j1 t : Nat} {w : Nat × Nat} {r : List Value} {S1 : cS} {x : Option Value} {as : List Value} (hd : decode (sm_cc j) pc = .ok (.invokevirtual q, 3)) (hk : sm_at mt_k (sm_ow j) q = some (k1, kd, j1, w)) (hn : kd = 0 ∨ kd = 1) (ha : st.drop (sm_np j1) = .retAddr (2 * t) :: r) (has : .retAddr (2 * t) :: (st.take (sm_np j1)).reverse = as) (ht : t < 51) (ho : sm_ow j1 = mt_so) (hr : (r.map fun v => v.category).sum ≤ 8) (hA : Ans d j1 as S x S1) (h : Bod d j (pc + 3) lv (x.toList ++ r) S1 v Sf) : Bod d j pc lv st S v Sf :=
  Bod.call (j1 := j1) (as := as) (fun cal n R hR => sx_virtT hd hk hn ha ht ho hr (by rw [has]; exact hR)) hA h
theorem Bod.aldnT {q : Fin 4} {x : Nat} (hd : decode (sm_cc j) pc = .ok (.aload_n q, 1)) (hg : sm_get lv q = some (.retAddr x)) (hx : x ≠ 100001) (h : Bod d j (pc + 1) lv (.retAddr x :: st) S v Sf) : Bod d j pc lv st S v Sf := Bod.of (fun _ _ => sx_go hd (sd_loc (by rcases st with _ | ⟨a, _ | ⟨b, st⟩⟩ <;> rfl) (by
  unfold sm_loc
  rcases st with _ | ⟨a, st⟩ <;> simp only [hg, if_neg hx]))) h
theorem Bod.aldT {q x : Nat} (hd : decode (sm_cc j) pc = .ok (.aload q, 2)) (hg : sm_get lv q = some (.retAddr x)) (hx : x ≠ 100001) (h : Bod d j (pc + 2) lv (.retAddr x :: st) S v Sf) : Bod d j pc lv st S v Sf := Bod.of (fun _ _ => sx_go hd (sd_loc (by rcases st with _ | ⟨a, _ | ⟨b, st⟩⟩ <;> rfl) (by
  unfold sm_loc
  rcases st with _ | ⟨a, st⟩ <;> simp only [hg, if_neg hx]))) h
theorem so_4 : sm_ow 4 = mt_so := by decide +kernel
theorem so_5 : sm_ow 5 = mt_so := by decide +kernel
theorem so_6 : sm_ow 6 = mt_so := by decide +kernel
theorem so_7 : sm_ow 7 = mt_so := by decide +kernel
theorem ch_ok : ∀ c, c < 128 → ((nI c &&& nI 255).toUInt32 % 65536).toInt32 = nI c := by decide +kernel
theorem ch_nar : ∀ c, c < 128 → narrow .char (.int (nI c)) = .int (nI c) := by decide +kernel
theorem Bod.retB {x : Int32} (hd : decode (sm_cc j) pc = .ok (.ireturn, 1)) (hr : sm_rt j = some .byte) (hx : narrow .byte (.int x) = .int x) : Bod d j pc lv [.int x] S (some (.int x)) S := Bod.ret (fun _ _ => sx_end0 hd (by
  have h8 : sm_end (sm_rt j) .ireturn [.int x] = some (some (.int x)) := by
    unfold sm_end
    rw [hr]
    simp only [hx, if_true]
  unfold sm_do
  simp [h8, show sm_ops .ireturn [Value.int x] = none from rfl, show sm_loc (sm_ml j) .ireturn lv [Value.int x] = none from rfl, show sm_br .ireturn 1 pc [Value.int x] = none from rfl, show ∀ σ, sm_rd none (sm_ow j) .ireturn [Value.int x] σ = none from fun _ => rfl, show ∀ σ, sm_wr (sm_ow j) (sm_ini j) .ireturn [Value.int x] σ = none from fun _ => rfl, show ∀ σ u, sm_mk (sm_ow j) .ireturn [Value.int x] σ u = none from fun _ _ => rfl, show ∀ σ, sm_na (sm_ow j) .ireturn [Value.int x] σ = none from fun _ => rfl, show ∀ σ, sm_cl (sm_ow j) .ireturn [Value.int x] σ = none from fun _ => rfl]))
theorem Bod.retC {x : Int32} (hd : decode (sm_cc j) pc = .ok (.ireturn, 1)) (hr : sm_rt j = some .char) (hx : narrow .char (.int x) = .int x) : Bod d j pc lv [.int x] S (some (.int x)) S := Bod.ret (fun _ _ => sx_end0 hd (by
  have h8 : sm_end (sm_rt j) .ireturn [.int x] = some (some (.int x)) := by
    unfold sm_end
    rw [hr]
    simp only [hx, if_true]
  unfold sm_do
  simp [h8, show sm_ops .ireturn [Value.int x] = none from rfl, show sm_loc (sm_ml j) .ireturn lv [Value.int x] = none from rfl, show sm_br .ireturn 1 pc [Value.int x] = none from rfl, show ∀ σ, sm_rd none (sm_ow j) .ireturn [Value.int x] σ = none from fun _ => rfl, show ∀ σ, sm_wr (sm_ow j) (sm_ini j) .ireturn [Value.int x] σ = none from fun _ => rfl, show ∀ σ u, sm_mk (sm_ow j) .ireturn [Value.int x] σ u = none from fun _ _ => rfl, show ∀ σ, sm_na (sm_ow j) .ireturn [Value.int x] σ = none from fun _ => rfl, show ∀ σ, sm_cl (sm_ow j) .ireturn [Value.int x] σ = none from fun _ => rfl]))
theorem tx_coder {d : Nat} {S : cS} {t : Nat} (ht : t < 51) : Ans (d + 1) 5 [.retAddr (2 * t)] S (some (.int (nI 0))) (S) := by
  refine Ans.of (by rw [ml_5]; exact Nat.le_of_ble_eq_true rfl) ?_
  refine Bod.gst dc_5_0 gs_5_38 ?_
  refine Bod.ifF dc_5_3 rfl (k1_eq_F (k_ne 1 0 rfl rfl (by omega) (by omega) (by omega))) ?_
  refine Bod.aldnT dc_5_6 rfl (by omega) ?_
  refine Bod.txc dc_5_7 xs_5_15 ht ?_
  refine Bod.go dc_5_10 rfl ?_
  exact Bod.retB dc_5_14 rt_5 (by decide)
theorem tx_len {d : Nat} {S : cS} {t : Nat} (ht : t < 51) : Ans (d + 2) 4 [.retAddr (2 * t)] S (some (.int (nI (tx_n t)))) (S) := by
  refine Ans.of (by rw [ml_4]; exact Nat.le_of_ble_eq_true rfl) ?_
  refine Bod.aldnT dc_4_0 rfl (by omega) ?_
  refine Bod.txv dc_4_1 xs_4_9 ht ?_
  refine Bod.txl dc_4_4 ht ?_
  refine Bod.aldnT dc_4_5 rfl (by omega) ?_
  refine Bod.virtT (r := [_]) dc_4_6 kr_4_335 (Or.inl rfl) (by rw [np_5]; rfl) (by rw [np_5]; rfl) ht so_5 (Nat.le_of_ble_eq_true rfl) (tx_coder (t := t) (by omega)) ?_
  show Bod _ _ _ _ [_, _] _ _ _
  refine Bod.go dc_4_9 rfl ?_
  refine Bod.eqI (nI (tx_n t)) (by have := tx_n_le t ht; exact sh0 _) ?_
  exact Bod.retI dc_4_10 rt_4
theorem tx_lat {d : Nat} {S : cS} {t : Nat} (ht : t < 51) : Ans (d + 1) 7 [.retAddr (2 * t)] S (some (.int 1)) (S) := by
  refine Ans.of (by rw [ml_7]; exact Nat.le_of_ble_eq_true rfl) ?_
  refine Bod.gst dc_7_0 gs_7_38 ?_
  refine Bod.ifF dc_7_3 rfl (k1_eq_F (k_ne 1 0 rfl rfl (by omega) (by omega) (by omega))) ?_
  refine Bod.aldnT dc_7_6 rfl (by omega) ?_
  refine Bod.txc dc_7_7 xs_7_15 ht ?_
  refine Bod.ifF dc_7_10 rfl (k1_ne_F (k_eq 0 0 rfl rfl (by omega))) ?_
  refine Bod.ic 1 (by decide) dc_7_13 ?_
  refine Bod.go dc_7_14 rfl ?_
  exact Bod.retZ dc_7_18 rt_7 (Or.inr rfl)
theorem ck_index {d : Nat} {S : cS} {i : Nat} {n : Nat} (hin : i < n) (hnM : n < 2 ^ 31) : Ans (d + 1) 10 [.int (nI i), .int (nI n), .retAddr 100001] S (some (.int (nI i))) (S) := by
  refine Ans.of (by rw [ml_10]; exact Nat.le_of_ble_eq_true rfl) ?_
  refine Bod.go dc_10_0 rfl ?_
  refine Bod.ifF dc_10_1 rfl (k1_lt_F i rfl (by omega)) ?_
  refine Bod.go dc_10_4 rfl ?_
  refine Bod.go dc_10_5 rfl ?_
  refine Bod.icT dc_10_6 rfl (k2_lt_T i n rfl rfl (by omega) (by omega)) ?_
  refine Bod.go dc_10_16 rfl ?_
  exact Bod.retI dc_10_17 rt_10
theorem ck_ix {d : Nat} {S : cS} {i : Nat} {n : Nat} (hin : i < n) (hnM : n < 2 ^ 31) : Ans (d + 2) 9 [.int (nI i), .int (nI n)] S (none) (S) := by
  refine Ans.of (by rw [ml_9]; exact Nat.le_of_ble_eq_true rfl) ?_
  refine Bod.go dc_9_0 rfl ?_
  refine Bod.go dc_9_1 rfl ?_
  refine Bod.gst dc_9_2 gs_9_1053 ?_
  refine Bod.stat (r := []) dc_9_5 kr_9_1059 (Or.inl rfl) (by rw [np_10]; rfl) (by rw [np_10]; rfl) (by rw [np_10]; exact Nat.le_of_ble_eq_true rfl) (Nat.le_of_ble_eq_true rfl) (ck_index (i := i) (n := n) (by omega) (by omega)) ?_
  show Bod _ _ _ _ [_] _ _ _
  refine Bod.go dc_9_8 rfl ?_
  exact Bod.retV dc_9_9 rt_9
theorem tx_at8 {d : Nat} {S : cS} {t : Nat} {i : Nat} (ht : t < 51) (hi : i < tx_n t) (hl : tx_n t < 100) : Ans (d + 3) 8 [.retAddr (2 * t + 1), .int (nI i)] S (some (.int (nI (tx_c t i)))) (S) := by
  refine Ans.of (by rw [ml_8]; exact Nat.le_of_ble_eq_true rfl) ?_
  refine Bod.go dc_8_0 rfl ?_
  refine Bod.aldnT dc_8_1 rfl (by omega) ?_
  refine Bod.txl dc_8_2 ht ?_
  refine Bod.stat (r := []) dc_8_3 kr_8_9 (Or.inl rfl) (by rw [np_9]; rfl) (by rw [np_9]; rfl) (by rw [np_9]; exact Nat.le_of_ble_eq_true rfl) (Nat.le_of_ble_eq_true rfl) (ck_ix (i := i) (n := tx_n t) (by omega) (by omega)) ?_
  show Bod _ _ _ _ [] _ _ _
  refine Bod.aldnT dc_8_6 rfl (by omega) ?_
  refine Bod.go dc_8_7 rfl ?_
  refine Bod.txb i rfl (by omega) (by omega) dc_8_8 ht ?_
  refine Bod.eqI (nI (tx_c t i)) (tx_ok t ht i hi).1 ?_
  refine Bod.sip 255 (by decide) dc_8_9 ?_
  refine Bod.go dc_8_12 rfl ?_
  refine Bod.go dc_8_13 rfl ?_
  refine Bod.eqI (nI (tx_c t i)) (ch_ok _ (tx_ok t ht i hi).2) ?_
  exact Bod.retC dc_8_14 rt_8 (ch_nar _ (tx_ok t ht i hi).2)
theorem tx_at {d : Nat} {S : cS} {t : Nat} {i : Nat} (ht : t < 51) (hi : i < tx_n t) : Ans (d + 4) 6 [.retAddr (2 * t), .int (nI i)] S (some (.int (nI (tx_c t i)))) (S) := by
  refine Ans.of (by rw [ml_6]; exact Nat.le_of_ble_eq_true rfl) ?_
  refine Bod.aldnT dc_6_0 rfl (by omega) ?_
  refine Bod.virtT (r := []) dc_6_1 kr_6_492 (Or.inl rfl) (by rw [np_7]; rfl) (by rw [np_7]; rfl) ht so_7 (Nat.le_of_ble_eq_true rfl) (tx_lat (t := t) (by omega)) ?_
  show Bod _ _ _ _ [_] _ _ _
  refine Bod.ifF dc_6_4 rfl (k1_eq_F (k_ne 1 0 rfl rfl (by omega) (by omega) (by omega))) ?_
  refine Bod.aldnT dc_6_7 rfl (by omega) ?_
  refine Bod.txv dc_6_8 xs_6_9 ht ?_
  refine Bod.go dc_6_11 rfl ?_
  refine Bod.stat (r := []) dc_6_12 kr_6_495 (Or.inl rfl) (by rw [np_8]; rfl) (by rw [np_8]; rfl) (by rw [np_8]; exact Nat.le_of_ble_eq_true rfl) (Nat.le_of_ble_eq_true rfl) (tx_at8 (t := t) (i := i) (by omega) (by omega) (tx_n_le t ht)) ?_
  show Bod _ _ _ _ [_] _ _ _
  exact Bod.retC dc_6_15 rt_6 (ch_nar _ (tx_ok t ht i hi).2)
