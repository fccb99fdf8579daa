/-! HOLDS of the reference -/
theorem dc_369_0 : decode (sm_cc 369) 0 = .ok (.iload_n 1, 1) := by decide +kernel
theorem dc_369_1 : decode (sm_cc 369) 1 = .ok (.iconst 3, 1) := by decide +kernel
theorem dc_369_2 : decode (sm_cc 369) 2 = .ok (.if_icmp .ne (15), 3) := by decide +kernel
theorem dc_369_17 : decode (sm_cc 369) 17 = .ok (.return_, 1) := by decide +kernel
theorem rt_369 : sm_rt 369 = none := by decide +kernel
theorem ml_369 : sm_ml 369 = 5 := by decide +kernel
theorem dc_369_5 : decode (sm_cc 369) 5 = .ok (.aload_n 0, 1) := by decide +kernel
theorem dc_369_6 : decode (sm_cc 369) 6 = .ok (.getfield 456, 3) := by decide +kernel
theorem fr_369_456 : sm_at mt_f (sm_ow 369) 456 = some (456, 14, 45, 0, 2118) := by decide +kernel
theorem dc_369_9 : decode (sm_cc 369) 9 = .ok (.lload_n 2, 1) := by decide +kernel
theorem dc_369_10 : decode (sm_cc 369) 10 = .ok (.l2i, 1) := by decide +kernel
theorem dc_369_11 : decode (sm_cc 369) 11 = .ok (.dup2, 1) := by decide +kernel
theorem dc_369_12 : decode (sm_cc 369) 12 = .ok (.iaload, 1) := by decide +kernel
theorem dc_369_13 : decode (sm_cc 369) 13 = .ok (.iload 4, 2) := by decide +kernel
theorem dc_369_15 : decode (sm_cc 369) 15 = .ok (.iadd, 1) := by decide +kernel
theorem dc_369_16 : decode (sm_cc 369) 16 = .ok (.iastore, 1) := by decide +kernel
theorem dc_370_2 : decode (sm_cc 370) 2 = .ok (.iload_n 3, 1) := by decide +kernel
theorem dc_370_3 : decode (sm_cc 370) 3 = .ok (.aload_n 1, 1) := by decide +kernel
theorem dc_370_4 : decode (sm_cc 370) 4 = .ok (.getfield 459, 3) := by decide +kernel
theorem fr_370_459 : sm_at mt_f (sm_ow 370) 459 = some (459, 13, 1, 0, 2772) := by decide +kernel
theorem dc_370_7 : decode (sm_cc 370) 7 = .ok (.if_icmp .ge (26), 3) := by decide +kernel
theorem dc_370_10 : decode (sm_cc 370) 10 = .ok (.aload_n 0, 1) := by decide +kernel
theorem dc_370_11 : decode (sm_cc 370) 11 = .ok (.aload_n 1, 1) := by decide +kernel
theorem dc_370_12 : decode (sm_cc 370) 12 = .ok (.getfield 462, 3) := by decide +kernel
theorem fr_370_462 : sm_at mt_f (sm_ow 370) 462 = some (462, 13, 2, 0, 2774) := by decide +kernel
theorem dc_370_15 : decode (sm_cc 370) 15 = .ok (.iload_n 3, 1) := by decide +kernel
theorem dc_370_16 : decode (sm_cc 370) 16 = .ok (.iaload, 1) := by decide +kernel
theorem dc_370_17 : decode (sm_cc 370) 17 = .ok (.aload_n 1, 1) := by decide +kernel
theorem dc_370_18 : decode (sm_cc 370) 18 = .ok (.getfield 465, 3) := by decide +kernel
theorem fr_370_465 : sm_at mt_f (sm_ow 370) 465 = some (465, 13, 4, 0, 2778) := by decide +kernel
theorem dc_370_21 : decode (sm_cc 370) 21 = .ok (.iload_n 3, 1) := by decide +kernel
theorem dc_370_22 : decode (sm_cc 370) 22 = .ok (.laload, 1) := by decide +kernel
theorem dc_370_23 : decode (sm_cc 370) 23 = .ok (.iload_n 2, 1) := by decide +kernel
theorem dc_370_24 : decode (sm_cc 370) 24 = .ok (.invokevirtual 468, 3) := by decide +kernel
theorem ow_369 : 14 = sm_ow 369 := by decide +kernel
theorem kr_370_468 : sm_at mt_k (sm_ow 370) 468 = some (468, 0, 369, 0, 2745) := by decide +kernel
theorem np_369 : sm_np 369 = 3 := by decide +kernel
theorem dc_370_27 : decode (sm_cc 370) 27 = .ok (.iinc 3 (1), 3) := by decide +kernel
theorem ml_370 : sm_ml 370 = 4 := by decide +kernel
theorem dc_370_30 : decode (sm_cc 370) 30 = .ok (.goto (-28), 3) := by decide +kernel
theorem dc_370_33 : decode (sm_cc 370) 33 = .ok (.aload_n 1, 1) := by decide +kernel
theorem dc_370_34 : decode (sm_cc 370) 34 = .ok (.getfield 472, 3) := by decide +kernel
theorem fr_370_472 : sm_at mt_f (sm_ow 370) 472 = some (472, 13, 11, 0, 2788) := by decide +kernel
theorem dc_370_37 : decode (sm_cc 370) 37 = .ok (.ifCond .lt (16), 3) := by decide +kernel
theorem dc_370_53 : decode (sm_cc 370) 53 = .ok (.aload_n 1, 1) := by decide +kernel
theorem dc_370_54 : decode (sm_cc 370) 54 = .ok (.getfield 475, 3) := by decide +kernel
theorem fr_370_475 : sm_at mt_f (sm_ow 370) 475 = some (475, 13, 12, 0, 2789) := by decide +kernel
theorem dc_370_57 : decode (sm_cc 370) 57 = .ok (.ifCond .lt (16), 3) := by decide +kernel
theorem dc_370_73 : decode (sm_cc 370) 73 = .ok (.return_, 1) := by decide +kernel
theorem rt_370 : sm_rt 370 = none := by decide +kernel
theorem dc_370_60 : decode (sm_cc 370) 60 = .ok (.aload_n 0, 1) := by decide +kernel
theorem dc_370_61 : decode (sm_cc 370) 61 = .ok (.getfield 456, 3) := by decide +kernel
theorem fr_370_456 : sm_at mt_f (sm_ow 370) 456 = some (456, 14, 45, 0, 2118) := by decide +kernel
theorem dc_370_64 : decode (sm_cc 370) 64 = .ok (.aload_n 1, 1) := by decide +kernel
theorem dc_370_65 : decode (sm_cc 370) 65 = .ok (.getfield 475, 3) := by decide +kernel
theorem dc_370_68 : decode (sm_cc 370) 68 = .ok (.dup2, 1) := by decide +kernel
theorem dc_370_69 : decode (sm_cc 370) 69 = .ok (.iaload, 1) := by decide +kernel
theorem dc_370_70 : decode (sm_cc 370) 70 = .ok (.iload_n 2, 1) := by decide +kernel
theorem dc_370_71 : decode (sm_cc 370) 71 = .ok (.iadd, 1) := by decide +kernel
theorem dc_370_72 : decode (sm_cc 370) 72 = .ok (.iastore, 1) := by decide +kernel
theorem dc_370_40 : decode (sm_cc 370) 40 = .ok (.aload_n 0, 1) := by decide +kernel
theorem dc_370_41 : decode (sm_cc 370) 41 = .ok (.getfield 456, 3) := by decide +kernel
theorem dc_370_44 : decode (sm_cc 370) 44 = .ok (.aload_n 1, 1) := by decide +kernel
theorem dc_370_45 : decode (sm_cc 370) 45 = .ok (.getfield 472, 3) := by decide +kernel
theorem dc_370_48 : decode (sm_cc 370) 48 = .ok (.dup2, 1) := by decide +kernel
theorem dc_370_49 : decode (sm_cc 370) 49 = .ok (.iaload, 1) := by decide +kernel
theorem dc_370_50 : decode (sm_cc 370) 50 = .ok (.iload_n 2, 1) := by decide +kernel
theorem dc_370_51 : decode (sm_cc 370) 51 = .ok (.iadd, 1) := by decide +kernel
theorem dc_370_52 : decode (sm_cc 370) 52 = .ok (.iastore, 1) := by decide +kernel
theorem dc_370_0 : decode (sm_cc 370) 0 = .ok (.iconst 0, 1) := by decide +kernel
theorem dc_370_1 : decode (sm_cc 370) 1 = .ok (.istore_n 3, 1) := by decide +kernel
theorem dc_373_0 : decode (sm_cc 373) 0 = .ok (.aload_n 0, 1) := by decide +kernel
theorem dc_373_1 : decode (sm_cc 373) 1 = .ok (.getfield 481, 3) := by decide +kernel
theorem fr_373_481 : sm_at mt_f (sm_ow 373) 481 = some (481, 14, 43, 0, 2116) := by decide +kernel
theorem dc_373_4 : decode (sm_cc 373) 4 = .ok (.iload_n 1, 1) := by decide +kernel
theorem dc_373_5 : decode (sm_cc 373) 5 = .ok (.baload, 1) := by decide +kernel
theorem dc_373_6 : decode (sm_cc 373) 6 = .ok (.ifCond .eq (12), 3) := by decide +kernel
theorem dc_373_18 : decode (sm_cc 373) 18 = .ok (.iload_n 2, 1) := by decide +kernel
theorem dc_373_19 : decode (sm_cc 373) 19 = .ok (.ireturn, 1) := by decide +kernel
theorem rt_373 : sm_rt 373 = some .int := by decide +kernel
theorem ml_373 : sm_ml 373 = 3 := by decide +kernel
theorem dc_373_9 : decode (sm_cc 373) 9 = .ok (.aload_n 0, 1) := by decide +kernel
theorem dc_373_10 : decode (sm_cc 373) 10 = .ok (.getfield 456, 3) := by decide +kernel
theorem fr_373_456 : sm_at mt_f (sm_ow 373) 456 = some (456, 14, 45, 0, 2118) := by decide +kernel
theorem dc_373_13 : decode (sm_cc 373) 13 = .ok (.iload_n 1, 1) := by decide +kernel
theorem dc_373_14 : decode (sm_cc 373) 14 = .ok (.iaload, 1) := by decide +kernel
theorem dc_373_15 : decode (sm_cc 373) 15 = .ok (.ifCond .le (5), 3) := by decide +kernel
theorem dc_373_20 : decode (sm_cc 373) 20 = .ok (.aload_n 0, 1) := by decide +kernel
theorem dc_373_21 : decode (sm_cc 373) 21 = .ok (.getfield 481, 3) := by decide +kernel
theorem dc_373_24 : decode (sm_cc 373) 24 = .ok (.iload_n 1, 1) := by decide +kernel
theorem dc_373_25 : decode (sm_cc 373) 25 = .ok (.iconst 0, 1) := by decide +kernel
theorem dc_373_26 : decode (sm_cc 373) 26 = .ok (.bastore, 1) := by decide +kernel
theorem dc_373_27 : decode (sm_cc 373) 27 = .ok (.aload_n 0, 1) := by decide +kernel
theorem dc_373_28 : decode (sm_cc 373) 28 = .ok (.getfield 514, 3) := by decide +kernel
theorem fr_373_514 : sm_at mt_f (sm_ow 373) 514 = some (514, 14, 46, 0, 2119) := by decide +kernel
theorem dc_373_31 : decode (sm_cc 373) 31 = .ok (.iload_n 2, 1) := by decide +kernel
theorem dc_373_32 : decode (sm_cc 373) 32 = .ok (.iload_n 1, 1) := by decide +kernel
theorem dc_373_33 : decode (sm_cc 373) 33 = .ok (.iastore, 1) := by decide +kernel
theorem dc_373_34 : decode (sm_cc 373) 34 = .ok (.iload_n 2, 1) := by decide +kernel
theorem dc_373_35 : decode (sm_cc 373) 35 = .ok (.iconst 1, 1) := by decide +kernel
theorem dc_373_36 : decode (sm_cc 373) 36 = .ok (.iadd, 1) := by decide +kernel
theorem dc_373_37 : decode (sm_cc 373) 37 = .ok (.ireturn, 1) := by decide +kernel
/-- what a value of the reference holds: its place and one; 0, if none -/
def r_o (c : Int32) (x : Int64) : Nat := if c = nI 3 then gN x.toInt32 + 1 else 0
def r_opt (x : Int32) : Nat := if x = Int32.ofInt (-1) then 0 else gN x + 1
def tK (b : Int32) (S : cS) (o : Nat) : cS := if o = 0 then S else wA 89 (o - 1) (sA S 89 (o - 1) + b) S
theorem tK_Fr (b : Int32) (S : cS) (o : Nat) : Fr [] [89] S (tK b S o) := by
  unfold tK
  split
  · exact Fr.refl _ _ _
  · exact Fr_wA (by decide) (Fr.refl _ _ _)
theorem tK_fold (b : Int32) : ∀ (l : List Nat) (S : cS), Fr [] [89] S (l.foldl (tK b) S) := by
  intro l
  induction l with
  | nil => intro S; exact Fr.refl _ _ _
  | cons o l ih => intro S; exact (tK_Fr b S o).trans (ih _)
def dO (p : cS × Nat) (o : Nat) : cS × Nat := if o = 0 then p else if sA p.1 87 (o - 1) = 0 ∨ 0 < sA p.1 89 (o - 1) then p else (wA 90 p.2 (nI (o - 1)) (wA 87 (o - 1) (vp_nar .boolean (nI 0)) p.1), p.2 + 1)
theorem dO_Fr (p : cS × Nat) (o : Nat) : Fr [] [87, 90] p.1 (dO p o).1 := by
  unfold dO
  split
  · exact Fr.refl _ _ _
  · split
    · exact Fr.refl _ _ _
    · exact Fr_wA (by decide) (Fr_wA (by decide) (Fr.refl _ _ _))
theorem dO_fold : ∀ (l : List Nat) (p : cS × Nat), Fr [] [87, 90] p.1 (l.foldl dO p).1 := by
  intro l
  induction l with
  | nil => intro p; exact Fr.refl _ _ _
  | cons o l ih => intro p; exact (dO_Fr p o).trans (ih _)
theorem rhold_no {d : Nat} {S : cS} {c : Int32} {x : Int64} {b : Int32} (hc : c ≠ nI 3) : Ans (d + 1) 369 [.ref 61, .int c, .long x, .int b] S (none) (S) := by
  refine Ans.of (by rw [ml_369]; exact Nat.le_of_ble_eq_true rfl) ?_
  refine Bod.go dc_369_0 rfl ?_
  refine Bod.ic 3 (by decide) dc_369_1 ?_
  refine Bod.icT dc_369_2 rfl (k2_ne_T hc) ?_
  exact Bod.retV dc_369_17 rt_369
theorem rhold_yes {d : Nat} {S : cS} {x : Int64} {b : Int32} {o : Nat} (hx : x.toInt32 = nI o) (ho : o < 1500) : Ans (d + 1) 369 [.ref 61, .int (nI 3), .long x, .int b] S (none) (wA 89 o ((sA S 89 o) + b) S) := by
  refine Ans.of (by rw [ml_369]; exact Nat.le_of_ble_eq_true rfl) ?_
  refine Bod.go dc_369_0 rfl ?_
  refine Bod.ic 3 (by decide) dc_369_1 ?_
  refine Bod.icF dc_369_2 rfl (k2_ne_F (k_eq 3 3 rfl rfl (by omega))) ?_
  refine Bod.go dc_369_5 rfl ?_
  refine Bod.get dc_369_6 fr_369_456 (mk_61 _) rfl ?_
  refine Bod.go dc_369_9 rfl ?_
  refine Bod.go dc_369_10 rfl ?_
  refine Bod.eqI (nI o) hx ?_
  refine Bod.go dc_369_11 rfl ?_
  refine Bod.ialdN o rfl (by omega) (by omega) dc_369_12 (mk_89 _) ?_
  refine Bod.go dc_369_13 rfl ?_
  refine Bod.go dc_369_15 rfl ?_
  refine Bod.iastN o rfl (by omega) (by omega) dc_369_16 (mk_89 _) (sa_89 _ _ _) (mu_A _ _ _ _) ?_
  exact Bod.retV dc_369_17 rt_369
theorem rhold_ev {d : Nat} {S : cS} {c b : Int32} {x : Int64} (h : c = nI 3 → ∃ o, o < 1500 ∧ x.toInt32 = nI o) : Ans (d + 1) 369 [.ref 61, .int c, .long x, .int b] S none (tK b S (r_o c x)) := by
  unfold r_o
  by_cases hc : c = nI 3
  · obtain ⟨o, ho, hx⟩ := h hc
    subst hc
    rw [if_pos rfl, hx, gN_nI (by omega)]
    unfold tK
    rw [if_neg (by omega), Nat.add_sub_cancel]
    exact rhold_yes hx ho
  · rw [if_neg hc]
    exact rhold_no hc
theorem holdAll_end00 {d i t h m N : Nat} {b : Int32} {S : cS} (ht : 108 ≤ t) (hs : (sS S)[t - 108]? = some (13, N)) (hh : sI S (100 * t + 11) = Int32.ofInt (-1)) (hm : sI S (100 * t + 12) = Int32.ofInt (-1)) (hb : h < 1500) (hb2 : m < 1500) : Bod (d + 1) 370 33 (sm_p1 (lv_args 0 [.ref 61, .ref t, .int b]) 3 (.int (nI i))) [] S none (S) := by
  refine Bod.go dc_370_33 rfl ?_
  refine Bod.get dc_370_34 fr_370_472 (mk_thing ht hs) rfl ?_
  refine Bod.eqI (Int32.ofInt (-1)) hh ?_
  refine Bod.ifT dc_370_37 rfl (by decide) ?_
  refine Bod.go dc_370_53 rfl ?_
  refine Bod.get dc_370_54 fr_370_475 (mk_thing ht hs) rfl ?_
  refine Bod.eqI (Int32.ofInt (-1)) hm ?_
  refine Bod.ifT dc_370_57 rfl (by decide) ?_
  exact Bod.retV dc_370_73 rt_370
theorem holdAll_end01 {d i t h m N : Nat} {b : Int32} {S : cS} (ht : 108 ≤ t) (hs : (sS S)[t - 108]? = some (13, N)) (hh : sI S (100 * t + 11) = Int32.ofInt (-1)) (hm : sI S (100 * t + 12) = nI m) (hb : h < 1500) (hb2 : m < 1500) : Bod (d + 1) 370 33 (sm_p1 (lv_args 0 [.ref 61, .ref t, .int b]) 3 (.int (nI i))) [] S none (wA 89 m ((sA S 89 m) + b) S) := by
  refine Bod.go dc_370_33 rfl ?_
  refine Bod.get dc_370_34 fr_370_472 (mk_thing ht hs) rfl ?_
  refine Bod.eqI (Int32.ofInt (-1)) hh ?_
  refine Bod.ifT dc_370_37 rfl (by decide) ?_
  refine Bod.go dc_370_53 rfl ?_
  refine Bod.get dc_370_54 fr_370_475 (mk_thing ht hs) rfl ?_
  refine Bod.eqI (nI m) (by first | assumption | rfl | exact congrArg nI (by omega) | (simp (disch := omega) only [rI, rIe, rA, rIA, rLA, rJA, rVI, rQI, rVA, rQA, upd_at,  rAI, rLI, rJI, nI_add, pk_sub, kc_0, kc_1, kc_2, kc_3, kc_4, kc_5, reduceIte, Nat.reduceEqDiff, Nat.add_zero, rI_hold, rI_hold, rL_hold, hm]; done)) ?_
  refine Bod.ifF dc_370_57 rfl (k1_lt_F m rfl (by omega)) ?_
  refine Bod.go dc_370_60 rfl ?_
  refine Bod.get dc_370_61 fr_370_456 (mk_61 _) rfl ?_
  refine Bod.go dc_370_64 rfl ?_
  refine Bod.get dc_370_65 fr_370_475 (mk_thing ht hs) rfl ?_
  refine Bod.eqI (nI m) (by first | assumption | rfl | exact congrArg nI (by omega) | (simp (disch := omega) only [rI, rIe, rA, rIA, rLA, rJA, rVI, rQI, rVA, rQA, upd_at,  rAI, rLI, rJI, nI_add, pk_sub, kc_0, kc_1, kc_2, kc_3, kc_4, kc_5, reduceIte, Nat.reduceEqDiff, Nat.add_zero, rI_hold, rI_hold, rL_hold, hm]; done)) ?_
  refine Bod.go dc_370_68 rfl ?_
  refine Bod.ialdN m rfl (by omega) (by omega) dc_370_69 (mk_89 _) ?_
  refine Bod.go dc_370_70 rfl ?_
  refine Bod.go dc_370_71 rfl ?_
  refine Bod.iastN m rfl (by omega) (by omega) dc_370_72 (mk_89 _) (sa_89 _ _ _) (mu_A _ _ _ _) ?_
  exact Bod.retV dc_370_73 rt_370
theorem holdAll_end10 {d i t h m N : Nat} {b : Int32} {S : cS} (ht : 108 ≤ t) (hs : (sS S)[t - 108]? = some (13, N)) (hh : sI S (100 * t + 11) = nI h) (hm : sI S (100 * t + 12) = Int32.ofInt (-1)) (hb : h < 1500) (hb2 : m < 1500) : Bod (d + 1) 370 33 (sm_p1 (lv_args 0 [.ref 61, .ref t, .int b]) 3 (.int (nI i))) [] S none (wA 89 h ((sA S 89 h) + b) S) := by
  refine Bod.go dc_370_33 rfl ?_
  refine Bod.get dc_370_34 fr_370_472 (mk_thing ht hs) rfl ?_
  refine Bod.eqI (nI h) (by first | assumption | rfl | exact congrArg nI (by omega) | (simp (disch := omega) only [rI, rIe, rA, rIA, rLA, rJA, rVI, rQI, rVA, rQA, upd_at,  rAI, rLI, rJI, nI_add, pk_sub, kc_0, kc_1, kc_2, kc_3, kc_4, kc_5, reduceIte, Nat.reduceEqDiff, Nat.add_zero, rI_hold, rI_hold, rL_hold, hh]; done)) ?_
  refine Bod.ifF dc_370_37 rfl (k1_lt_F h rfl (by omega)) ?_
  refine Bod.go dc_370_40 rfl ?_
  refine Bod.get dc_370_41 fr_370_456 (mk_61 _) rfl ?_
  refine Bod.go dc_370_44 rfl ?_
  refine Bod.get dc_370_45 fr_370_472 (mk_thing ht hs) rfl ?_
  refine Bod.eqI (nI h) (by first | assumption | rfl | exact congrArg nI (by omega) | (simp (disch := omega) only [rI, rIe, rA, rIA, rLA, rJA, rVI, rQI, rVA, rQA, upd_at,  rAI, rLI, rJI, nI_add, pk_sub, kc_0, kc_1, kc_2, kc_3, kc_4, kc_5, reduceIte, Nat.reduceEqDiff, Nat.add_zero, rI_hold, rI_hold, rL_hold, hh]; done)) ?_
  refine Bod.go dc_370_48 rfl ?_
  refine Bod.ialdN h rfl (by omega) (by omega) dc_370_49 (mk_89 _) ?_
  refine Bod.go dc_370_50 rfl ?_
  refine Bod.go dc_370_51 rfl ?_
  refine Bod.iastN h rfl (by omega) (by omega) dc_370_52 (mk_89 _) (sa_89 _ _ _) (mu_A _ _ _ _) ?_
  refine Bod.go dc_370_53 rfl ?_
  refine Bod.get dc_370_54 fr_370_475 (mk_thing ht (by simp only [rIS, rJS, rAS, rLS, rVS, rQS, rS_hold]; exact hs)) rfl ?_
  refine Bod.eqI (Int32.ofInt (-1)) (by simp only [rAI]; exact hm) ?_
  refine Bod.ifT dc_370_57 rfl (by decide) ?_
  exact Bod.retV dc_370_73 rt_370
theorem holdAll_end11 {d i t h m N : Nat} {b : Int32} {S : cS} (ht : 108 ≤ t) (hs : (sS S)[t - 108]? = some (13, N)) (hh : sI S (100 * t + 11) = nI h) (hm : sI S (100 * t + 12) = nI m) (hb : h < 1500) (hb2 : m < 1500) : Bod (d + 1) 370 33 (sm_p1 (lv_args 0 [.ref 61, .ref t, .int b]) 3 (.int (nI i))) [] S none (wA 89 m ((sA (wA 89 h ((sA S 89 h) + b) S) 89 m) + b) (wA 89 h ((sA S 89 h) + b) S)) := by
  refine Bod.go dc_370_33 rfl ?_
  refine Bod.get dc_370_34 fr_370_472 (mk_thing ht hs) rfl ?_
  refine Bod.eqI (nI h) (by first | assumption | rfl | exact congrArg nI (by omega) | (simp (disch := omega) only [rI, rIe, rA, rIA, rLA, rJA, rVI, rQI, rVA, rQA, upd_at,  rAI, rLI, rJI, nI_add, pk_sub, kc_0, kc_1, kc_2, kc_3, kc_4, kc_5, reduceIte, Nat.reduceEqDiff, Nat.add_zero, rI_hold, rI_hold, rL_hold, hh, hm]; done)) ?_
  refine Bod.ifF dc_370_37 rfl (k1_lt_F h rfl (by omega)) ?_
  refine Bod.go dc_370_40 rfl ?_
  refine Bod.get dc_370_41 fr_370_456 (mk_61 _) rfl ?_
  refine Bod.go dc_370_44 rfl ?_
  refine Bod.get dc_370_45 fr_370_472 (mk_thing ht hs) rfl ?_
  refine Bod.eqI (nI h) (by first | assumption | rfl | exact congrArg nI (by omega) | (simp (disch := omega) only [rI, rIe, rA, rIA, rLA, rJA, rVI, rQI, rVA, rQA, upd_at,  rAI, rLI, rJI, nI_add, pk_sub, kc_0, kc_1, kc_2, kc_3, kc_4, kc_5, reduceIte, Nat.reduceEqDiff, Nat.add_zero, rI_hold, rI_hold, rL_hold, hh, hm]; done)) ?_
  refine Bod.go dc_370_48 rfl ?_
  refine Bod.ialdN h rfl (by omega) (by omega) dc_370_49 (mk_89 _) ?_
  refine Bod.go dc_370_50 rfl ?_
  refine Bod.go dc_370_51 rfl ?_
  refine Bod.iastN h rfl (by omega) (by omega) dc_370_52 (mk_89 _) (sa_89 _ _ _) (mu_A _ _ _ _) ?_
  refine Bod.go dc_370_53 rfl ?_
  refine Bod.get dc_370_54 fr_370_475 (mk_thing ht (by simp only [rIS, rJS, rAS, rLS, rVS, rQS, rS_hold]; exact hs)) rfl ?_
  refine Bod.eqI (nI m) (by first | (simp (disch := omega) only [rI, rIe, rA, rIA, rLA, rJA, rVI, rQI, rVA, rQA, upd_at,  rAI, rLI, rJI, nI_add, pk_sub, kc_0, kc_1, kc_2, kc_3, kc_4, kc_5, reduceIte, Nat.reduceEqDiff, Nat.add_zero, rI_hold, rI_hold, rL_hold, hh, hm]; done) | (simp (disch := omega) only [rI, rIe, rA, rIA, rLA, rJA, rVI, rQI, rVA, rQA, upd_at,  rAI, rLI, rJI, nI_add, pk_sub, kc_0, kc_1, kc_2, kc_3, kc_4, kc_5, reduceIte, Nat.reduceEqDiff, Nat.add_zero, rI_hold, rI_hold, rL_hold, hh, hm]; exact congrArg nI (by omega))) ?_
  refine Bod.ifF dc_370_57 rfl (k1_lt_F m rfl (by omega)) ?_
  refine Bod.go dc_370_60 rfl ?_
  refine Bod.get dc_370_61 fr_370_456 (mk_61 _) rfl ?_
  refine Bod.go dc_370_64 rfl ?_
  refine Bod.get dc_370_65 fr_370_475 (mk_thing ht (by simp only [rIS, rJS, rAS, rLS, rVS, rQS, rS_hold]; exact hs)) rfl ?_
  refine Bod.eqI (nI m) (by first | (simp (disch := omega) only [rI, rIe, rA, rIA, rLA, rJA, rVI, rQI, rVA, rQA, upd_at,  rAI, rLI, rJI, nI_add, pk_sub, kc_0, kc_1, kc_2, kc_3, kc_4, kc_5, reduceIte, Nat.reduceEqDiff, Nat.add_zero, rI_hold, rI_hold, rL_hold, hh, hm]; done) | (simp (disch := omega) only [rI, rIe, rA, rIA, rLA, rJA, rVI, rQI, rVA, rQA, upd_at,  rAI, rLI, rJI, nI_add, pk_sub, kc_0, kc_1, kc_2, kc_3, kc_4, kc_5, reduceIte, Nat.reduceEqDiff, Nat.add_zero, rI_hold, rI_hold, rL_hold, hh, hm]; exact congrArg nI (by omega))) ?_
  refine Bod.go dc_370_68 rfl ?_
  refine Bod.ialdN m rfl (by omega) (by omega) dc_370_69 (mk_89 _) ?_
  refine Bod.go dc_370_70 rfl ?_
  refine Bod.go dc_370_71 rfl ?_
  refine Bod.iastN m rfl (by omega) (by omega) dc_370_72 (mk_89 _) (sa_89 _ _ _) (mu_A _ _ _ _) ?_
  exact Bod.retV dc_370_73 rt_370
/-- a link: none, or a place -/
def r_lk (x : Int32) : Prop := x = Int32.ofInt (-1) ∨ ∃ h, h < 1500 ∧ x = nI h
theorem nI_neg1 {h : Nat} (hh : h < 1500) : nI h ≠ Int32.ofInt (-1) := nI_nm1 (by omega)
theorem r_opt_n : r_opt (Int32.ofInt (-1)) = 0 := if_pos rfl
theorem r_opt_y {h : Nat} (hh : h < 1500) : r_opt (nI h) = h + 1 := by
  unfold r_opt
  rw [if_neg (nI_neg1 hh), gN_nI (by omega)]
theorem tK_0 (b : Int32) (S : cS) : tK b S 0 = S := if_pos rfl
theorem tK_1 (b : Int32) (S : cS) (h : Nat) : tK b S (h + 1) = wA 89 h (sA S 89 h + b) S := by
  unfold tK
  rw [if_neg (by omega), Nat.add_sub_cancel]
theorem holdAll_end {d i t N : Nat} {b : Int32} {S : cS} (ht : 108 ≤ t) (hs : (sS S)[t - 108]? = some (13, N)) (hh : r_lk (sI S (100 * t + 11))) (hm : r_lk (sI S (100 * t + 12))) : Bod (d + 1) 370 33 (sm_p1 (lv_args 0 [.ref 61, .ref t, .int b]) 3 (.int (nI i))) [] S none ([r_opt (sI S (100 * t + 11)), r_opt (sI S (100 * t + 12))].foldl (tK b) S) := by
  show Bod _ _ _ _ _ _ _ (tK b (tK b S (r_opt (sI S (100 * t + 11)))) (r_opt (sI S (100 * t + 12))))
  rcases hh with hh | ⟨h, hb, hh⟩ <;> rcases hm with hm | ⟨m, hb2, hm⟩
  · rw [hh, hm, r_opt_n, tK_0, tK_0]
    exact holdAll_end00 (h := 0) (m := 0) ht hs hh hm (by omega) (by omega)
  · rw [hh, hm, r_opt_n, r_opt_y hb2, tK_0, tK_1]
    exact holdAll_end01 (h := 0) ht hs hh hm (by omega) hb2
  · rw [hh, hm, r_opt_n, r_opt_y hb, tK_0, tK_1]
    exact holdAll_end10 (m := 0) ht hs hh hm hb (by omega)
  · rw [hh, hm, r_opt_y hb, r_opt_y hb2, tK_1, tK_1]
    exact holdAll_end11 ht hs hh hm hb hb2
theorem holdAll_loop {d t z v2 v4 n N : Nat} {b : Int32} {S0 : cS} {f : Nat → Nat} (ht : 108 ≤ t) (hs : (sS S0)[t - 108]? = some (13, N)) (hz : sI S0 (100 * t + 1) = nI z) (hv2 : sV S0 (100 * t + 2) = .ref v2) (hv4 : sV S0 (100 * t + 4) = .ref v4) (hk2 : isK S0 v2 0 n) (hk4 : isK S0 v4 1 n) (hzn : z ≤ n) (hn : n < 2 ^ 20) (hf : ∀ i, i < z → f i = r_o (sA S0 v2 i) (sL S0 v4 i)) (ho : ∀ i, i < z → sA S0 v2 i = nI 3 → ∃ o, o < 1500 ∧ (sL S0 v4 i).toInt32 = nI o) (hne : v2 ∉ [89]) (hh : r_lk (sI S0 (100 * t + 11))) (hm : r_lk (sI S0 (100 * t + 12))) : ∀ (r i : Nat) (S : cS), i + r = z → Fr [] [89] S0 S → Bod (d + 1) 370 2 (sm_p1 (lv_args 0 [.ref 61, .ref t, .int b]) 3 (.int (nI i))) [] S none ((seqN f i r ++ [r_opt (sI S0 (100 * t + 11)), r_opt (sI S0 (100 * t + 12))]).foldl (tK b) S) := by
  intro r
  induction r with
  | zero =>
    intro i S hi hF
    have hs : (sS S)[t - 108]? = some (13, N) := by rw [hF.2.2.2.2.1]; exact hs
    have hz : sI S (100 * t + 1) = nI z := by rw [hF.I List.not_mem_nil]; exact hz
    have hv2 : sV S (100 * t + 2) = .ref v2 := by rw [hF.2.2.1]; exact hv2
    have hv4 : sV S (100 * t + 4) = .ref v4 := by rw [hF.2.2.1]; exact hv4
    have hk2 : isK S v2 0 n := isK_S hF.2.2.2.2.1 hk2
    have hk4 : isK S v4 1 n := isK_S hF.2.2.2.2.1 hk4
    have hA2 : sA S v2 = sA S0 v2 := hF.A hne
    have hL4 : sL S = sL S0 := hF.2.1
    refine Bod.go dc_370_2 rfl ?_
    refine Bod.go dc_370_3 rfl ?_
    refine Bod.get dc_370_4 fr_370_459 (mk_thing ht hs) rfl ?_
    refine Bod.eqI (nI z) (by first | assumption | rfl | exact congrArg nI (by omega) | (simp (disch := omega) only [rI, rIe, rA, rIA, rLA, rJA, rVI, rQI, rVA, rQA, upd_at,  rAI, rLI, rJI, nI_add, pk_sub, kc_0, kc_1, kc_2, kc_3, kc_4, kc_5, reduceIte, Nat.reduceEqDiff, Nat.add_zero, rI_hold, rI_hold, rL_hold, hz]; done)) ?_
    refine Bod.icT dc_370_7 rfl (k2_ge_T i z rfl rfl (by omega) (by omega)) ?_
    show Bod _ _ _ _ _ _ _ ([r_opt (sI S0 (100 * t + 11)), r_opt (sI S0 (100 * t + 12))].foldl (tK b) S)
    rw [← hF.I (i := 100 * t + 11) List.not_mem_nil, ← hF.I (i := 100 * t + 12) List.not_mem_nil]
    exact holdAll_end ht hs (by rw [hF.I List.not_mem_nil]; exact hh) (by rw [hF.I List.not_mem_nil]; exact hm)
  | succ r ih =>
    intro i S hi hF
    have hnext := ih (i + 1) (tK b S (f i)) (by omega) (hF.trans (tK_Fr b S (f i)))
    have hs : (sS S)[t - 108]? = some (13, N) := by rw [hF.2.2.2.2.1]; exact hs
    have hz : sI S (100 * t + 1) = nI z := by rw [hF.I List.not_mem_nil]; exact hz
    have hv2 : sV S (100 * t + 2) = .ref v2 := by rw [hF.2.2.1]; exact hv2
    have hv4 : sV S (100 * t + 4) = .ref v4 := by rw [hF.2.2.1]; exact hv4
    have hk2 : isK S v2 0 n := isK_S hF.2.2.2.2.1 hk2
    have hk4 : isK S v4 1 n := isK_S hF.2.2.2.2.1 hk4
    have hA2 : sA S v2 = sA S0 v2 := hF.A hne
    have hL4 : sL S = sL S0 := hF.2.1
    have e : f i = r_o (sA S v2 i) (sL S v4 i) := by rw [hA2, hL4]; exact hf i (by omega)
    rw [e] at hnext
    show Bod _ _ _ _ _ _ _ ((seqN f (i + 1) r ++ [r_opt (sI S0 (100 * t + 11)), r_opt (sI S0 (100 * t + 12))]).foldl (tK b) (tK b S (f i)))
    rw [e]
    refine Bod.go dc_370_2 rfl ?_
    refine Bod.go dc_370_3 rfl ?_
    refine Bod.get dc_370_4 fr_370_459 (mk_thing ht hs) rfl ?_
    refine Bod.eqI (nI z) (by first | assumption | rfl | exact congrArg nI (by omega) | (simp (disch := omega) only [rI, rIe, rA, rIA, rLA, rJA, rVI, rQI, rVA, rQA, upd_at,  rAI, rLI, rJI, nI_add, pk_sub, kc_0, kc_1, kc_2, kc_3, kc_4, kc_5, reduceIte, Nat.reduceEqDiff, Nat.add_zero, rI_hold, rI_hold, rL_hold, hz]; done)) ?_
    refine Bod.icF dc_370_7 rfl (k2_ge_F i z rfl rfl (by omega) (by omega)) ?_
    refine Bod.go dc_370_10 rfl ?_
    refine Bod.go dc_370_11 rfl ?_
    refine Bod.get dc_370_12 fr_370_462 (mk_thing ht hs) rfl ?_
    refine Bod.eqV (.ref v2) hv2 ?_
    refine Bod.go dc_370_15 rfl ?_
    refine Bod.ialdN (N := n) i rfl (by omega) (by omega) dc_370_16 (mk_isI hk2) ?_
    refine Bod.go dc_370_17 rfl ?_
    refine Bod.get dc_370_18 fr_370_465 (mk_thing ht hs) rfl ?_
    refine Bod.eqV (.ref v4) hv4 ?_
    refine Bod.go dc_370_21 rfl ?_
    refine Bod.laldN (N := n) i rfl (by omega) (by omega) dc_370_22 (mk_isL hk4) ?_
    refine Bod.go dc_370_23 rfl ?_
    refine Bod.virt (r := []) dc_370_24 kr_370_468 ⟨Or.inl rfl, ow_369, cl_14⟩ (by rw [np_369]; rfl) (by rw [np_369]; rfl) (ob_of (mk_61 _)) (Nat.le_of_ble_eq_true rfl) (rhold_ev (c := (sA S v2 i)) (x := (sL S v4 i)) (b := b) (by rw [hA2, hL4]; exact ho i (by omega))) ?_
    show Bod _ _ _ _ [] _ _ _
    refine Bod.incN (i + 1) (by rw [kc_1, nI_add]) dc_370_27 (by rw [ml_370]; exact Nat.le_of_ble_eq_true rfl) rfl ?_
    refine Bod.go dc_370_30 rfl ?_
    rw [sm_p1_p1]
    exact hnext
theorem holdAll_ev {d t z v2 v4 n N : Nat} {b : Int32} {S0 : cS} {f : Nat → Nat} (ht : 108 ≤ t) (hs : (sS S0)[t - 108]? = some (13, N)) (hz : sI S0 (100 * t + 1) = nI z) (hv2 : sV S0 (100 * t + 2) = .ref v2) (hv4 : sV S0 (100 * t + 4) = .ref v4) (hk2 : isK S0 v2 0 n) (hk4 : isK S0 v4 1 n) (hzn : z ≤ n) (hn : n < 2 ^ 20) (hf : ∀ i, i < z → f i = r_o (sA S0 v2 i) (sL S0 v4 i)) (ho : ∀ i, i < z → sA S0 v2 i = nI 3 → ∃ o, o < 1500 ∧ (sL S0 v4 i).toInt32 = nI o) (hne : v2 ∉ [89]) (hh : r_lk (sI S0 (100 * t + 11))) (hm : r_lk (sI S0 (100 * t + 12))) : Ans (d + 2) 370 [.ref 61, .ref t, .int b] S0 none ((seqN f 0 z ++ [r_opt (sI S0 (100 * t + 11)), r_opt (sI S0 (100 * t + 12))]).foldl (tK b) S0) := by
  refine Ans.of (by rw [ml_370]; exact Nat.le_of_ble_eq_true rfl) ?_
  refine Bod.ic 0 (by decide) dc_370_0 ?_
  refine Bod.istn dc_370_1 (by rw [ml_370]; exact Nat.le_of_ble_eq_true rfl) ?_
  exact holdAll_loop ht hs hz hv2 hv4 hk2 hk4 hzn hn hf ho hne hh hm z 0 S0 (by omega) (Fr.refl _ _ _)
theorem dropOne_dead {d : Nat} {S : cS} {k : Nat} {n : Nat} (hk : k < 1500) (he : sA S 87 k = 0) : Ans (d + 1) 373 [.ref 61, .int (nI k), .int (nI n)] S (some (.int (nI n))) (S) := by
  refine Ans.of (by rw [ml_373]; exact Nat.le_of_ble_eq_true rfl) ?_
  refine Bod.go dc_373_0 rfl ?_
  refine Bod.get dc_373_1 fr_373_481 (mk_61 _) rfl ?_
  refine Bod.go dc_373_4 rfl ?_
  refine Bod.baldN k rfl (by omega) (by omega) dc_373_5 (mk_87 _) (Or.inr rfl) ?_
  refine Bod.ifT dc_373_6 rfl (k1_eq_T he) ?_
  refine Bod.go dc_373_18 rfl ?_
  exact Bod.retI dc_373_19 rt_373
theorem dropOne_held {d : Nat} {S : cS} {k : Nat} {n : Nat} (hk : k < 1500) (he : sA S 87 k ≠ 0) (hg : 0 < sA S 89 k) : Ans (d + 1) 373 [.ref 61, .int (nI k), .int (nI n)] S (some (.int (nI n))) (S) := by
  refine Ans.of (by rw [ml_373]; exact Nat.le_of_ble_eq_true rfl) ?_
  refine Bod.go dc_373_0 rfl ?_
  refine Bod.get dc_373_1 fr_373_481 (mk_61 _) rfl ?_
  refine Bod.go dc_373_4 rfl ?_
  refine Bod.baldN k rfl (by omega) (by omega) dc_373_5 (mk_87 _) (Or.inr rfl) ?_
  refine Bod.ifF dc_373_6 rfl (k1_eq_F he) ?_
  refine Bod.go dc_373_9 rfl ?_
  refine Bod.get dc_373_10 fr_373_456 (mk_61 _) rfl ?_
  refine Bod.go dc_373_13 rfl ?_
  refine Bod.ialdN k rfl (by omega) (by omega) dc_373_14 (mk_89 _) ?_
  refine Bod.ifF dc_373_15 rfl (if_neg (by rw [Int32.not_le]; exact hg)) ?_
  refine Bod.go dc_373_18 rfl ?_
  exact Bod.retI dc_373_19 rt_373
theorem dropOne_go {d : Nat} {S : cS} {k : Nat} {n : Nat} (hk : k < 1500) (hn : n < 1500) (he : sA S 87 k ≠ 0) (hg : ¬ 0 < sA S 89 k) : Ans (d + 1) 373 [.ref 61, .int (nI k), .int (nI n)] S (some (.int (nI (n + 1)))) (wA 90 n (nI k) (wA 87 k (vp_nar .boolean (nI 0)) S)) := by
  refine Ans.of (by rw [ml_373]; exact Nat.le_of_ble_eq_true rfl) ?_
  refine Bod.go dc_373_0 rfl ?_
  refine Bod.get dc_373_1 fr_373_481 (mk_61 _) rfl ?_
  refine Bod.go dc_373_4 rfl ?_
  refine Bod.baldN k rfl (by omega) (by omega) dc_373_5 (mk_87 _) (Or.inr rfl) ?_
  refine Bod.ifF dc_373_6 rfl (k1_eq_F he) ?_
  refine Bod.go dc_373_9 rfl ?_
  refine Bod.get dc_373_10 fr_373_456 (mk_61 _) rfl ?_
  refine Bod.go dc_373_13 rfl ?_
  refine Bod.ialdN k rfl (by omega) (by omega) dc_373_14 (mk_89 _) ?_
  refine Bod.ifT dc_373_15 rfl (if_pos (Int32.not_lt.mp hg)) ?_
  refine Bod.go dc_373_20 rfl ?_
  refine Bod.get dc_373_21 fr_373_481 (mk_61 _) rfl ?_
  refine Bod.go dc_373_24 rfl ?_
  refine Bod.ic 0 (by decide) dc_373_25 ?_
  refine Bod.zastN k rfl (by omega) (by omega) dc_373_26 (mk_87 _) (sa_87 _ _ _) (mu_A _ _ _ _) ?_
  refine Bod.go dc_373_27 rfl ?_
  refine Bod.get dc_373_28 fr_373_514 (mk_61 _) rfl ?_
  refine Bod.go dc_373_31 rfl ?_
  refine Bod.go dc_373_32 rfl ?_
  refine Bod.iastN n rfl (by omega) (by omega) dc_373_33 (mk_90 _) (sa_90 _ _ _) (mu_A _ _ _ _) ?_
  refine Bod.go dc_373_34 rfl ?_
  refine Bod.ic 1 (by decide) dc_373_35 ?_
  refine Bod.addN (n + 1) (by omega) dc_373_36 ?_
  exact Bod.retI dc_373_37 rt_373
