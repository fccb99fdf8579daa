/-! WAYS of the reference's machine: every call is a hypothesis -/
theorem dc_400_573 : decode (sm_cc 400) 573 = .ok (.aload_n 0, 1) := by decide +kernel
theorem dc_400_574 : decode (sm_cc 400) 574 = .ok (.iconst 3, 1) := by decide +kernel
theorem dc_400_575 : decode (sm_cc 400) 575 = .ok (.invokevirtual 686, 3) := by decide +kernel
theorem kr_400_686 : sm_at mt_k (sm_ow 400) 686 = some (686, 0, 364, 0, 2726) := by decide +kernel
theorem dc_400_578 : decode (sm_cc 400) 578 = .ok (.istore_n 3, 1) := by decide +kernel
theorem dc_400_579 : decode (sm_cc 400) 579 = .ok (.iload_n 3, 1) := by decide +kernel
theorem dc_400_580 : decode (sm_cc 400) 580 = .ok (.ifCond .ge (5), 3) := by decide +kernel
theorem dc_400_585 : decode (sm_cc 400) 585 = .ok (.aload_n 0, 1) := by decide +kernel
theorem dc_400_586 : decode (sm_cc 400) 586 = .ok (.getfield 485, 3) := by decide +kernel
theorem fr_400_485 : sm_at mt_f (sm_ow 400) 485 = some (485, 14, 42, 0, 2115) := by decide +kernel
theorem dc_400_589 : decode (sm_cc 400) 589 = .ok (.iload_n 3, 1) := by decide +kernel
theorem dc_400_590 : decode (sm_cc 400) 590 = .ok (.aaload, 1) := by decide +kernel
theorem dc_400_591 : decode (sm_cc 400) 591 = .ok (.aload_n 0, 1) := by decide +kernel
theorem dc_400_592 : decode (sm_cc 400) 592 = .ok (.getfield 568, 3) := by decide +kernel
theorem fr_400_568 : sm_at mt_f (sm_ow 400) 568 = some (568, 14, 52, 0, 2125) := by decide +kernel
theorem dc_400_595 : decode (sm_cc 400) 595 = .ok (.aload_n 0, 1) := by decide +kernel
theorem dc_400_596 : decode (sm_cc 400) 596 = .ok (.getfield 502, 3) := by decide +kernel
theorem fr_400_502 : sm_at mt_f (sm_ow 400) 502 = some (502, 14, 59, 0, 2132) := by decide +kernel
theorem dc_400_599 : decode (sm_cc 400) 599 = .ok (.iconst 1, 1) := by decide +kernel
theorem dc_400_600 : decode (sm_cc 400) 600 = .ok (.isub, 1) := by decide +kernel
theorem dc_400_601 : decode (sm_cc 400) 601 = .ok (.aaload, 1) := by decide +kernel
theorem dc_400_602 : decode (sm_cc 400) 602 = .ok (.putfield 533, 3) := by decide +kernel
theorem fr_400_533 : sm_at mt_f (sm_ow 400) 533 = some (533, 13, 8, 0, 2785) := by decide +kernel
theorem dc_400_605 : decode (sm_cc 400) 605 = .ok (.aload_n 0, 1) := by decide +kernel
theorem dc_400_606 : decode (sm_cc 400) 606 = .ok (.getfield 485, 3) := by decide +kernel
theorem dc_400_609 : decode (sm_cc 400) 609 = .ok (.iload_n 3, 1) := by decide +kernel
theorem dc_400_610 : decode (sm_cc 400) 610 = .ok (.aaload, 1) := by decide +kernel
theorem dc_400_611 : decode (sm_cc 400) 611 = .ok (.iload_n 2, 1) := by decide +kernel
theorem dc_400_612 : decode (sm_cc 400) 612 = .ok (.putfield 689, 3) := by decide +kernel
theorem fr_400_689 : sm_at mt_f (sm_ow 400) 689 = some (689, 13, 9, 0, 2786) := by decide +kernel
theorem dc_400_615 : decode (sm_cc 400) 615 = .ok (.aload_n 0, 1) := by decide +kernel
theorem dc_400_616 : decode (sm_cc 400) 616 = .ok (.getfield 485, 3) := by decide +kernel
theorem dc_400_619 : decode (sm_cc 400) 619 = .ok (.iload_n 3, 1) := by decide +kernel
theorem dc_400_620 : decode (sm_cc 400) 620 = .ok (.aaload, 1) := by decide +kernel
theorem dc_400_621 : decode (sm_cc 400) 621 = .ok (.aload_n 0, 1) := by decide +kernel
theorem dc_400_622 : decode (sm_cc 400) 622 = .ok (.getfield 568, 3) := by decide +kernel
theorem dc_400_625 : decode (sm_cc 400) 625 = .ok (.aload_n 0, 1) := by decide +kernel
theorem dc_400_626 : decode (sm_cc 400) 626 = .ok (.getfield 502, 3) := by decide +kernel
theorem dc_400_629 : decode (sm_cc 400) 629 = .ok (.iconst 1, 1) := by decide +kernel
theorem dc_400_630 : decode (sm_cc 400) 630 = .ok (.isub, 1) := by decide +kernel
theorem dc_400_631 : decode (sm_cc 400) 631 = .ok (.aaload, 1) := by decide +kernel
theorem dc_400_632 : decode (sm_cc 400) 632 = .ok (.getfield 691, 3) := by decide +kernel
theorem fr_400_691 : sm_at mt_f (sm_ow 400) 691 = some (691, 12, 7, 0, 2421) := by decide +kernel
theorem dc_400_635 : decode (sm_cc 400) 635 = .ok (.iload_n 2, 1) := by decide +kernel
theorem dc_400_636 : decode (sm_cc 400) 636 = .ok (.iaload, 1) := by decide +kernel
theorem dc_400_637 : decode (sm_cc 400) 637 = .ok (.putfield 694, 3) := by decide +kernel
theorem fr_400_694 : sm_at mt_f (sm_ow 400) 694 = some (694, 13, 10, 0, 2787) := by decide +kernel
theorem dc_400_640 : decode (sm_cc 400) 640 = .ok (.aload_n 0, 1) := by decide +kernel
theorem dc_400_641 : decode (sm_cc 400) 641 = .ok (.getfield 485, 3) := by decide +kernel
theorem dc_400_644 : decode (sm_cc 400) 644 = .ok (.iload_n 3, 1) := by decide +kernel
theorem dc_400_645 : decode (sm_cc 400) 645 = .ok (.aaload, 1) := by decide +kernel
theorem dc_400_646 : decode (sm_cc 400) 646 = .ok (.aload_n 0, 1) := by decide +kernel
theorem dc_400_647 : decode (sm_cc 400) 647 = .ok (.getfield 505, 3) := by decide +kernel
theorem fr_400_505 : sm_at mt_f (sm_ow 400) 505 = some (505, 14, 54, 0, 2127) := by decide +kernel
theorem dc_400_650 : decode (sm_cc 400) 650 = .ok (.aload_n 0, 1) := by decide +kernel
theorem dc_400_651 : decode (sm_cc 400) 651 = .ok (.getfield 502, 3) := by decide +kernel
theorem dc_400_654 : decode (sm_cc 400) 654 = .ok (.iconst 1, 1) := by decide +kernel
theorem dc_400_655 : decode (sm_cc 400) 655 = .ok (.isub, 1) := by decide +kernel
theorem dc_400_656 : decode (sm_cc 400) 656 = .ok (.iaload, 1) := by decide +kernel
theorem dc_400_657 : decode (sm_cc 400) 657 = .ok (.putfield 472, 3) := by decide +kernel
theorem fr_400_472 : sm_at mt_f (sm_ow 400) 472 = some (472, 13, 11, 0, 2788) := by decide +kernel
theorem dc_400_660 : decode (sm_cc 400) 660 = .ok (.aload_n 0, 1) := by decide +kernel
theorem dc_400_661 : decode (sm_cc 400) 661 = .ok (.iconst 3, 1) := by decide +kernel
theorem dc_400_662 : decode (sm_cc 400) 662 = .ok (.iload_n 3, 1) := by decide +kernel
theorem dc_400_663 : decode (sm_cc 400) 663 = .ok (.i2l, 1) := by decide +kernel
theorem dc_400_664 : decode (sm_cc 400) 664 = .ok (.lconst 0, 1) := by decide +kernel
theorem dc_400_665 : decode (sm_cc 400) 665 = .ok (.invokevirtual 549, 3) := by decide +kernel
theorem kr_400_549 : sm_at mt_k (sm_ow 400) 549 = some (549, 0, 352, 0, 2668) := by decide +kernel
theorem dc_400_668 : decode (sm_cc 400) 668 = .ok (.iconst 1, 1) := by decide +kernel
theorem dc_400_669 : decode (sm_cc 400) 669 = .ok (.ireturn, 1) := by decide +kernel
theorem dc_400_583 : decode (sm_cc 400) 583 = .ok (.iconst 0, 1) := by decide +kernel
theorem dc_400_584 : decode (sm_cc 400) 584 = .ok (.ireturn, 1) := by decide +kernel
theorem rMf_1 {d : Nat} {S : cS} {x : Nat} {S1 : cS} {a : Nat} {g : Nat} {zg : Nat} {cl : Nat} {m : Nat} {zm : Nat} {r : Nat} {N : Nat} {e : Nat} {e96 : Nat} {S2 : cS} (mx : x < 2 ^ 20) (ma : a < 1500) (c1 : Ans (d + 8) 364 [.ref 61, .int (nI 3)] S (some (.int (nI a))) S1) (ag : 108 ≤ g) (hq2 : sQ S1 86 a = some g) (hcl : sI S1 6159 = nI cl) (mcl : cl < 32) (b1 : 1 ≤ cl) (am : 108 ≤ m) (hq4 : sQ S1 94 (cl - 1) = some m) (hz1 : (sS S1)[g - 108]? = some (13, zg)) (hz2 : (sS S1)[m - 108]? = some (12, zm)) (hv1 : sV S1 (100 * m + 7) = .ref r) (hg1 : isK S1 r 0 N) (mN : N < 2 ^ 20) (b2 : x < N) (he : sA (wI (100 * g + 9) (nI x) (wV (100 * g + 8) (.ref m) S1)) r x = nI e) (me : e < 2 ^ 20) (he96 : sA (wI (100 * g + 10) (nI e) (wI (100 * g + 9) (nI x) (wV (100 * g + 8) (.ref m) S1))) 96 (cl - 1) = nI e96) (me96 : e96 < 2 ^ 20) (c2 : Ans (d + 8) 352 [.ref 61, .int (nI 3), .long ((nI a).toInt64), .long 0] (wI (100 * g + 11) (nI e96) (wI (100 * g + 10) (nI e) (wI (100 * g + 9) (nI x) (wV (100 * g + 8) (.ref m) S1)))) none S2) : Bod (d + 8) 400 0 [(0, .ref 61), (1, .int (nI 37)), (2, .int (nI x))] [] S (some (.int 1)) (S2) := by
  refine Bod.go dc_400_0 rfl ?_
  refine Bod.sw (t := 573) dc_400_1 rfl rfl (by decide +kernel) ?_
  refine Bod.go dc_400_573 rfl ?_
  refine Bod.ic 3 (by decide) dc_400_574 ?_
  refine Bod.virt (r := []) dc_400_575 kr_400_686 ⟨Or.inl rfl, ow_364, cl_14⟩ (by rw [np_364]; rfl) (by rw [np_364]; rfl) (ob_of (mk_61 _)) (Nat.le_of_ble_eq_true rfl) (c1  ) ?_
  show Bod _ _ _ _ [_] _ _ _
  refine Bod.istn dc_400_578 (by rw [ml_400]; exact Nat.le_of_ble_eq_true rfl) ?_
  refine Bod.go dc_400_579 rfl ?_
  refine Bod.ifT dc_400_580 rfl (k1_ge_T a rfl (by omega)) ?_
  refine Bod.go dc_400_585 rfl ?_
  refine Bod.get dc_400_586 fr_400_485 (mk_61 _) rfl ?_
  refine Bod.go dc_400_589 rfl ?_
  refine Bod.aaldR (N := 1500) (b := g) a rfl (by omega) (by omega) (by first | exact hq2 | (simp only [rIQ, rJQ, rAQ, rLQ, rVQ, rQ_holdE]; exact hq2)) dc_400_590 (mk_86 _) ht_5 ?_
  refine Bod.go dc_400_591 rfl ?_
  refine Bod.get dc_400_592 fr_400_568 (mk_61 _) rfl ?_
  refine Bod.go dc_400_595 rfl ?_
  refine Bod.get dc_400_596 fr_400_502 (mk_61 _) rfl ?_
  refine Bod.eqI (nI cl) (by first | assumption | (simp (disch := omega) only [rIn, rIe, rA, rIA, rLA, rJA, rVI, rQI, rVA, rQA, upd_at,  rAI, rLI, rJI, nI_add, pk_sub, kc_0, kc_1, kc_2, kc_3, kc_4, kc_5, reduceIte, Nat.reduceEqDiff, Nat.add_zero, rI_hold, rI_hold, rL_hold, hcl]; done) | (simp (disch := omega) only [rIn, rIe, rA, rIA, rLA, rJA, rVI, rQI, rVA, rQA, upd_at,  rAI, rLI, rJI, nI_add, pk_sub, kc_0, kc_1, kc_2, kc_3, kc_4, kc_5, reduceIte, Nat.reduceEqDiff, Nat.add_zero, rI_hold, rI_hold, rL_hold, hcl]; exact congrArg nI (by omega))) ?_
  refine Bod.ic 1 (by decide) dc_400_599 ?_
  refine Bod.subN (cl - 1) (by omega) (by omega) dc_400_600 ?_
  refine Bod.aaldR (N := 31) (b := m) (cl - 1) rfl (by omega) (by omega) (by first | exact hq4 | (simp only [rIQ, rJQ, rAQ, rLQ, rVQ, rQ_holdE]; exact hq4)) dc_400_601 (mk_94 _) ht_6 ?_
  refine Bod.put dc_400_602 fr_400_533 (mk_thing ag (by first | exact hz1 | (simp only [rIS, rJS, rAS, rLS, rVS, rQS, rS_hold]; exact hz1))) (Nat.le_of_ble_eq_true rfl) pr_13_8 (st_thing_8 ag (by first | exact hz1 | (simp only [rIS, rJS, rAS, rLS, rVS, rQS, rS_hold]; exact hz1))) (mu_V _ _ _) ?_
  refine Bod.go dc_400_605 rfl ?_
  refine Bod.get dc_400_606 fr_400_485 (mk_61 _) rfl ?_
  refine Bod.go dc_400_609 rfl ?_
  refine Bod.aaldR (N := 1500) (b := g) a rfl (by omega) (by omega) (by first | exact hq2 | (simp only [rIQ, rJQ, rAQ, rLQ, rVQ, rQ_holdE]; exact hq2)) dc_400_610 (mk_86 _) ht_5 ?_
  refine Bod.go dc_400_611 rfl ?_
  refine Bod.put dc_400_612 fr_400_689 (mk_thing ag (by first | exact hz1 | (simp only [rIS, rJS, rAS, rLS, rVS, rQS, rS_hold]; exact hz1))) (Nat.le_of_ble_eq_true rfl) pf_13_9 (st_thing_9 ag (by first | exact hz1 | (simp only [rIS, rJS, rAS, rLS, rVS, rQS, rS_hold]; exact hz1))) (mu_I _ _ _) ?_
  refine Bod.go dc_400_615 rfl ?_
  refine Bod.get dc_400_616 fr_400_485 (mk_61 _) rfl ?_
  refine Bod.go dc_400_619 rfl ?_
  refine Bod.aaldR (N := 1500) (b := g) a rfl (by omega) (by omega) (by first | exact hq2 | (simp only [rIQ, rJQ, rAQ, rLQ, rVQ, rQ_holdE]; exact hq2)) dc_400_620 (mk_86 _) ht_5 ?_
  refine Bod.go dc_400_621 rfl ?_
  refine Bod.get dc_400_622 fr_400_568 (mk_61 _) rfl ?_
  refine Bod.go dc_400_625 rfl ?_
  refine Bod.get dc_400_626 fr_400_502 (mk_61 _) rfl ?_
  refine Bod.eqI (nI cl) (by first | assumption | (simp (disch := omega) only [rIn, rIe, rA, rIA, rLA, rJA, rVI, rQI, rVA, rQA, upd_at,  rAI, rLI, rJI, nI_add, pk_sub, kc_0, kc_1, kc_2, kc_3, kc_4, kc_5, reduceIte, Nat.reduceEqDiff, Nat.add_zero, rI_hold, rI_hold, rL_hold, hcl]; done) | (simp (disch := omega) only [rIn, rIe, rA, rIA, rLA, rJA, rVI, rQI, rVA, rQA, upd_at,  rAI, rLI, rJI, nI_add, pk_sub, kc_0, kc_1, kc_2, kc_3, kc_4, kc_5, reduceIte, Nat.reduceEqDiff, Nat.add_zero, rI_hold, rI_hold, rL_hold, hcl]; exact congrArg nI (by omega))) ?_
  refine Bod.ic 1 (by decide) dc_400_629 ?_
  refine Bod.subN (cl - 1) (by omega) (by omega) dc_400_630 ?_
  refine Bod.aaldR (N := 31) (b := m) (cl - 1) rfl (by omega) (by omega) (by first | exact hq4 | (simp only [rIQ, rJQ, rAQ, rLQ, rVQ, rQ_holdE]; exact hq4)) dc_400_631 (mk_94 _) ht_6 ?_
  refine Bod.get dc_400_632 fr_400_691 (mk_code am (by first | exact hz2 | (simp only [rIS, rJS, rAS, rLS, rVS, rQS, rS_hold]; exact hz2))) rfl ?_
  refine Bod.eqV (.ref r) (by first | exact hv1 | (simp only [rIV, rJV, rAV, rLV, rQV, rV, reduceIte, Nat.reduceEqDiff]; exact hv1) | (simp only [rIV, rJV, rAV, rLV, rQV, rV]; repeat rw [if_neg (by omega)]; exact hv1)) ?_
  refine Bod.go dc_400_635 rfl ?_
  refine Bod.ialdN (N := N) x rfl (by omega) (by omega) dc_400_636 (mk_isI (by first | exact hg1 | exact isK_S (by simp only [rIS, rJS, rAS, rLS, rVS, rQS, rS_hold]) hg1)) ?_
  refine Bod.eqI (nI e) (by first | assumption | (simp (disch := omega) only [rIn, rIe, rA, rIA, rLA, rJA, rVI, rQI, rVA, rQA, upd_at,  rAI, rLI, rJI, nI_add, pk_sub, kc_0, kc_1, kc_2, kc_3, kc_4, kc_5, reduceIte, Nat.reduceEqDiff, Nat.add_zero, rI_hold, rI_hold, rL_hold, hcl, he]; done) | (simp (disch := omega) only [rIn, rIe, rA, rIA, rLA, rJA, rVI, rQI, rVA, rQA, upd_at,  rAI, rLI, rJI, nI_add, pk_sub, kc_0, kc_1, kc_2, kc_3, kc_4, kc_5, reduceIte, Nat.reduceEqDiff, Nat.add_zero, rI_hold, rI_hold, rL_hold, hcl, he]; exact congrArg nI (by omega))) ?_
  refine Bod.put dc_400_637 fr_400_694 (mk_thing ag (by first | exact hz1 | (simp only [rIS, rJS, rAS, rLS, rVS, rQS, rS_hold]; exact hz1))) (Nat.le_of_ble_eq_true rfl) pf_13_10 (st_thing_10 ag (by first | exact hz1 | (simp only [rIS, rJS, rAS, rLS, rVS, rQS, rS_hold]; exact hz1))) (mu_I _ _ _) ?_
  refine Bod.go dc_400_640 rfl ?_
  refine Bod.get dc_400_641 fr_400_485 (mk_61 _) rfl ?_
  refine Bod.go dc_400_644 rfl ?_
  refine Bod.aaldR (N := 1500) (b := g) a rfl (by omega) (by omega) (by first | exact hq2 | (simp only [rIQ, rJQ, rAQ, rLQ, rVQ, rQ_holdE]; exact hq2)) dc_400_645 (mk_86 _) ht_5 ?_
  refine Bod.go dc_400_646 rfl ?_
  refine Bod.get dc_400_647 fr_400_505 (mk_61 _) rfl ?_
  refine Bod.go dc_400_650 rfl ?_
  refine Bod.get dc_400_651 fr_400_502 (mk_61 _) rfl ?_
  refine Bod.eqI (nI cl) (by first | assumption | (simp (disch := omega) only [rIn, rIe, rA, rIA, rLA, rJA, rVI, rQI, rVA, rQA, upd_at,  rAI, rLI, rJI, nI_add, pk_sub, kc_0, kc_1, kc_2, kc_3, kc_4, kc_5, reduceIte, Nat.reduceEqDiff, Nat.add_zero, rI_hold, rI_hold, rL_hold, hcl, he]; done) | (simp (disch := omega) only [rIn, rIe, rA, rIA, rLA, rJA, rVI, rQI, rVA, rQA, upd_at,  rAI, rLI, rJI, nI_add, pk_sub, kc_0, kc_1, kc_2, kc_3, kc_4, kc_5, reduceIte, Nat.reduceEqDiff, Nat.add_zero, rI_hold, rI_hold, rL_hold, hcl, he]; exact congrArg nI (by omega))) ?_
  refine Bod.ic 1 (by decide) dc_400_654 ?_
  refine Bod.subN (cl - 1) (by omega) (by omega) dc_400_655 ?_
  refine Bod.ialdN (cl - 1) rfl (by omega) (by omega) dc_400_656 (mk_96 _) ?_
  refine Bod.eqI (nI e96) (by first | assumption | (simp (disch := omega) only [rIn, rIe, rA, rIA, rLA, rJA, rVI, rQI, rVA, rQA, upd_at,  rAI, rLI, rJI, nI_add, pk_sub, kc_0, kc_1, kc_2, kc_3, kc_4, kc_5, reduceIte, Nat.reduceEqDiff, Nat.add_zero, rI_hold, rI_hold, rL_hold, hcl, he, he96]; done) | (simp (disch := omega) only [rIn, rIe, rA, rIA, rLA, rJA, rVI, rQI, rVA, rQA, upd_at,  rAI, rLI, rJI, nI_add, pk_sub, kc_0, kc_1, kc_2, kc_3, kc_4, kc_5, reduceIte, Nat.reduceEqDiff, Nat.add_zero, rI_hold, rI_hold, rL_hold, hcl, he, he96]; exact congrArg nI (by omega))) ?_
  refine Bod.put dc_400_657 fr_400_472 (mk_thing ag (by first | exact hz1 | (simp only [rIS, rJS, rAS, rLS, rVS, rQS, rS_hold]; exact hz1))) (Nat.le_of_ble_eq_true rfl) pf_13_11 (st_thing_11 ag (by first | exact hz1 | (simp only [rIS, rJS, rAS, rLS, rVS, rQS, rS_hold]; exact hz1))) (mu_I _ _ _) ?_
  refine Bod.go dc_400_660 rfl ?_
  refine Bod.ic 3 (by decide) dc_400_661 ?_
  refine Bod.go dc_400_662 rfl ?_
  refine Bod.go dc_400_663 rfl ?_
  refine Bod.go dc_400_664 rfl ?_
  refine Bod.virt (r := []) dc_400_665 kr_400_549 ⟨Or.inl rfl, ow_352, cl_14⟩ (by rw [np_352]; rfl) (by rw [np_352]; rfl) (ob_of (mk_61 _)) (Nat.le_of_ble_eq_true rfl) (c2  ) ?_
  show Bod _ _ _ _ [] _ _ _
  refine Bod.ic 1 (by decide) dc_400_668 ?_
  exact Bod.retZ dc_400_669 rt_400 (Or.inr rfl)
theorem rMf_2 {d : Nat} {S : cS} {x : Nat} {S1 : cS} {a : Nat} {g : Nat} {zg : Nat} {cl : Nat} {m : Nat} {zm : Nat} {r : Nat} {N : Nat} {e : Nat} {S2 : cS} (mx : x < 2 ^ 20) (ma : a < 1500) (c1 : Ans (d + 8) 364 [.ref 61, .int (nI 3)] S (some (.int (nI a))) S1) (ag : 108 ≤ g) (hq2 : sQ S1 86 a = some g) (hcl : sI S1 6159 = nI cl) (mcl : cl < 32) (b1 : 1 ≤ cl) (am : 108 ≤ m) (hq4 : sQ S1 94 (cl - 1) = some m) (hz1 : (sS S1)[g - 108]? = some (13, zg)) (hz2 : (sS S1)[m - 108]? = some (12, zm)) (hv1 : sV S1 (100 * m + 7) = .ref r) (hg1 : isK S1 r 0 N) (mN : N < 2 ^ 20) (b2 : x < N) (he : sA (wI (100 * g + 9) (nI x) (wV (100 * g + 8) (.ref m) S1)) r x = nI e) (me : e < 2 ^ 20) (n3 : sA (wI (100 * g + 10) (nI e) (wI (100 * g + 9) (nI x) (wV (100 * g + 8) (.ref m) S1))) 96 (cl - 1) = Int32.ofInt (-1)) (c2 : Ans (d + 8) 352 [.ref 61, .int (nI 3), .long ((nI a).toInt64), .long 0] (wI (100 * g + 11) (Int32.ofInt (-1)) (wI (100 * g + 10) (nI e) (wI (100 * g + 9) (nI x) (wV (100 * g + 8) (.ref m) S1)))) none S2) : Bod (d + 8) 400 0 [(0, .ref 61), (1, .int (nI 37)), (2, .int (nI x))] [] S (some (.int 1)) (S2) := by
  refine Bod.go dc_400_0 rfl ?_
  refine Bod.sw (t := 573) dc_400_1 rfl rfl (by decide +kernel) ?_
  refine Bod.go dc_400_573 rfl ?_
  refine Bod.ic 3 (by decide) dc_400_574 ?_
  refine Bod.virt (r := []) dc_400_575 kr_400_686 ⟨Or.inl rfl, ow_364, cl_14⟩ (by rw [np_364]; rfl) (by rw [np_364]; rfl) (ob_of (mk_61 _)) (Nat.le_of_ble_eq_true rfl) (c1  ) ?_
  show Bod _ _ _ _ [_] _ _ _
  refine Bod.istn dc_400_578 (by rw [ml_400]; exact Nat.le_of_ble_eq_true rfl) ?_
  refine Bod.go dc_400_579 rfl ?_
  refine Bod.ifT dc_400_580 rfl (k1_ge_T a rfl (by omega)) ?_
  refine Bod.go dc_400_585 rfl ?_
  refine Bod.get dc_400_586 fr_400_485 (mk_61 _) rfl ?_
  refine Bod.go dc_400_589 rfl ?_
  refine Bod.aaldR (N := 1500) (b := g) a rfl (by omega) (by omega) (by first | exact hq2 | (simp only [rIQ, rJQ, rAQ, rLQ, rVQ, rQ_holdE]; exact hq2)) dc_400_590 (mk_86 _) ht_5 ?_
  refine Bod.go dc_400_591 rfl ?_
  refine Bod.get dc_400_592 fr_400_568 (mk_61 _) rfl ?_
  refine Bod.go dc_400_595 rfl ?_
  refine Bod.get dc_400_596 fr_400_502 (mk_61 _) rfl ?_
  refine Bod.eqI (nI cl) (by first | assumption | (simp (disch := omega) only [rIn, rIe, rA, rIA, rLA, rJA, rVI, rQI, rVA, rQA, upd_at,  rAI, rLI, rJI, nI_add, pk_sub, kc_0, kc_1, kc_2, kc_3, kc_4, kc_5, reduceIte, Nat.reduceEqDiff, Nat.add_zero, rI_hold, rI_hold, rL_hold, hcl]; done) | (simp (disch := omega) only [rIn, rIe, rA, rIA, rLA, rJA, rVI, rQI, rVA, rQA, upd_at,  rAI, rLI, rJI, nI_add, pk_sub, kc_0, kc_1, kc_2, kc_3, kc_4, kc_5, reduceIte, Nat.reduceEqDiff, Nat.add_zero, rI_hold, rI_hold, rL_hold, hcl]; exact congrArg nI (by omega))) ?_
  refine Bod.ic 1 (by decide) dc_400_599 ?_
  refine Bod.subN (cl - 1) (by omega) (by omega) dc_400_600 ?_
  refine Bod.aaldR (N := 31) (b := m) (cl - 1) rfl (by omega) (by omega) (by first | exact hq4 | (simp only [rIQ, rJQ, rAQ, rLQ, rVQ, rQ_holdE]; exact hq4)) dc_400_601 (mk_94 _) ht_6 ?_
  refine Bod.put dc_400_602 fr_400_533 (mk_thing ag (by first | exact hz1 | (simp only [rIS, rJS, rAS, rLS, rVS, rQS, rS_hold]; exact hz1))) (Nat.le_of_ble_eq_true rfl) pr_13_8 (st_thing_8 ag (by first | exact hz1 | (simp only [rIS, rJS, rAS, rLS, rVS, rQS, rS_hold]; exact hz1))) (mu_V _ _ _) ?_
  refine Bod.go dc_400_605 rfl ?_
  refine Bod.get dc_400_606 fr_400_485 (mk_61 _) rfl ?_
  refine Bod.go dc_400_609 rfl ?_
  refine Bod.aaldR (N := 1500) (b := g) a rfl (by omega) (by omega) (by first | exact hq2 | (simp only [rIQ, rJQ, rAQ, rLQ, rVQ, rQ_holdE]; exact hq2)) dc_400_610 (mk_86 _) ht_5 ?_
  refine Bod.go dc_400_611 rfl ?_
  refine Bod.put dc_400_612 fr_400_689 (mk_thing ag (by first | exact hz1 | (simp only [rIS, rJS, rAS, rLS, rVS, rQS, rS_hold]; exact hz1))) (Nat.le_of_ble_eq_true rfl) pf_13_9 (st_thing_9 ag (by first | exact hz1 | (simp only [rIS, rJS, rAS, rLS, rVS, rQS, rS_hold]; exact hz1))) (mu_I _ _ _) ?_
  refine Bod.go dc_400_615 rfl ?_
  refine Bod.get dc_400_616 fr_400_485 (mk_61 _) rfl ?_
  refine Bod.go dc_400_619 rfl ?_
  refine Bod.aaldR (N := 1500) (b := g) a rfl (by omega) (by omega) (by first | exact hq2 | (simp only [rIQ, rJQ, rAQ, rLQ, rVQ, rQ_holdE]; exact hq2)) dc_400_620 (mk_86 _) ht_5 ?_
  refine Bod.go dc_400_621 rfl ?_
  refine Bod.get dc_400_622 fr_400_568 (mk_61 _) rfl ?_
  refine Bod.go dc_400_625 rfl ?_
  refine Bod.get dc_400_626 fr_400_502 (mk_61 _) rfl ?_
  refine Bod.eqI (nI cl) (by first | assumption | (simp (disch := omega) only [rIn, rIe, rA, rIA, rLA, rJA, rVI, rQI, rVA, rQA, upd_at,  rAI, rLI, rJI, nI_add, pk_sub, kc_0, kc_1, kc_2, kc_3, kc_4, kc_5, reduceIte, Nat.reduceEqDiff, Nat.add_zero, rI_hold, rI_hold, rL_hold, hcl]; done) | (simp (disch := omega) only [rIn, rIe, rA, rIA, rLA, rJA, rVI, rQI, rVA, rQA, upd_at,  rAI, rLI, rJI, nI_add, pk_sub, kc_0, kc_1, kc_2, kc_3, kc_4, kc_5, reduceIte, Nat.reduceEqDiff, Nat.add_zero, rI_hold, rI_hold, rL_hold, hcl]; exact congrArg nI (by omega))) ?_
  refine Bod.ic 1 (by decide) dc_400_629 ?_
  refine Bod.subN (cl - 1) (by omega) (by omega) dc_400_630 ?_
  refine Bod.aaldR (N := 31) (b := m) (cl - 1) rfl (by omega) (by omega) (by first | exact hq4 | (simp only [rIQ, rJQ, rAQ, rLQ, rVQ, rQ_holdE]; exact hq4)) dc_400_631 (mk_94 _) ht_6 ?_
  refine Bod.get dc_400_632 fr_400_691 (mk_code am (by first | exact hz2 | (simp only [rIS, rJS, rAS, rLS, rVS, rQS, rS_hold]; exact hz2))) rfl ?_
  refine Bod.eqV (.ref r) (by first | exact hv1 | (simp only [rIV, rJV, rAV, rLV, rQV, rV, reduceIte, Nat.reduceEqDiff]; exact hv1) | (simp only [rIV, rJV, rAV, rLV, rQV, rV]; repeat rw [if_neg (by omega)]; exact hv1)) ?_
  refine Bod.go dc_400_635 rfl ?_
  refine Bod.ialdN (N := N) x rfl (by omega) (by omega) dc_400_636 (mk_isI (by first | exact hg1 | exact isK_S (by simp only [rIS, rJS, rAS, rLS, rVS, rQS, rS_hold]) hg1)) ?_
  refine Bod.eqI (nI e) (by first | assumption | (simp (disch := omega) only [rIn, rIe, rA, rIA, rLA, rJA, rVI, rQI, rVA, rQA, upd_at,  rAI, rLI, rJI, nI_add, pk_sub, kc_0, kc_1, kc_2, kc_3, kc_4, kc_5, reduceIte, Nat.reduceEqDiff, Nat.add_zero, rI_hold, rI_hold, rL_hold, hcl, he]; done) | (simp (disch := omega) only [rIn, rIe, rA, rIA, rLA, rJA, rVI, rQI, rVA, rQA, upd_at,  rAI, rLI, rJI, nI_add, pk_sub, kc_0, kc_1, kc_2, kc_3, kc_4, kc_5, reduceIte, Nat.reduceEqDiff, Nat.add_zero, rI_hold, rI_hold, rL_hold, hcl, he]; exact congrArg nI (by omega))) ?_
  refine Bod.put dc_400_637 fr_400_694 (mk_thing ag (by first | exact hz1 | (simp only [rIS, rJS, rAS, rLS, rVS, rQS, rS_hold]; exact hz1))) (Nat.le_of_ble_eq_true rfl) pf_13_10 (st_thing_10 ag (by first | exact hz1 | (simp only [rIS, rJS, rAS, rLS, rVS, rQS, rS_hold]; exact hz1))) (mu_I _ _ _) ?_
  refine Bod.go dc_400_640 rfl ?_
  refine Bod.get dc_400_641 fr_400_485 (mk_61 _) rfl ?_
  refine Bod.go dc_400_644 rfl ?_
  refine Bod.aaldR (N := 1500) (b := g) a rfl (by omega) (by omega) (by first | exact hq2 | (simp only [rIQ, rJQ, rAQ, rLQ, rVQ, rQ_holdE]; exact hq2)) dc_400_645 (mk_86 _) ht_5 ?_
  refine Bod.go dc_400_646 rfl ?_
  refine Bod.get dc_400_647 fr_400_505 (mk_61 _) rfl ?_
  refine Bod.go dc_400_650 rfl ?_
  refine Bod.get dc_400_651 fr_400_502 (mk_61 _) rfl ?_
  refine Bod.eqI (nI cl) (by first | assumption | (simp (disch := omega) only [rIn, rIe, rA, rIA, rLA, rJA, rVI, rQI, rVA, rQA, upd_at,  rAI, rLI, rJI, nI_add, pk_sub, kc_0, kc_1, kc_2, kc_3, kc_4, kc_5, reduceIte, Nat.reduceEqDiff, Nat.add_zero, rI_hold, rI_hold, rL_hold, hcl, he]; done) | (simp (disch := omega) only [rIn, rIe, rA, rIA, rLA, rJA, rVI, rQI, rVA, rQA, upd_at,  rAI, rLI, rJI, nI_add, pk_sub, kc_0, kc_1, kc_2, kc_3, kc_4, kc_5, reduceIte, Nat.reduceEqDiff, Nat.add_zero, rI_hold, rI_hold, rL_hold, hcl, he]; exact congrArg nI (by omega))) ?_
  refine Bod.ic 1 (by decide) dc_400_654 ?_
  refine Bod.subN (cl - 1) (by omega) (by omega) dc_400_655 ?_
  refine Bod.ialdN (cl - 1) rfl (by omega) (by omega) dc_400_656 (mk_96 _) ?_
  refine Bod.eqI (Int32.ofInt (-1)) (by first | assumption | (simp (disch := omega) only [rIn, rIe, rA, rIA, rLA, rJA, rVI, rQI, rVA, rQA, upd_at,  rAI, rLI, rJI, nI_add, pk_sub, kc_0, kc_1, kc_2, kc_3, kc_4, kc_5, reduceIte, Nat.reduceEqDiff, Nat.add_zero, rI_hold, rI_hold, rL_hold, hcl, he, n3]; done) | (simp (disch := omega) only [rIn, rIe, rA, rIA, rLA, rJA, rVI, rQI, rVA, rQA, upd_at,  rAI, rLI, rJI, nI_add, pk_sub, kc_0, kc_1, kc_2, kc_3, kc_4, kc_5, reduceIte, Nat.reduceEqDiff, Nat.add_zero, rI_hold, rI_hold, rL_hold, hcl, he, n3]; exact congrArg nI (by omega))) ?_
  refine Bod.put dc_400_657 fr_400_472 (mk_thing ag (by first | exact hz1 | (simp only [rIS, rJS, rAS, rLS, rVS, rQS, rS_hold]; exact hz1))) (Nat.le_of_ble_eq_true rfl) pf_13_11 (st_thing_11 ag (by first | exact hz1 | (simp only [rIS, rJS, rAS, rLS, rVS, rQS, rS_hold]; exact hz1))) (mu_I _ _ _) ?_
  refine Bod.go dc_400_660 rfl ?_
  refine Bod.ic 3 (by decide) dc_400_661 ?_
  refine Bod.go dc_400_662 rfl ?_
  refine Bod.go dc_400_663 rfl ?_
  refine Bod.go dc_400_664 rfl ?_
  refine Bod.virt (r := []) dc_400_665 kr_400_549 ⟨Or.inl rfl, ow_352, cl_14⟩ (by rw [np_352]; rfl) (by rw [np_352]; rfl) (ob_of (mk_61 _)) (Nat.le_of_ble_eq_true rfl) (c2  ) ?_
  show Bod _ _ _ _ [] _ _ _
  refine Bod.ic 1 (by decide) dc_400_668 ?_
  exact Bod.retZ dc_400_669 rt_400 (Or.inr rfl)
theorem rMf_3 {d : Nat} {S : cS} {x : Nat} {S1 : cS} (mx : x < 2 ^ 20) (c1 : Ans (d + 8) 364 [.ref 61, .int (nI 3)] S (some (.int (Int32.ofInt (-1)))) S1) : Bod (d + 8) 400 0 [(0, .ref 61), (1, .int (nI 37)), (2, .int (nI x))] [] S (some (.int 0)) (S1) := by
  refine Bod.go dc_400_0 rfl ?_
  refine Bod.sw (t := 573) dc_400_1 rfl rfl (by decide +kernel) ?_
  refine Bod.go dc_400_573 rfl ?_
  refine Bod.ic 3 (by decide) dc_400_574 ?_
  refine Bod.virt (r := []) dc_400_575 kr_400_686 ⟨Or.inl rfl, ow_364, cl_14⟩ (by rw [np_364]; rfl) (by rw [np_364]; rfl) (ob_of (mk_61 _)) (Nat.le_of_ble_eq_true rfl) (c1  ) ?_
  show Bod _ _ _ _ [_] _ _ _
  refine Bod.istn dc_400_578 (by rw [ml_400]; exact Nat.le_of_ble_eq_true rfl) ?_
  refine Bod.go dc_400_579 rfl ?_
  refine Bod.ifF dc_400_580 rfl (by decide) ?_
  refine Bod.ic 0 (by decide) dc_400_583 ?_
  exact Bod.retZ dc_400_584 rt_400 (Or.inl rfl)
