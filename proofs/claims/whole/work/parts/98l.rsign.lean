/-! SIGNS of the reference -/
theorem dc_288_456 : decode (sm_cc 288) 456 = .ok (.iload 6, 2) := by decide +kernel
theorem dc_288_458 : decode (sm_cc 288) 458 = .ok (.iconst 1, 1) := by decide +kernel
theorem dc_288_459 : decode (sm_cc 288) 459 = .ok (.iadd, 1) := by decide +kernel
theorem dc_288_460 : decode (sm_cc 288) 460 = .ok (.iload_n 3, 1) := by decide +kernel
theorem dc_288_461 : decode (sm_cc 288) 461 = .ok (.if_icmp .ge (12), 3) := by decide +kernel
theorem dc_288_464 : decode (sm_cc 288) 464 = .ok (.aload_n 1, 1) := by decide +kernel
theorem dc_288_465 : decode (sm_cc 288) 465 = .ok (.iload 6, 2) := by decide +kernel
theorem dc_288_467 : decode (sm_cc 288) 467 = .ok (.iconst 1, 1) := by decide +kernel
theorem dc_288_468 : decode (sm_cc 288) 468 = .ok (.iadd, 1) := by decide +kernel
theorem dc_288_469 : decode (sm_cc 288) 469 = .ok (.baload, 1) := by decide +kernel
theorem dc_288_470 : decode (sm_cc 288) 470 = .ok (.goto (4), 3) := by decide +kernel
theorem dc_288_474 : decode (sm_cc 288) 474 = .ok (.istore 9, 2) := by decide +kernel
theorem dc_288_473 : decode (sm_cc 288) 473 = .ok (.iconst 0, 1) := by decide +kernel
theorem dc_288_476 : decode (sm_cc 288) 476 = .ok (.iload 9, 2) := by decide +kernel
theorem dc_288_478 : decode (sm_cc 288) 478 = .ok (.bipush (61), 2) := by decide +kernel
theorem dc_288_480 : decode (sm_cc 288) 480 = .ok (.if_icmp .ne (52), 3) := by decide +kernel
theorem dc_288_483 : decode (sm_cc 288) 483 = .ok (.iload 7, 2) := by decide +kernel
theorem dc_288_485 : decode (sm_cc 288) 485 = .ok (.bipush (61), 2) := by decide +kernel
theorem dc_288_487 : decode (sm_cc 288) 487 = .ok (.if_icmp .eq (59), 3) := by decide +kernel
theorem dc_288_490 : decode (sm_cc 288) 490 = .ok (.iload 7, 2) := by decide +kernel
theorem dc_288_492 : decode (sm_cc 288) 492 = .ok (.bipush (33), 2) := by decide +kernel
theorem dc_288_494 : decode (sm_cc 288) 494 = .ok (.if_icmp .eq (52), 3) := by decide +kernel
theorem dc_288_546 : decode (sm_cc 288) 546 = .ok (.iconst 1, 1) := by decide +kernel
theorem dc_288_547 : decode (sm_cc 288) 547 = .ok (.goto (4), 3) := by decide +kernel
theorem dc_288_551 : decode (sm_cc 288) 551 = .ok (.istore 10, 2) := by decide +kernel
theorem dc_288_553 : decode (sm_cc 288) 553 = .ok (.iload 7, 2) := by decide +kernel
theorem dc_288_555 : decode (sm_cc 288) 555 = .ok (.bipush (40), 2) := by decide +kernel
theorem dc_288_557 : decode (sm_cc 288) 557 = .ok (.if_icmp .eq (108), 3) := by decide +kernel
theorem dc_288_560 : decode (sm_cc 288) 560 = .ok (.iload 7, 2) := by decide +kernel
theorem dc_288_562 : decode (sm_cc 288) 562 = .ok (.bipush (41), 2) := by decide +kernel
theorem dc_288_564 : decode (sm_cc 288) 564 = .ok (.if_icmp .eq (101), 3) := by decide +kernel
theorem dc_288_567 : decode (sm_cc 288) 567 = .ok (.iload 7, 2) := by decide +kernel
theorem dc_288_569 : decode (sm_cc 288) 569 = .ok (.bipush (91), 2) := by decide +kernel
theorem dc_288_571 : decode (sm_cc 288) 571 = .ok (.if_icmp .eq (94), 3) := by decide +kernel
theorem dc_288_574 : decode (sm_cc 288) 574 = .ok (.iload 7, 2) := by decide +kernel
theorem dc_288_576 : decode (sm_cc 288) 576 = .ok (.bipush (93), 2) := by decide +kernel
theorem dc_288_578 : decode (sm_cc 288) 578 = .ok (.if_icmp .eq (87), 3) := by decide +kernel
theorem dc_288_581 : decode (sm_cc 288) 581 = .ok (.iload 7, 2) := by decide +kernel
theorem dc_288_583 : decode (sm_cc 288) 583 = .ok (.bipush (123), 2) := by decide +kernel
theorem dc_288_585 : decode (sm_cc 288) 585 = .ok (.if_icmp .eq (80), 3) := by decide +kernel
theorem dc_288_588 : decode (sm_cc 288) 588 = .ok (.iload 7, 2) := by decide +kernel
theorem dc_288_590 : decode (sm_cc 288) 590 = .ok (.bipush (125), 2) := by decide +kernel
theorem dc_288_592 : decode (sm_cc 288) 592 = .ok (.if_icmp .eq (73), 3) := by decide +kernel
theorem dc_288_595 : decode (sm_cc 288) 595 = .ok (.iload 7, 2) := by decide +kernel
theorem dc_288_597 : decode (sm_cc 288) 597 = .ok (.bipush (44), 2) := by decide +kernel
theorem dc_288_599 : decode (sm_cc 288) 599 = .ok (.if_icmp .eq (66), 3) := by decide +kernel
theorem dc_288_602 : decode (sm_cc 288) 602 = .ok (.iload 7, 2) := by decide +kernel
theorem dc_288_604 : decode (sm_cc 288) 604 = .ok (.bipush (58), 2) := by decide +kernel
theorem dc_288_606 : decode (sm_cc 288) 606 = .ok (.if_icmp .eq (59), 3) := by decide +kernel
theorem dc_288_609 : decode (sm_cc 288) 609 = .ok (.iload 7, 2) := by decide +kernel
theorem dc_288_611 : decode (sm_cc 288) 611 = .ok (.bipush (46), 2) := by decide +kernel
theorem dc_288_613 : decode (sm_cc 288) 613 = .ok (.if_icmp .eq (52), 3) := by decide +kernel
theorem dc_288_616 : decode (sm_cc 288) 616 = .ok (.iload 7, 2) := by decide +kernel
theorem dc_288_618 : decode (sm_cc 288) 618 = .ok (.bipush (43), 2) := by decide +kernel
theorem dc_288_620 : decode (sm_cc 288) 620 = .ok (.if_icmp .eq (45), 3) := by decide +kernel
theorem dc_288_623 : decode (sm_cc 288) 623 = .ok (.iload 7, 2) := by decide +kernel
theorem dc_288_625 : decode (sm_cc 288) 625 = .ok (.bipush (45), 2) := by decide +kernel
theorem dc_288_627 : decode (sm_cc 288) 627 = .ok (.if_icmp .eq (38), 3) := by decide +kernel
theorem dc_288_630 : decode (sm_cc 288) 630 = .ok (.iload 7, 2) := by decide +kernel
theorem dc_288_632 : decode (sm_cc 288) 632 = .ok (.bipush (42), 2) := by decide +kernel
theorem dc_288_634 : decode (sm_cc 288) 634 = .ok (.if_icmp .eq (31), 3) := by decide +kernel
theorem dc_288_637 : decode (sm_cc 288) 637 = .ok (.iload 7, 2) := by decide +kernel
theorem dc_288_639 : decode (sm_cc 288) 639 = .ok (.bipush (37), 2) := by decide +kernel
theorem dc_288_641 : decode (sm_cc 288) 641 = .ok (.if_icmp .eq (24), 3) := by decide +kernel
theorem dc_288_644 : decode (sm_cc 288) 644 = .ok (.iload 7, 2) := by decide +kernel
theorem dc_288_646 : decode (sm_cc 288) 646 = .ok (.bipush (61), 2) := by decide +kernel
theorem dc_288_648 : decode (sm_cc 288) 648 = .ok (.if_icmp .eq (17), 3) := by decide +kernel
theorem dc_288_651 : decode (sm_cc 288) 651 = .ok (.iload 7, 2) := by decide +kernel
theorem dc_288_653 : decode (sm_cc 288) 653 = .ok (.bipush (60), 2) := by decide +kernel
theorem dc_288_655 : decode (sm_cc 288) 655 = .ok (.if_icmp .eq (10), 3) := by decide +kernel
theorem dc_288_658 : decode (sm_cc 288) 658 = .ok (.iload 7, 2) := by decide +kernel
theorem dc_288_660 : decode (sm_cc 288) 660 = .ok (.bipush (62), 2) := by decide +kernel
theorem dc_288_662 : decode (sm_cc 288) 662 = .ok (.if_icmp .ne (7), 3) := by decide +kernel
theorem dc_288_669 : decode (sm_cc 288) 669 = .ok (.iconst 0, 1) := by decide +kernel
theorem dc_288_670 : decode (sm_cc 288) 670 = .ok (.istore 11, 2) := by decide +kernel
theorem dc_288_672 : decode (sm_cc 288) 672 = .ok (.aload_n 0, 1) := by decide +kernel
theorem dc_288_673 : decode (sm_cc 288) 673 = .ok (.iload 10, 2) := by decide +kernel
theorem dc_288_675 : decode (sm_cc 288) 675 = .ok (.ifCond .ne (8), 3) := by decide +kernel
theorem dc_288_683 : decode (sm_cc 288) 683 = .ok (.iconst 5, 1) := by decide +kernel
theorem dc_288_684 : decode (sm_cc 288) 684 = .ok (.goto (5), 3) := by decide +kernel
theorem dc_288_689 : decode (sm_cc 288) 689 = .ok (.iload 10, 2) := by decide +kernel
theorem dc_288_691 : decode (sm_cc 288) 691 = .ok (.ifCond .eq (15), 3) := by decide +kernel
theorem dc_288_694 : decode (sm_cc 288) 694 = .ok (.sipush (256), 3) := by decide +kernel
theorem dc_288_697 : decode (sm_cc 288) 697 = .ok (.iload 7, 2) := by decide +kernel
theorem dc_288_699 : decode (sm_cc 288) 699 = .ok (.imul, 1) := by decide +kernel
theorem dc_288_700 : decode (sm_cc 288) 700 = .ok (.iload 9, 2) := by decide +kernel
theorem dc_288_702 : decode (sm_cc 288) 702 = .ok (.iadd, 1) := by decide +kernel
theorem dc_288_703 : decode (sm_cc 288) 703 = .ok (.goto (5), 3) := by decide +kernel
theorem dc_288_708 : decode (sm_cc 288) 708 = .ok (.iload 4, 2) := by decide +kernel
theorem dc_288_710 : decode (sm_cc 288) 710 = .ok (.iload 5, 2) := by decide +kernel
theorem dc_288_712 : decode (sm_cc 288) 712 = .ok (.invokevirtual 151, 3) := by decide +kernel
theorem dc_288_715 : decode (sm_cc 288) 715 = .ok (.iload 6, 2) := by decide +kernel
theorem dc_288_717 : decode (sm_cc 288) 717 = .ok (.iload 10, 2) := by decide +kernel
theorem dc_288_719 : decode (sm_cc 288) 719 = .ok (.ifCond .eq (7), 3) := by decide +kernel
theorem dc_288_722 : decode (sm_cc 288) 722 = .ok (.iconst 2, 1) := by decide +kernel
theorem dc_288_723 : decode (sm_cc 288) 723 = .ok (.goto (4), 3) := by decide +kernel
theorem dc_288_727 : decode (sm_cc 288) 727 = .ok (.iadd, 1) := by decide +kernel
theorem dc_288_728 : decode (sm_cc 288) 728 = .ok (.istore 6, 2) := by decide +kernel
theorem dc_288_532 : decode (sm_cc 288) 532 = .ok (.iload 7, 2) := by decide +kernel
theorem dc_288_534 : decode (sm_cc 288) 534 = .ok (.bipush (47), 2) := by decide +kernel
theorem dc_288_536 : decode (sm_cc 288) 536 = .ok (.if_icmp .ne (14), 3) := by decide +kernel
theorem dc_288_550 : decode (sm_cc 288) 550 = .ok (.iconst 0, 1) := by decide +kernel
theorem dc_288_678 : decode (sm_cc 288) 678 = .ok (.iload 11, 2) := by decide +kernel
theorem dc_288_680 : decode (sm_cc 288) 680 = .ok (.ifCond .eq (7), 3) := by decide +kernel
theorem dc_288_687 : decode (sm_cc 288) 687 = .ok (.bipush (8), 2) := by decide +kernel
theorem dc_288_706 : decode (sm_cc 288) 706 = .ok (.iload 7, 2) := by decide +kernel
theorem dc_288_726 : decode (sm_cc 288) 726 = .ok (.iconst 1, 1) := by decide +kernel
theorem dc_288_497 : decode (sm_cc 288) 497 = .ok (.iload 7, 2) := by decide +kernel
theorem dc_288_499 : decode (sm_cc 288) 499 = .ok (.bipush (60), 2) := by decide +kernel
theorem dc_288_501 : decode (sm_cc 288) 501 = .ok (.if_icmp .eq (45), 3) := by decide +kernel
theorem dc_288_504 : decode (sm_cc 288) 504 = .ok (.iload 7, 2) := by decide +kernel
theorem dc_288_506 : decode (sm_cc 288) 506 = .ok (.bipush (62), 2) := by decide +kernel
theorem dc_288_508 : decode (sm_cc 288) 508 = .ok (.if_icmp .eq (38), 3) := by decide +kernel
theorem dc_288_511 : decode (sm_cc 288) 511 = .ok (.iload 7, 2) := by decide +kernel
theorem dc_288_513 : decode (sm_cc 288) 513 = .ok (.bipush (43), 2) := by decide +kernel
theorem dc_288_515 : decode (sm_cc 288) 515 = .ok (.if_icmp .eq (31), 3) := by decide +kernel
theorem dc_288_518 : decode (sm_cc 288) 518 = .ok (.iload 7, 2) := by decide +kernel
theorem dc_288_520 : decode (sm_cc 288) 520 = .ok (.bipush (45), 2) := by decide +kernel
theorem dc_288_522 : decode (sm_cc 288) 522 = .ok (.if_icmp .eq (24), 3) := by decide +kernel
theorem dc_288_525 : decode (sm_cc 288) 525 = .ok (.iload 7, 2) := by decide +kernel
theorem dc_288_527 : decode (sm_cc 288) 527 = .ok (.bipush (42), 2) := by decide +kernel
theorem dc_288_529 : decode (sm_cc 288) 529 = .ok (.if_icmp .eq (17), 3) := by decide +kernel
theorem dc_288_665 : decode (sm_cc 288) 665 = .ok (.iconst 1, 1) := by decide +kernel
theorem dc_288_666 : decode (sm_cc 288) 666 = .ok (.goto (4), 3) := by decide +kernel
theorem dc_288_539 : decode (sm_cc 288) 539 = .ok (.iload 9, 2) := by decide +kernel
theorem dc_288_541 : decode (sm_cc 288) 541 = .ok (.bipush (47), 2) := by decide +kernel
theorem dc_288_543 : decode (sm_cc 288) 543 = .ok (.if_icmp .ne (7), 3) := by decide +kernel
theorem rs_go {d : Nat} {S Sf : cS} {lv : sm_L} {v : Option Value} {e : Nat} {l : Nat} {bl : Nat} {p : Nat} (heM : e ≤ 3000) (hp : p ≤ e) (h0 : sm_get lv 0 = some (.ref 61)) (h1 : sm_get lv 1 = some (.ref 107)) (h3 : sm_get lv 3 = some (.int (nI e))) (h4 : sm_get lv 4 = some (.int (nI l))) (h5 : sm_get lv 5 = some (.int (nI bl))) (h6 : sm_get lv 6 = some (.int (nI p))) (hin : p < e) (n35 : sA S 107 p ≠ nI 35) (n32 : sA S 107 p ≠ nI 32) (n39 : sA S 107 p ≠ nI 39) (hf : fits .byte (.int (sA S 107 p)) = true) (hL : c_let (ub (sA S 107 p)) = false) (hG : c_dig (ub (sA S 107 p)) = false) (hB : ∀ lv1 : sm_L, sm_get lv1 0 = some (.ref 61) → sm_get lv1 1 = some (.ref 107) → sm_get lv1 3 = some (.int (nI e)) → sm_get lv1 4 = some (.int (nI l)) → sm_get lv1 5 = some (.int (nI bl)) → sm_get lv1 6 = some (.int (nI (p))) → sm_get lv1 7 = some (.int (sA S 107 p)) → sm_get lv1 8 = some (.int (nI p)) → Bod (d + 8) 288 456 lv1 [] (S) v Sf) : Bod (d + 8) 288 3 lv [] S v Sf := by
  refine Bod.ildG dc_288_3 (by repeat (first | exact h6 | exact sm_get_p1 | exact sm_get_p2e | refine sm_get_p1m (by decide) (by decide) ?_ | refine sm_get_p1n (by decide) rfl ?_ | refine sm_get_p2n (by decide) (by decide) rfl ?_)) ?_
  refine Bod.ildnG dc_288_5 (by repeat (first | exact h3 | exact sm_get_p1 | exact sm_get_p2e | refine sm_get_p1m (by decide) (by decide) ?_ | refine sm_get_p1n (by decide) rfl ?_ | refine sm_get_p2n (by decide) (by decide) rfl ?_)) ?_
  refine Bod.icF dc_288_6 rfl (k2_ge_F p e rfl rfl (by omega) (by omega)) ?_
  refine Bod.aldnG dc_288_9 (by repeat (first | exact h1 | exact sm_get_p1 | exact sm_get_p2e | refine sm_get_p1m (by decide) (by decide) ?_ | refine sm_get_p1n (by decide) rfl ?_ | refine sm_get_p2n (by decide) (by decide) rfl ?_)) ?_
  refine Bod.ildG dc_288_10 (by repeat (first | exact h6 | exact sm_get_p1 | exact sm_get_p2e | refine sm_get_p1m (by decide) (by decide) ?_ | refine sm_get_p1n (by decide) rfl ?_ | refine sm_get_p2n (by decide) (by decide) rfl ?_)) ?_
  refine Bod.baldN p rfl (by omega) (by omega) dc_288_12 (mk_107 _) (Or.inl rfl) ?_
  refine Bod.bip 35 (by decide) dc_288_13 ?_
  refine Bod.icF dc_288_15 rfl (k2_eq_F n35) ?_
  refine Bod.aldnG dc_288_18 (by repeat (first | exact h1 | exact sm_get_p1 | exact sm_get_p2e | refine sm_get_p1m (by decide) (by decide) ?_ | refine sm_get_p1n (by decide) rfl ?_ | refine sm_get_p2n (by decide) (by decide) rfl ?_)) ?_
  refine Bod.ildG dc_288_19 (by repeat (first | exact h6 | exact sm_get_p1 | exact sm_get_p2e | refine sm_get_p1m (by decide) (by decide) ?_ | refine sm_get_p1n (by decide) rfl ?_ | refine sm_get_p2n (by decide) (by decide) rfl ?_)) ?_
  refine Bod.baldN p rfl (by omega) (by omega) dc_288_21 (mk_107 _) (Or.inl rfl) ?_
  refine Bod.ist dc_288_22 (by rw [ml_288]; exact Nat.le_of_ble_eq_true rfl) ?_
  refine Bod.ildG dc_288_24 (by repeat (first | exact h6 | exact sm_get_p1 | exact sm_get_p2e | refine sm_get_p1m (by decide) (by decide) ?_ | refine sm_get_p1n (by decide) rfl ?_ | refine sm_get_p2n (by decide) (by decide) rfl ?_)) ?_
  refine Bod.ist dc_288_26 (by rw [ml_288]; exact Nat.le_of_ble_eq_true rfl) ?_
  refine Bod.go dc_288_28 rfl ?_
  refine Bod.bip 32 (by decide) dc_288_30 ?_
  refine Bod.icT dc_288_32 rfl (k2_ne_T n32) ?_
  refine Bod.go dc_288_41 rfl ?_
  refine Bod.stat (r := []) dc_288_43 kr_288_155 (Or.inl rfl) (by rw [np_289]; rfl) (by rw [np_289]; rfl) (by rw [np_289]; exact Nat.le_of_ble_eq_true rfl) (Nat.le_of_ble_eq_true rfl) (rLet_F (x := (sA S 107 p)) hf hL) ?_
  show Bod _ _ _ _ [_] _ _ _
  refine Bod.ifT dc_288_46 rfl (k1_eq_T (k_eq 0 0 rfl rfl (by omega))) ?_
  refine Bod.go dc_288_161 rfl ?_
  refine Bod.stat (r := []) dc_288_163 kr_288_159 (Or.inl rfl) (by rw [np_290]; rfl) (by rw [np_290]; rfl) (by rw [np_290]; exact Nat.le_of_ble_eq_true rfl) (Nat.le_of_ble_eq_true rfl) (rDig_F (x := (sA S 107 p)) hf hG) ?_
  show Bod _ _ _ _ [_] _ _ _
  refine Bod.ifT dc_288_166 rfl (k1_eq_T (k_eq 0 0 rfl rfl (by omega))) ?_
  refine Bod.go dc_288_286 rfl ?_
  refine Bod.bip 39 (by decide) dc_288_288 ?_
  refine Bod.icT dc_288_290 rfl (k2_ne_T n39) ?_
  exact hB _ (by repeat (first | exact h0 | exact sm_get_p1 | exact sm_get_p2e | refine sm_get_p1m (by decide) (by decide) ?_ | refine sm_get_p1n (by decide) rfl ?_ | refine sm_get_p2n (by decide) (by decide) rfl ?_)) (by repeat (first | exact h1 | exact sm_get_p1 | exact sm_get_p2e | refine sm_get_p1m (by decide) (by decide) ?_ | refine sm_get_p1n (by decide) rfl ?_ | refine sm_get_p2n (by decide) (by decide) rfl ?_)) (by repeat (first | exact h3 | exact sm_get_p1 | exact sm_get_p2e | refine sm_get_p1m (by decide) (by decide) ?_ | refine sm_get_p1n (by decide) rfl ?_ | refine sm_get_p2n (by decide) (by decide) rfl ?_)) (by repeat (first | exact h4 | exact sm_get_p1 | exact sm_get_p2e | refine sm_get_p1m (by decide) (by decide) ?_ | refine sm_get_p1n (by decide) rfl ?_ | refine sm_get_p2n (by decide) (by decide) rfl ?_)) (by repeat (first | exact h5 | exact sm_get_p1 | exact sm_get_p2e | refine sm_get_p1m (by decide) (by decide) ?_ | refine sm_get_p1n (by decide) rfl ?_ | refine sm_get_p2n (by decide) (by decide) rfl ?_)) (by repeat (first | exact h6 | exact sm_get_p1 | exact sm_get_p2e | refine sm_get_p1m (by decide) (by decide) ?_ | refine sm_get_p1n (by decide) rfl ?_ | refine sm_get_p2n (by decide) (by decide) rfl ?_)) (by repeat (first | exact sm_get_p1 | exact sm_get_p2e | refine sm_get_p1m (by decide) (by decide) ?_ | refine sm_get_p1n (by decide) rfl ?_ | refine sm_get_p2n (by decide) (by decide) rfl ?_ | rfl)) (by repeat (first | exact sm_get_p1 | exact sm_get_p2e | refine sm_get_p1m (by decide) (by decide) ?_ | refine sm_get_p1n (by decide) rfl ?_ | refine sm_get_p2n (by decide) (by decide) rfl ?_ | rfl))
theorem rs_d1 {d : Nat} {S Sf : cS} {lv : sm_L} {v : Option Value} {e : Nat} {l : Nat} {bl : Nat} {p : Nat} {x : Int32} {st : Nat} (heM : e ≤ 3000) (hp : p ≤ e) (h0 : sm_get lv 0 = some (.ref 61)) (h1 : sm_get lv 1 = some (.ref 107)) (h3 : sm_get lv 3 = some (.int (nI e))) (h4 : sm_get lv 4 = some (.int (nI l))) (h5 : sm_get lv 5 = some (.int (nI bl))) (h6 : sm_get lv 6 = some (.int (nI p))) (h7 : sm_get lv 7 = some (.int x)) (h8 : sm_get lv 8 = some (.int (nI st))) (hin1 : p + 1 < e) (hB : ∀ lv1 : sm_L, sm_get lv1 0 = some (.ref 61) → sm_get lv1 1 = some (.ref 107) → sm_get lv1 3 = some (.int (nI e)) → sm_get lv1 4 = some (.int (nI l)) → sm_get lv1 5 = some (.int (nI bl)) → sm_get lv1 6 = some (.int (nI (p))) → sm_get lv1 7 = some (.int x) → sm_get lv1 8 = some (.int (nI st)) → sm_get lv1 9 = some (.int (sA S 107 (p + 1))) → Bod (d + 8) 288 476 lv1 [] (S) v Sf) : Bod (d + 8) 288 456 lv [] S v Sf := by
  refine Bod.ildG dc_288_456 (by repeat (first | exact h6 | exact sm_get_p1 | exact sm_get_p2e | refine sm_get_p1m (by decide) (by decide) ?_ | refine sm_get_p1n (by decide) rfl ?_ | refine sm_get_p2n (by decide) (by decide) rfl ?_)) ?_
  refine Bod.ic 1 (by decide) dc_288_458 ?_
  refine Bod.addN (p + 1) (by omega) dc_288_459 ?_
  refine Bod.ildnG dc_288_460 (by repeat (first | exact h3 | exact sm_get_p1 | exact sm_get_p2e | refine sm_get_p1m (by decide) (by decide) ?_ | refine sm_get_p1n (by decide) rfl ?_ | refine sm_get_p2n (by decide) (by decide) rfl ?_)) ?_
  refine Bod.icF dc_288_461 rfl (k2_ge_F (p + 1) e rfl rfl (by omega) (by omega)) ?_
  refine Bod.aldnG dc_288_464 (by repeat (first | exact h1 | exact sm_get_p1 | exact sm_get_p2e | refine sm_get_p1m (by decide) (by decide) ?_ | refine sm_get_p1n (by decide) rfl ?_ | refine sm_get_p2n (by decide) (by decide) rfl ?_)) ?_
  refine Bod.ildG dc_288_465 (by repeat (first | exact h6 | exact sm_get_p1 | exact sm_get_p2e | refine sm_get_p1m (by decide) (by decide) ?_ | refine sm_get_p1n (by decide) rfl ?_ | refine sm_get_p2n (by decide) (by decide) rfl ?_)) ?_
  refine Bod.ic 1 (by decide) dc_288_467 ?_
  refine Bod.addN (p + 1) (by omega) dc_288_468 ?_
  refine Bod.baldN (p + 1) rfl (by omega) (by omega) dc_288_469 (mk_107 _) (Or.inl rfl) ?_
  refine Bod.go dc_288_470 rfl ?_
  refine Bod.ist dc_288_474 (by rw [ml_288]; exact Nat.le_of_ble_eq_true rfl) ?_
  exact hB _ (by repeat (first | exact h0 | exact sm_get_p1 | exact sm_get_p2e | refine sm_get_p1m (by decide) (by decide) ?_ | refine sm_get_p1n (by decide) rfl ?_ | refine sm_get_p2n (by decide) (by decide) rfl ?_)) (by repeat (first | exact h1 | exact sm_get_p1 | exact sm_get_p2e | refine sm_get_p1m (by decide) (by decide) ?_ | refine sm_get_p1n (by decide) rfl ?_ | refine sm_get_p2n (by decide) (by decide) rfl ?_)) (by repeat (first | exact h3 | exact sm_get_p1 | exact sm_get_p2e | refine sm_get_p1m (by decide) (by decide) ?_ | refine sm_get_p1n (by decide) rfl ?_ | refine sm_get_p2n (by decide) (by decide) rfl ?_)) (by repeat (first | exact h4 | exact sm_get_p1 | exact sm_get_p2e | refine sm_get_p1m (by decide) (by decide) ?_ | refine sm_get_p1n (by decide) rfl ?_ | refine sm_get_p2n (by decide) (by decide) rfl ?_)) (by repeat (first | exact h5 | exact sm_get_p1 | exact sm_get_p2e | refine sm_get_p1m (by decide) (by decide) ?_ | refine sm_get_p1n (by decide) rfl ?_ | refine sm_get_p2n (by decide) (by decide) rfl ?_)) (by repeat (first | exact h6 | exact sm_get_p1 | exact sm_get_p2e | refine sm_get_p1m (by decide) (by decide) ?_ | refine sm_get_p1n (by decide) rfl ?_ | refine sm_get_p2n (by decide) (by decide) rfl ?_)) (by repeat (first | exact h7 | exact sm_get_p1 | exact sm_get_p2e | refine sm_get_p1m (by decide) (by decide) ?_ | refine sm_get_p1n (by decide) rfl ?_ | refine sm_get_p2n (by decide) (by decide) rfl ?_)) (by repeat (first | exact h8 | exact sm_get_p1 | exact sm_get_p2e | refine sm_get_p1m (by decide) (by decide) ?_ | refine sm_get_p1n (by decide) rfl ?_ | refine sm_get_p2n (by decide) (by decide) rfl ?_)) (by repeat (first | exact sm_get_p1 | exact sm_get_p2e | refine sm_get_p1m (by decide) (by decide) ?_ | refine sm_get_p1n (by decide) rfl ?_ | refine sm_get_p2n (by decide) (by decide) rfl ?_ | rfl))
theorem rs_d0 {d : Nat} {S Sf : cS} {lv : sm_L} {v : Option Value} {e : Nat} {l : Nat} {bl : Nat} {p : Nat} {x : Int32} {st : Nat} (heM : e ≤ 3000) (hp : p ≤ e) (h0 : sm_get lv 0 = some (.ref 61)) (h1 : sm_get lv 1 = some (.ref 107)) (h3 : sm_get lv 3 = some (.int (nI e))) (h4 : sm_get lv 4 = some (.int (nI l))) (h5 : sm_get lv 5 = some (.int (nI bl))) (h6 : sm_get lv 6 = some (.int (nI p))) (h7 : sm_get lv 7 = some (.int x)) (h8 : sm_get lv 8 = some (.int (nI st))) (hin1 : e ≤ p + 1) (hB : ∀ lv1 : sm_L, sm_get lv1 0 = some (.ref 61) → sm_get lv1 1 = some (.ref 107) → sm_get lv1 3 = some (.int (nI e)) → sm_get lv1 4 = some (.int (nI l)) → sm_get lv1 5 = some (.int (nI bl)) → sm_get lv1 6 = some (.int (nI (p))) → sm_get lv1 7 = some (.int x) → sm_get lv1 8 = some (.int (nI st)) → sm_get lv1 9 = some (.int (nI 0)) → Bod (d + 8) 288 476 lv1 [] (S) v Sf) : Bod (d + 8) 288 456 lv [] S v Sf := by
  refine Bod.ildG dc_288_456 (by repeat (first | exact h6 | exact sm_get_p1 | exact sm_get_p2e | refine sm_get_p1m (by decide) (by decide) ?_ | refine sm_get_p1n (by decide) rfl ?_ | refine sm_get_p2n (by decide) (by decide) rfl ?_)) ?_
  refine Bod.ic 1 (by decide) dc_288_458 ?_
  refine Bod.addN (p + 1) (by omega) dc_288_459 ?_
  refine Bod.ildnG dc_288_460 (by repeat (first | exact h3 | exact sm_get_p1 | exact sm_get_p2e | refine sm_get_p1m (by decide) (by decide) ?_ | refine sm_get_p1n (by decide) rfl ?_ | refine sm_get_p2n (by decide) (by decide) rfl ?_)) ?_
  refine Bod.icT dc_288_461 rfl (k2_ge_T (p + 1) e rfl rfl (by omega) (by omega)) ?_
  refine Bod.ic 0 (by decide) dc_288_473 ?_
  refine Bod.ist dc_288_474 (by rw [ml_288]; exact Nat.le_of_ble_eq_true rfl) ?_
  exact hB _ (by repeat (first | exact h0 | exact sm_get_p1 | exact sm_get_p2e | refine sm_get_p1m (by decide) (by decide) ?_ | refine sm_get_p1n (by decide) rfl ?_ | refine sm_get_p2n (by decide) (by decide) rfl ?_)) (by repeat (first | exact h1 | exact sm_get_p1 | exact sm_get_p2e | refine sm_get_p1m (by decide) (by decide) ?_ | refine sm_get_p1n (by decide) rfl ?_ | refine sm_get_p2n (by decide) (by decide) rfl ?_)) (by repeat (first | exact h3 | exact sm_get_p1 | exact sm_get_p2e | refine sm_get_p1m (by decide) (by decide) ?_ | refine sm_get_p1n (by decide) rfl ?_ | refine sm_get_p2n (by decide) (by decide) rfl ?_)) (by repeat (first | exact h4 | exact sm_get_p1 | exact sm_get_p2e | refine sm_get_p1m (by decide) (by decide) ?_ | refine sm_get_p1n (by decide) rfl ?_ | refine sm_get_p2n (by decide) (by decide) rfl ?_)) (by repeat (first | exact h5 | exact sm_get_p1 | exact sm_get_p2e | refine sm_get_p1m (by decide) (by decide) ?_ | refine sm_get_p1n (by decide) rfl ?_ | refine sm_get_p2n (by decide) (by decide) rfl ?_)) (by repeat (first | exact h6 | exact sm_get_p1 | exact sm_get_p2e | refine sm_get_p1m (by decide) (by decide) ?_ | refine sm_get_p1n (by decide) rfl ?_ | refine sm_get_p2n (by decide) (by decide) rfl ?_)) (by repeat (first | exact h7 | exact sm_get_p1 | exact sm_get_p2e | refine sm_get_p1m (by decide) (by decide) ?_ | refine sm_get_p1n (by decide) rfl ?_ | refine sm_get_p2n (by decide) (by decide) rfl ?_)) (by repeat (first | exact h8 | exact sm_get_p1 | exact sm_get_p2e | refine sm_get_p1m (by decide) (by decide) ?_ | refine sm_get_p1n (by decide) rfl ?_ | refine sm_get_p2n (by decide) (by decide) rfl ?_)) (by repeat (first | exact sm_get_p1 | exact sm_get_p2e | refine sm_get_p1m (by decide) (by decide) ?_ | refine sm_get_p1n (by decide) rfl ?_ | refine sm_get_p2n (by decide) (by decide) rfl ?_ | rfl))
theorem rs_33_61 {d : Nat} {S Sf : cS} {lv : sm_L} {v : Option Value} {e : Nat} {l : Nat} {bl : Nat} {p : Nat} {x : Int32} {st : Nat} {t : Nat} (heM : e ≤ 3000) (hp : p ≤ e) (h0 : sm_get lv 0 = some (.ref 61)) (h1 : sm_get lv 1 = some (.ref 107)) (h3 : sm_get lv 3 = some (.int (nI e))) (h4 : sm_get lv 4 = some (.int (nI l))) (h5 : sm_get lv 5 = some (.int (nI bl))) (h6 : sm_get lv 6 = some (.int (nI p))) (h7 : sm_get lv 7 = some (.int (nI 33))) (h8 : sm_get lv 8 = some (.int (nI st))) (hd : sm_get lv 9 = some (.int (nI 61))) (ht : sI S 6112 = nI t) (htM : t < 6002) (hB : ∀ lv1 : sm_L, sm_get lv1 0 = some (.ref 61) → sm_get lv1 1 = some (.ref 107) → sm_get lv1 3 = some (.int (nI e)) → sm_get lv1 4 = some (.int (nI l)) → sm_get lv1 5 = some (.int (nI bl)) → sm_get lv1 6 = some (.int (nI (p + 2))) → Bod (d + 8) 288 3 lv1 [] (wI 6112 (nI (t + 1)) (wA 70 t ((nI bl)) (wA 69 t ((nI l)) (wA 68 t ((nI 8509)) (wA 67 t ((nI 5)) S))))) v Sf) : Bod (d + 8) 288 476 lv [] S v Sf := by
  refine Bod.ildG dc_288_476 (by repeat (first | exact hd | exact sm_get_p1 | exact sm_get_p2e | refine sm_get_p1m (by decide) (by decide) ?_ | refine sm_get_p1n (by decide) rfl ?_ | refine sm_get_p2n (by decide) (by decide) rfl ?_)) ?_
  refine Bod.bip 61 (by decide) dc_288_478 ?_
  refine Bod.icF dc_288_480 rfl (k2_ne_F (k_eq 61 61 rfl rfl (by omega))) ?_
  refine Bod.ildG dc_288_483 (by repeat (first | exact h7 | exact sm_get_p1 | exact sm_get_p2e | refine sm_get_p1m (by decide) (by decide) ?_ | refine sm_get_p1n (by decide) rfl ?_ | refine sm_get_p2n (by decide) (by decide) rfl ?_)) ?_
  refine Bod.bip 61 (by decide) dc_288_485 ?_
  refine Bod.icF dc_288_487 rfl (k2_eq_F (k_ne 33 61 rfl rfl (by omega) (by omega) (by omega))) ?_
  refine Bod.ildG dc_288_490 (by repeat (first | exact h7 | exact sm_get_p1 | exact sm_get_p2e | refine sm_get_p1m (by decide) (by decide) ?_ | refine sm_get_p1n (by decide) rfl ?_ | refine sm_get_p2n (by decide) (by decide) rfl ?_)) ?_
  refine Bod.bip 33 (by decide) dc_288_492 ?_
  refine Bod.icT dc_288_494 rfl (k2_eq_T (k_eq 33 33 rfl rfl (by omega))) ?_
  refine Bod.ic 1 (by decide) dc_288_546 ?_
  refine Bod.go dc_288_547 rfl ?_
  refine Bod.ist dc_288_551 (by rw [ml_288]; exact Nat.le_of_ble_eq_true rfl) ?_
  refine Bod.ildG dc_288_553 (by repeat (first | exact h7 | exact sm_get_p1 | exact sm_get_p2e | refine sm_get_p1m (by decide) (by decide) ?_ | refine sm_get_p1n (by decide) rfl ?_ | refine sm_get_p2n (by decide) (by decide) rfl ?_)) ?_
  refine Bod.bip 40 (by decide) dc_288_555 ?_
  refine Bod.icF dc_288_557 rfl (k2_eq_F (k_ne 33 40 rfl rfl (by omega) (by omega) (by omega))) ?_
  refine Bod.ildG dc_288_560 (by repeat (first | exact h7 | exact sm_get_p1 | exact sm_get_p2e | refine sm_get_p1m (by decide) (by decide) ?_ | refine sm_get_p1n (by decide) rfl ?_ | refine sm_get_p2n (by decide) (by decide) rfl ?_)) ?_
  refine Bod.bip 41 (by decide) dc_288_562 ?_
  refine Bod.icF dc_288_564 rfl (k2_eq_F (k_ne 33 41 rfl rfl (by omega) (by omega) (by omega))) ?_
  refine Bod.ildG dc_288_567 (by repeat (first | exact h7 | exact sm_get_p1 | exact sm_get_p2e | refine sm_get_p1m (by decide) (by decide) ?_ | refine sm_get_p1n (by decide) rfl ?_ | refine sm_get_p2n (by decide) (by decide) rfl ?_)) ?_
  refine Bod.bip 91 (by decide) dc_288_569 ?_
  refine Bod.icF dc_288_571 rfl (k2_eq_F (k_ne 33 91 rfl rfl (by omega) (by omega) (by omega))) ?_
  refine Bod.ildG dc_288_574 (by repeat (first | exact h7 | exact sm_get_p1 | exact sm_get_p2e | refine sm_get_p1m (by decide) (by decide) ?_ | refine sm_get_p1n (by decide) rfl ?_ | refine sm_get_p2n (by decide) (by decide) rfl ?_)) ?_
  refine Bod.bip 93 (by decide) dc_288_576 ?_
  refine Bod.icF dc_288_578 rfl (k2_eq_F (k_ne 33 93 rfl rfl (by omega) (by omega) (by omega))) ?_
  refine Bod.ildG dc_288_581 (by repeat (first | exact h7 | exact sm_get_p1 | exact sm_get_p2e | refine sm_get_p1m (by decide) (by decide) ?_ | refine sm_get_p1n (by decide) rfl ?_ | refine sm_get_p2n (by decide) (by decide) rfl ?_)) ?_
  refine Bod.bip 123 (by decide) dc_288_583 ?_
  refine Bod.icF dc_288_585 rfl (k2_eq_F (k_ne 33 123 rfl rfl (by omega) (by omega) (by omega))) ?_
  refine Bod.ildG dc_288_588 (by repeat (first | exact h7 | exact sm_get_p1 | exact sm_get_p2e | refine sm_get_p1m (by decide) (by decide) ?_ | refine sm_get_p1n (by decide) rfl ?_ | refine sm_get_p2n (by decide) (by decide) rfl ?_)) ?_
  refine Bod.bip 125 (by decide) dc_288_590 ?_
  refine Bod.icF dc_288_592 rfl (k2_eq_F (k_ne 33 125 rfl rfl (by omega) (by omega) (by omega))) ?_
  refine Bod.ildG dc_288_595 (by repeat (first | exact h7 | exact sm_get_p1 | exact sm_get_p2e | refine sm_get_p1m (by decide) (by decide) ?_ | refine sm_get_p1n (by decide) rfl ?_ | refine sm_get_p2n (by decide) (by decide) rfl ?_)) ?_
  refine Bod.bip 44 (by decide) dc_288_597 ?_
  refine Bod.icF dc_288_599 rfl (k2_eq_F (k_ne 33 44 rfl rfl (by omega) (by omega) (by omega))) ?_
  refine Bod.ildG dc_288_602 (by repeat (first | exact h7 | exact sm_get_p1 | exact sm_get_p2e | refine sm_get_p1m (by decide) (by decide) ?_ | refine sm_get_p1n (by decide) rfl ?_ | refine sm_get_p2n (by decide) (by decide) rfl ?_)) ?_
  refine Bod.bip 58 (by decide) dc_288_604 ?_
  refine Bod.icF dc_288_606 rfl (k2_eq_F (k_ne 33 58 rfl rfl (by omega) (by omega) (by omega))) ?_
  refine Bod.ildG dc_288_609 (by repeat (first | exact h7 | exact sm_get_p1 | exact sm_get_p2e | refine sm_get_p1m (by decide) (by decide) ?_ | refine sm_get_p1n (by decide) rfl ?_ | refine sm_get_p2n (by decide) (by decide) rfl ?_)) ?_
  refine Bod.bip 46 (by decide) dc_288_611 ?_
  refine Bod.icF dc_288_613 rfl (k2_eq_F (k_ne 33 46 rfl rfl (by omega) (by omega) (by omega))) ?_
  refine Bod.ildG dc_288_616 (by repeat (first | exact h7 | exact sm_get_p1 | exact sm_get_p2e | refine sm_get_p1m (by decide) (by decide) ?_ | refine sm_get_p1n (by decide) rfl ?_ | refine sm_get_p2n (by decide) (by decide) rfl ?_)) ?_
  refine Bod.bip 43 (by decide) dc_288_618 ?_
  refine Bod.icF dc_288_620 rfl (k2_eq_F (k_ne 33 43 rfl rfl (by omega) (by omega) (by omega))) ?_
  refine Bod.ildG dc_288_623 (by repeat (first | exact h7 | exact sm_get_p1 | exact sm_get_p2e | refine sm_get_p1m (by decide) (by decide) ?_ | refine sm_get_p1n (by decide) rfl ?_ | refine sm_get_p2n (by decide) (by decide) rfl ?_)) ?_
  refine Bod.bip 45 (by decide) dc_288_625 ?_
  refine Bod.icF dc_288_627 rfl (k2_eq_F (k_ne 33 45 rfl rfl (by omega) (by omega) (by omega))) ?_
  refine Bod.ildG dc_288_630 (by repeat (first | exact h7 | exact sm_get_p1 | exact sm_get_p2e | refine sm_get_p1m (by decide) (by decide) ?_ | refine sm_get_p1n (by decide) rfl ?_ | refine sm_get_p2n (by decide) (by decide) rfl ?_)) ?_
  refine Bod.bip 42 (by decide) dc_288_632 ?_
  refine Bod.icF dc_288_634 rfl (k2_eq_F (k_ne 33 42 rfl rfl (by omega) (by omega) (by omega))) ?_
  refine Bod.ildG dc_288_637 (by repeat (first | exact h7 | exact sm_get_p1 | exact sm_get_p2e | refine sm_get_p1m (by decide) (by decide) ?_ | refine sm_get_p1n (by decide) rfl ?_ | refine sm_get_p2n (by decide) (by decide) rfl ?_)) ?_
  refine Bod.bip 37 (by decide) dc_288_639 ?_
  refine Bod.icF dc_288_641 rfl (k2_eq_F (k_ne 33 37 rfl rfl (by omega) (by omega) (by omega))) ?_
  refine Bod.ildG dc_288_644 (by repeat (first | exact h7 | exact sm_get_p1 | exact sm_get_p2e | refine sm_get_p1m (by decide) (by decide) ?_ | refine sm_get_p1n (by decide) rfl ?_ | refine sm_get_p2n (by decide) (by decide) rfl ?_)) ?_
  refine Bod.bip 61 (by decide) dc_288_646 ?_
  refine Bod.icF dc_288_648 rfl (k2_eq_F (k_ne 33 61 rfl rfl (by omega) (by omega) (by omega))) ?_
  refine Bod.ildG dc_288_651 (by repeat (first | exact h7 | exact sm_get_p1 | exact sm_get_p2e | refine sm_get_p1m (by decide) (by decide) ?_ | refine sm_get_p1n (by decide) rfl ?_ | refine sm_get_p2n (by decide) (by decide) rfl ?_)) ?_
  refine Bod.bip 60 (by decide) dc_288_653 ?_
  refine Bod.icF dc_288_655 rfl (k2_eq_F (k_ne 33 60 rfl rfl (by omega) (by omega) (by omega))) ?_
  refine Bod.ildG dc_288_658 (by repeat (first | exact h7 | exact sm_get_p1 | exact sm_get_p2e | refine sm_get_p1m (by decide) (by decide) ?_ | refine sm_get_p1n (by decide) rfl ?_ | refine sm_get_p2n (by decide) (by decide) rfl ?_)) ?_
  refine Bod.bip 62 (by decide) dc_288_660 ?_
  refine Bod.icT dc_288_662 rfl (k2_ne_T (k_ne 33 62 rfl rfl (by omega) (by omega) (by omega))) ?_
  refine Bod.ic 0 (by decide) dc_288_669 ?_
  refine Bod.ist dc_288_670 (by rw [ml_288]; exact Nat.le_of_ble_eq_true rfl) ?_
  refine Bod.aldnG dc_288_672 (by repeat (first | exact h0 | exact sm_get_p1 | exact sm_get_p2e | refine sm_get_p1m (by decide) (by decide) ?_ | refine sm_get_p1n (by decide) rfl ?_ | refine sm_get_p2n (by decide) (by decide) rfl ?_)) ?_
  refine Bod.go dc_288_673 rfl ?_
  refine Bod.ifT dc_288_675 rfl (k1_ne_T (k_ne 1 0 rfl rfl (by omega) (by omega) (by omega))) ?_
  refine Bod.ic 5 (by decide) dc_288_683 ?_
  refine Bod.go dc_288_684 rfl ?_
  refine Bod.go dc_288_689 rfl ?_
  refine Bod.ifF dc_288_691 rfl (k1_eq_F (k_ne 1 0 rfl rfl (by omega) (by omega) (by omega))) ?_
  refine Bod.sip 256 (by decide) dc_288_694 ?_
  refine Bod.ildG dc_288_697 (by repeat (first | exact h7 | exact sm_get_p1 | exact sm_get_p2e | refine sm_get_p1m (by decide) (by decide) ?_ | refine sm_get_p1n (by decide) rfl ?_ | refine sm_get_p2n (by decide) (by decide) rfl ?_)) ?_
  refine Bod.mulN 8448 (by omega) dc_288_699 ?_
  refine Bod.ildG dc_288_700 (by repeat (first | exact hd | exact sm_get_p1 | exact sm_get_p2e | refine sm_get_p1m (by decide) (by decide) ?_ | refine sm_get_p1n (by decide) rfl ?_ | refine sm_get_p2n (by decide) (by decide) rfl ?_)) ?_
  refine Bod.addN 8509 (by omega) dc_288_702 ?_
  refine Bod.go dc_288_703 rfl ?_
  refine Bod.ildG dc_288_708 (by repeat (first | exact h4 | exact sm_get_p1 | exact sm_get_p2e | refine sm_get_p1m (by decide) (by decide) ?_ | refine sm_get_p1n (by decide) rfl ?_ | refine sm_get_p2n (by decide) (by decide) rfl ?_)) ?_
  refine Bod.ildG dc_288_710 (by repeat (first | exact h5 | exact sm_get_p1 | exact sm_get_p2e | refine sm_get_p1m (by decide) (by decide) ?_ | refine sm_get_p1n (by decide) rfl ?_ | refine sm_get_p2n (by decide) (by decide) rfl ?_)) ?_
  refine Bod.virt (r := []) dc_288_712 kr_288_151 ⟨Or.inl rfl, ow_293, cl_14⟩ (by rw [np_293]; rfl) (by rw [np_293]; rfl) (ob_of (mk_61 _)) (Nat.le_of_ble_eq_true rfl) (tok_ev (t := t) (kd := (nI 5)) (vl := (nI 8509)) (ln := (nI l)) (bl := (nI bl)) (by first | assumption | rfl | exact congrArg nI (by omega) | (simp (disch := omega) only [rI, rIe, rA, rIA, rLA, rJA, rVI, rQI, rVA, rQA, upd_at,  rAI, rLI, rJI, nI_add, pk_sub, kc_0, kc_1, kc_2, kc_3, kc_4, kc_5, reduceIte, Nat.reduceEqDiff, Nat.add_zero, rI_hold, rI_hold, rL_hold, ht]; done)) (by omega)) ?_
  show Bod _ _ _ _ [] _ _ _
  refine Bod.ildG dc_288_715 (by repeat (first | exact h6 | exact sm_get_p1 | exact sm_get_p2e | refine sm_get_p1m (by decide) (by decide) ?_ | refine sm_get_p1n (by decide) rfl ?_ | refine sm_get_p2n (by decide) (by decide) rfl ?_)) ?_
  refine Bod.go dc_288_717 rfl ?_
  refine Bod.ifF dc_288_719 rfl (k1_eq_F (k_ne 1 0 rfl rfl (by omega) (by omega) (by omega))) ?_
  refine Bod.ic 2 (by decide) dc_288_722 ?_
  refine Bod.go dc_288_723 rfl ?_
  refine Bod.addN (p + 2) (by omega) dc_288_727 ?_
  refine Bod.ist dc_288_728 (by rw [ml_288]; exact Nat.le_of_ble_eq_true rfl) ?_
  refine Bod.go dc_288_730 rfl ?_
  exact hB _ (by repeat (first | exact h0 | exact sm_get_p1 | exact sm_get_p2e | refine sm_get_p1m (by decide) (by decide) ?_ | refine sm_get_p1n (by decide) rfl ?_ | refine sm_get_p2n (by decide) (by decide) rfl ?_)) (by repeat (first | exact h1 | exact sm_get_p1 | exact sm_get_p2e | refine sm_get_p1m (by decide) (by decide) ?_ | refine sm_get_p1n (by decide) rfl ?_ | refine sm_get_p2n (by decide) (by decide) rfl ?_)) (by repeat (first | exact h3 | exact sm_get_p1 | exact sm_get_p2e | refine sm_get_p1m (by decide) (by decide) ?_ | refine sm_get_p1n (by decide) rfl ?_ | refine sm_get_p2n (by decide) (by decide) rfl ?_)) (by repeat (first | exact h4 | exact sm_get_p1 | exact sm_get_p2e | refine sm_get_p1m (by decide) (by decide) ?_ | refine sm_get_p1n (by decide) rfl ?_ | refine sm_get_p2n (by decide) (by decide) rfl ?_)) (by repeat (first | exact h5 | exact sm_get_p1 | exact sm_get_p2e | refine sm_get_p1m (by decide) (by decide) ?_ | refine sm_get_p1n (by decide) rfl ?_ | refine sm_get_p2n (by decide) (by decide) rfl ?_)) (by repeat (first | exact h6 | exact sm_get_p1 | exact sm_get_p2e | refine sm_get_p1m (by decide) (by decide) ?_ | refine sm_get_p1n (by decide) rfl ?_ | refine sm_get_p2n (by decide) (by decide) rfl ?_))
theorem rs_33_n {d : Nat} {S Sf : cS} {lv : sm_L} {v : Option Value} {e : Nat} {l : Nat} {bl : Nat} {p : Nat} {x : Int32} {st : Nat} {dd : Int32} {t : Nat} (heM : e ≤ 3000) (hp : p ≤ e) (h0 : sm_get lv 0 = some (.ref 61)) (h1 : sm_get lv 1 = some (.ref 107)) (h3 : sm_get lv 3 = some (.int (nI e))) (h4 : sm_get lv 4 = some (.int (nI l))) (h5 : sm_get lv 5 = some (.int (nI bl))) (h6 : sm_get lv 6 = some (.int (nI p))) (h7 : sm_get lv 7 = some (.int (nI 33))) (h8 : sm_get lv 8 = some (.int (nI st))) (hd : sm_get lv 9 = some (.int dd)) (n61 : dd ≠ nI 61) (ht : sI S 6112 = nI t) (htM : t < 6002) (hB : ∀ lv1 : sm_L, sm_get lv1 0 = some (.ref 61) → sm_get lv1 1 = some (.ref 107) → sm_get lv1 3 = some (.int (nI e)) → sm_get lv1 4 = some (.int (nI l)) → sm_get lv1 5 = some (.int (nI bl)) → sm_get lv1 6 = some (.int (nI (p + 1))) → Bod (d + 8) 288 3 lv1 [] (wI 6112 (nI (t + 1)) (wA 70 t ((nI bl)) (wA 69 t ((nI l)) (wA 68 t ((nI 33)) (wA 67 t ((nI 8)) S))))) v Sf) : Bod (d + 8) 288 476 lv [] S v Sf := by
  refine Bod.ildG dc_288_476 (by repeat (first | exact hd | exact sm_get_p1 | exact sm_get_p2e | refine sm_get_p1m (by decide) (by decide) ?_ | refine sm_get_p1n (by decide) rfl ?_ | refine sm_get_p2n (by decide) (by decide) rfl ?_)) ?_
  refine Bod.bip 61 (by decide) dc_288_478 ?_
  refine Bod.icT dc_288_480 rfl (k2_ne_T n61) ?_
  refine Bod.ildG dc_288_532 (by repeat (first | exact h7 | exact sm_get_p1 | exact sm_get_p2e | refine sm_get_p1m (by decide) (by decide) ?_ | refine sm_get_p1n (by decide) rfl ?_ | refine sm_get_p2n (by decide) (by decide) rfl ?_)) ?_
  refine Bod.bip 47 (by decide) dc_288_534 ?_
  refine Bod.icT dc_288_536 rfl (k2_ne_T (k_ne 33 47 rfl rfl (by omega) (by omega) (by omega))) ?_
  refine Bod.ic 0 (by decide) dc_288_550 ?_
  refine Bod.ist dc_288_551 (by rw [ml_288]; exact Nat.le_of_ble_eq_true rfl) ?_
  refine Bod.ildG dc_288_553 (by repeat (first | exact h7 | exact sm_get_p1 | exact sm_get_p2e | refine sm_get_p1m (by decide) (by decide) ?_ | refine sm_get_p1n (by decide) rfl ?_ | refine sm_get_p2n (by decide) (by decide) rfl ?_)) ?_
  refine Bod.bip 40 (by decide) dc_288_555 ?_
  refine Bod.icF dc_288_557 rfl (k2_eq_F (k_ne 33 40 rfl rfl (by omega) (by omega) (by omega))) ?_
  refine Bod.ildG dc_288_560 (by repeat (first | exact h7 | exact sm_get_p1 | exact sm_get_p2e | refine sm_get_p1m (by decide) (by decide) ?_ | refine sm_get_p1n (by decide) rfl ?_ | refine sm_get_p2n (by decide) (by decide) rfl ?_)) ?_
  refine Bod.bip 41 (by decide) dc_288_562 ?_
  refine Bod.icF dc_288_564 rfl (k2_eq_F (k_ne 33 41 rfl rfl (by omega) (by omega) (by omega))) ?_
  refine Bod.ildG dc_288_567 (by repeat (first | exact h7 | exact sm_get_p1 | exact sm_get_p2e | refine sm_get_p1m (by decide) (by decide) ?_ | refine sm_get_p1n (by decide) rfl ?_ | refine sm_get_p2n (by decide) (by decide) rfl ?_)) ?_
  refine Bod.bip 91 (by decide) dc_288_569 ?_
  refine Bod.icF dc_288_571 rfl (k2_eq_F (k_ne 33 91 rfl rfl (by omega) (by omega) (by omega))) ?_
  refine Bod.ildG dc_288_574 (by repeat (first | exact h7 | exact sm_get_p1 | exact sm_get_p2e | refine sm_get_p1m (by decide) (by decide) ?_ | refine sm_get_p1n (by decide) rfl ?_ | refine sm_get_p2n (by decide) (by decide) rfl ?_)) ?_
  refine Bod.bip 93 (by decide) dc_288_576 ?_
  refine Bod.icF dc_288_578 rfl (k2_eq_F (k_ne 33 93 rfl rfl (by omega) (by omega) (by omega))) ?_
  refine Bod.ildG dc_288_581 (by repeat (first | exact h7 | exact sm_get_p1 | exact sm_get_p2e | refine sm_get_p1m (by decide) (by decide) ?_ | refine sm_get_p1n (by decide) rfl ?_ | refine sm_get_p2n (by decide) (by decide) rfl ?_)) ?_
  refine Bod.bip 123 (by decide) dc_288_583 ?_
  refine Bod.icF dc_288_585 rfl (k2_eq_F (k_ne 33 123 rfl rfl (by omega) (by omega) (by omega))) ?_
  refine Bod.ildG dc_288_588 (by repeat (first | exact h7 | exact sm_get_p1 | exact sm_get_p2e | refine sm_get_p1m (by decide) (by decide) ?_ | refine sm_get_p1n (by decide) rfl ?_ | refine sm_get_p2n (by decide) (by decide) rfl ?_)) ?_
  refine Bod.bip 125 (by decide) dc_288_590 ?_
  refine Bod.icF dc_288_592 rfl (k2_eq_F (k_ne 33 125 rfl rfl (by omega) (by omega) (by omega))) ?_
  refine Bod.ildG dc_288_595 (by repeat (first | exact h7 | exact sm_get_p1 | exact sm_get_p2e | refine sm_get_p1m (by decide) (by decide) ?_ | refine sm_get_p1n (by decide) rfl ?_ | refine sm_get_p2n (by decide) (by decide) rfl ?_)) ?_
  refine Bod.bip 44 (by decide) dc_288_597 ?_
  refine Bod.icF dc_288_599 rfl (k2_eq_F (k_ne 33 44 rfl rfl (by omega) (by omega) (by omega))) ?_
  refine Bod.ildG dc_288_602 (by repeat (first | exact h7 | exact sm_get_p1 | exact sm_get_p2e | refine sm_get_p1m (by decide) (by decide) ?_ | refine sm_get_p1n (by decide) rfl ?_ | refine sm_get_p2n (by decide) (by decide) rfl ?_)) ?_
  refine Bod.bip 58 (by decide) dc_288_604 ?_
  refine Bod.icF dc_288_606 rfl (k2_eq_F (k_ne 33 58 rfl rfl (by omega) (by omega) (by omega))) ?_
  refine Bod.ildG dc_288_609 (by repeat (first | exact h7 | exact sm_get_p1 | exact sm_get_p2e | refine sm_get_p1m (by decide) (by decide) ?_ | refine sm_get_p1n (by decide) rfl ?_ | refine sm_get_p2n (by decide) (by decide) rfl ?_)) ?_
  refine Bod.bip 46 (by decide) dc_288_611 ?_
  refine Bod.icF dc_288_613 rfl (k2_eq_F (k_ne 33 46 rfl rfl (by omega) (by omega) (by omega))) ?_
  refine Bod.ildG dc_288_616 (by repeat (first | exact h7 | exact sm_get_p1 | exact sm_get_p2e | refine sm_get_p1m (by decide) (by decide) ?_ | refine sm_get_p1n (by decide) rfl ?_ | refine sm_get_p2n (by decide) (by decide) rfl ?_)) ?_
  refine Bod.bip 43 (by decide) dc_288_618 ?_
  refine Bod.icF dc_288_620 rfl (k2_eq_F (k_ne 33 43 rfl rfl (by omega) (by omega) (by omega))) ?_
  refine Bod.ildG dc_288_623 (by repeat (first | exact h7 | exact sm_get_p1 | exact sm_get_p2e | refine sm_get_p1m (by decide) (by decide) ?_ | refine sm_get_p1n (by decide) rfl ?_ | refine sm_get_p2n (by decide) (by decide) rfl ?_)) ?_
  refine Bod.bip 45 (by decide) dc_288_625 ?_
  refine Bod.icF dc_288_627 rfl (k2_eq_F (k_ne 33 45 rfl rfl (by omega) (by omega) (by omega))) ?_
  refine Bod.ildG dc_288_630 (by repeat (first | exact h7 | exact sm_get_p1 | exact sm_get_p2e | refine sm_get_p1m (by decide) (by decide) ?_ | refine sm_get_p1n (by decide) rfl ?_ | refine sm_get_p2n (by decide) (by decide) rfl ?_)) ?_
  refine Bod.bip 42 (by decide) dc_288_632 ?_
  refine Bod.icF dc_288_634 rfl (k2_eq_F (k_ne 33 42 rfl rfl (by omega) (by omega) (by omega))) ?_
  refine Bod.ildG dc_288_637 (by repeat (first | exact h7 | exact sm_get_p1 | exact sm_get_p2e | refine sm_get_p1m (by decide) (by decide) ?_ | refine sm_get_p1n (by decide) rfl ?_ | refine sm_get_p2n (by decide) (by decide) rfl ?_)) ?_
  refine Bod.bip 37 (by decide) dc_288_639 ?_
  refine Bod.icF dc_288_641 rfl (k2_eq_F (k_ne 33 37 rfl rfl (by omega) (by omega) (by omega))) ?_
  refine Bod.ildG dc_288_644 (by repeat (first | exact h7 | exact sm_get_p1 | exact sm_get_p2e | refine sm_get_p1m (by decide) (by decide) ?_ | refine sm_get_p1n (by decide) rfl ?_ | refine sm_get_p2n (by decide) (by decide) rfl ?_)) ?_
  refine Bod.bip 61 (by decide) dc_288_646 ?_
  refine Bod.icF dc_288_648 rfl (k2_eq_F (k_ne 33 61 rfl rfl (by omega) (by omega) (by omega))) ?_
  refine Bod.ildG dc_288_651 (by repeat (first | exact h7 | exact sm_get_p1 | exact sm_get_p2e | refine sm_get_p1m (by decide) (by decide) ?_ | refine sm_get_p1n (by decide) rfl ?_ | refine sm_get_p2n (by decide) (by decide) rfl ?_)) ?_
  refine Bod.bip 60 (by decide) dc_288_653 ?_
  refine Bod.icF dc_288_655 rfl (k2_eq_F (k_ne 33 60 rfl rfl (by omega) (by omega) (by omega))) ?_
  refine Bod.ildG dc_288_658 (by repeat (first | exact h7 | exact sm_get_p1 | exact sm_get_p2e | refine sm_get_p1m (by decide) (by decide) ?_ | refine sm_get_p1n (by decide) rfl ?_ | refine sm_get_p2n (by decide) (by decide) rfl ?_)) ?_
  refine Bod.bip 62 (by decide) dc_288_660 ?_
  refine Bod.icT dc_288_662 rfl (k2_ne_T (k_ne 33 62 rfl rfl (by omega) (by omega) (by omega))) ?_
  refine Bod.ic 0 (by decide) dc_288_669 ?_
  refine Bod.ist dc_288_670 (by rw [ml_288]; exact Nat.le_of_ble_eq_true rfl) ?_
  refine Bod.aldnG dc_288_672 (by repeat (first | exact h0 | exact sm_get_p1 | exact sm_get_p2e | refine sm_get_p1m (by decide) (by decide) ?_ | refine sm_get_p1n (by decide) rfl ?_ | refine sm_get_p2n (by decide) (by decide) rfl ?_)) ?_
  refine Bod.go dc_288_673 rfl ?_
  refine Bod.ifF dc_288_675 rfl (k1_ne_F (k_eq 0 0 rfl rfl (by omega))) ?_
  refine Bod.go dc_288_678 rfl ?_
  refine Bod.ifT dc_288_680 rfl (k1_eq_T (k_eq 0 0 rfl rfl (by omega))) ?_
  refine Bod.bip 8 (by decide) dc_288_687 ?_
  refine Bod.go dc_288_689 rfl ?_
  refine Bod.ifT dc_288_691 rfl (k1_eq_T (k_eq 0 0 rfl rfl (by omega))) ?_
  refine Bod.ildG dc_288_706 (by repeat (first | exact h7 | exact sm_get_p1 | exact sm_get_p2e | refine sm_get_p1m (by decide) (by decide) ?_ | refine sm_get_p1n (by decide) rfl ?_ | refine sm_get_p2n (by decide) (by decide) rfl ?_)) ?_
  refine Bod.ildG dc_288_708 (by repeat (first | exact h4 | exact sm_get_p1 | exact sm_get_p2e | refine sm_get_p1m (by decide) (by decide) ?_ | refine sm_get_p1n (by decide) rfl ?_ | refine sm_get_p2n (by decide) (by decide) rfl ?_)) ?_
  refine Bod.ildG dc_288_710 (by repeat (first | exact h5 | exact sm_get_p1 | exact sm_get_p2e | refine sm_get_p1m (by decide) (by decide) ?_ | refine sm_get_p1n (by decide) rfl ?_ | refine sm_get_p2n (by decide) (by decide) rfl ?_)) ?_
  refine Bod.virt (r := []) dc_288_712 kr_288_151 ⟨Or.inl rfl, ow_293, cl_14⟩ (by rw [np_293]; rfl) (by rw [np_293]; rfl) (ob_of (mk_61 _)) (Nat.le_of_ble_eq_true rfl) (tok_ev (t := t) (kd := (nI 8)) (vl := (nI 33)) (ln := (nI l)) (bl := (nI bl)) (by first | assumption | rfl | exact congrArg nI (by omega) | (simp (disch := omega) only [rI, rIe, rA, rIA, rLA, rJA, rVI, rQI, rVA, rQA, upd_at,  rAI, rLI, rJI, nI_add, pk_sub, kc_0, kc_1, kc_2, kc_3, kc_4, kc_5, reduceIte, Nat.reduceEqDiff, Nat.add_zero, rI_hold, rI_hold, rL_hold, ht]; done)) (by omega)) ?_
  show Bod _ _ _ _ [] _ _ _
  refine Bod.ildG dc_288_715 (by repeat (first | exact h6 | exact sm_get_p1 | exact sm_get_p2e | refine sm_get_p1m (by decide) (by decide) ?_ | refine sm_get_p1n (by decide) rfl ?_ | refine sm_get_p2n (by decide) (by decide) rfl ?_)) ?_
  refine Bod.go dc_288_717 rfl ?_
  refine Bod.ifT dc_288_719 rfl (k1_eq_T (k_eq 0 0 rfl rfl (by omega))) ?_
  refine Bod.ic 1 (by decide) dc_288_726 ?_
  refine Bod.addN (p + 1) (by omega) dc_288_727 ?_
  refine Bod.ist dc_288_728 (by rw [ml_288]; exact Nat.le_of_ble_eq_true rfl) ?_
  refine Bod.go dc_288_730 rfl ?_
  exact hB _ (by repeat (first | exact h0 | exact sm_get_p1 | exact sm_get_p2e | refine sm_get_p1m (by decide) (by decide) ?_ | refine sm_get_p1n (by decide) rfl ?_ | refine sm_get_p2n (by decide) (by decide) rfl ?_)) (by repeat (first | exact h1 | exact sm_get_p1 | exact sm_get_p2e | refine sm_get_p1m (by decide) (by decide) ?_ | refine sm_get_p1n (by decide) rfl ?_ | refine sm_get_p2n (by decide) (by decide) rfl ?_)) (by repeat (first | exact h3 | exact sm_get_p1 | exact sm_get_p2e | refine sm_get_p1m (by decide) (by decide) ?_ | refine sm_get_p1n (by decide) rfl ?_ | refine sm_get_p2n (by decide) (by decide) rfl ?_)) (by repeat (first | exact h4 | exact sm_get_p1 | exact sm_get_p2e | refine sm_get_p1m (by decide) (by decide) ?_ | refine sm_get_p1n (by decide) rfl ?_ | refine sm_get_p2n (by decide) (by decide) rfl ?_)) (by repeat (first | exact h5 | exact sm_get_p1 | exact sm_get_p2e | refine sm_get_p1m (by decide) (by decide) ?_ | refine sm_get_p1n (by decide) rfl ?_ | refine sm_get_p2n (by decide) (by decide) rfl ?_)) (by repeat (first | exact h6 | exact sm_get_p1 | exact sm_get_p2e | refine sm_get_p1m (by decide) (by decide) ?_ | refine sm_get_p1n (by decide) rfl ?_ | refine sm_get_p2n (by decide) (by decide) rfl ?_))
theorem rs_37_61 {d : Nat} {S Sf : cS} {lv : sm_L} {v : Option Value} {e : Nat} {l : Nat} {bl : Nat} {p : Nat} {x : Int32} {st : Nat} {t : Nat} (heM : e ≤ 3000) (hp : p ≤ e) (h0 : sm_get lv 0 = some (.ref 61)) (h1 : sm_get lv 1 = some (.ref 107)) (h3 : sm_get lv 3 = some (.int (nI e))) (h4 : sm_get lv 4 = some (.int (nI l))) (h5 : sm_get lv 5 = some (.int (nI bl))) (h6 : sm_get lv 6 = some (.int (nI p))) (h7 : sm_get lv 7 = some (.int (nI 37))) (h8 : sm_get lv 8 = some (.int (nI st))) (hd : sm_get lv 9 = some (.int (nI 61))) (ht : sI S 6112 = nI t) (htM : t < 6002) (hB : ∀ lv1 : sm_L, sm_get lv1 0 = some (.ref 61) → sm_get lv1 1 = some (.ref 107) → sm_get lv1 3 = some (.int (nI e)) → sm_get lv1 4 = some (.int (nI l)) → sm_get lv1 5 = some (.int (nI bl)) → sm_get lv1 6 = some (.int (nI (p + 1))) → Bod (d + 8) 288 3 lv1 [] (wI 6112 (nI (t + 1)) (wA 70 t ((nI bl)) (wA 69 t ((nI l)) (wA 68 t ((nI 37)) (wA 67 t ((nI 5)) S))))) v Sf) : Bod (d + 8) 288 476 lv [] S v Sf := by
  refine Bod.ildG dc_288_476 (by repeat (first | exact hd | exact sm_get_p1 | exact sm_get_p2e | refine sm_get_p1m (by decide) (by decide) ?_ | refine sm_get_p1n (by decide) rfl ?_ | refine sm_get_p2n (by decide) (by decide) rfl ?_)) ?_
  refine Bod.bip 61 (by decide) dc_288_478 ?_
  refine Bod.icF dc_288_480 rfl (k2_ne_F (k_eq 61 61 rfl rfl (by omega))) ?_
  refine Bod.ildG dc_288_483 (by repeat (first | exact h7 | exact sm_get_p1 | exact sm_get_p2e | refine sm_get_p1m (by decide) (by decide) ?_ | refine sm_get_p1n (by decide) rfl ?_ | refine sm_get_p2n (by decide) (by decide) rfl ?_)) ?_
  refine Bod.bip 61 (by decide) dc_288_485 ?_
  refine Bod.icF dc_288_487 rfl (k2_eq_F (k_ne 37 61 rfl rfl (by omega) (by omega) (by omega))) ?_
  refine Bod.ildG dc_288_490 (by repeat (first | exact h7 | exact sm_get_p1 | exact sm_get_p2e | refine sm_get_p1m (by decide) (by decide) ?_ | refine sm_get_p1n (by decide) rfl ?_ | refine sm_get_p2n (by decide) (by decide) rfl ?_)) ?_
  refine Bod.bip 33 (by decide) dc_288_492 ?_
  refine Bod.icF dc_288_494 rfl (k2_eq_F (k_ne 37 33 rfl rfl (by omega) (by omega) (by omega))) ?_
  refine Bod.ildG dc_288_497 (by repeat (first | exact h7 | exact sm_get_p1 | exact sm_get_p2e | refine sm_get_p1m (by decide) (by decide) ?_ | refine sm_get_p1n (by decide) rfl ?_ | refine sm_get_p2n (by decide) (by decide) rfl ?_)) ?_
  refine Bod.bip 60 (by decide) dc_288_499 ?_
  refine Bod.icF dc_288_501 rfl (k2_eq_F (k_ne 37 60 rfl rfl (by omega) (by omega) (by omega))) ?_
  refine Bod.ildG dc_288_504 (by repeat (first | exact h7 | exact sm_get_p1 | exact sm_get_p2e | refine sm_get_p1m (by decide) (by decide) ?_ | refine sm_get_p1n (by decide) rfl ?_ | refine sm_get_p2n (by decide) (by decide) rfl ?_)) ?_
  refine Bod.bip 62 (by decide) dc_288_506 ?_
  refine Bod.icF dc_288_508 rfl (k2_eq_F (k_ne 37 62 rfl rfl (by omega) (by omega) (by omega))) ?_
  refine Bod.ildG dc_288_511 (by repeat (first | exact h7 | exact sm_get_p1 | exact sm_get_p2e | refine sm_get_p1m (by decide) (by decide) ?_ | refine sm_get_p1n (by decide) rfl ?_ | refine sm_get_p2n (by decide) (by decide) rfl ?_)) ?_
  refine Bod.bip 43 (by decide) dc_288_513 ?_
  refine Bod.icF dc_288_515 rfl (k2_eq_F (k_ne 37 43 rfl rfl (by omega) (by omega) (by omega))) ?_
  refine Bod.ildG dc_288_518 (by repeat (first | exact h7 | exact sm_get_p1 | exact sm_get_p2e | refine sm_get_p1m (by decide) (by decide) ?_ | refine sm_get_p1n (by decide) rfl ?_ | refine sm_get_p2n (by decide) (by decide) rfl ?_)) ?_
  refine Bod.bip 45 (by decide) dc_288_520 ?_
  refine Bod.icF dc_288_522 rfl (k2_eq_F (k_ne 37 45 rfl rfl (by omega) (by omega) (by omega))) ?_
  refine Bod.ildG dc_288_525 (by repeat (first | exact h7 | exact sm_get_p1 | exact sm_get_p2e | refine sm_get_p1m (by decide) (by decide) ?_ | refine sm_get_p1n (by decide) rfl ?_ | refine sm_get_p2n (by decide) (by decide) rfl ?_)) ?_
  refine Bod.bip 42 (by decide) dc_288_527 ?_
  refine Bod.icF dc_288_529 rfl (k2_eq_F (k_ne 37 42 rfl rfl (by omega) (by omega) (by omega))) ?_
  refine Bod.ildG dc_288_532 (by repeat (first | exact h7 | exact sm_get_p1 | exact sm_get_p2e | refine sm_get_p1m (by decide) (by decide) ?_ | refine sm_get_p1n (by decide) rfl ?_ | refine sm_get_p2n (by decide) (by decide) rfl ?_)) ?_
  refine Bod.bip 47 (by decide) dc_288_534 ?_
  refine Bod.icT dc_288_536 rfl (k2_ne_T (k_ne 37 47 rfl rfl (by omega) (by omega) (by omega))) ?_
  refine Bod.ic 0 (by decide) dc_288_550 ?_
  refine Bod.ist dc_288_551 (by rw [ml_288]; exact Nat.le_of_ble_eq_true rfl) ?_
  refine Bod.ildG dc_288_553 (by repeat (first | exact h7 | exact sm_get_p1 | exact sm_get_p2e | refine sm_get_p1m (by decide) (by decide) ?_ | refine sm_get_p1n (by decide) rfl ?_ | refine sm_get_p2n (by decide) (by decide) rfl ?_)) ?_
  refine Bod.bip 40 (by decide) dc_288_555 ?_
  refine Bod.icF dc_288_557 rfl (k2_eq_F (k_ne 37 40 rfl rfl (by omega) (by omega) (by omega))) ?_
  refine Bod.ildG dc_288_560 (by repeat (first | exact h7 | exact sm_get_p1 | exact sm_get_p2e | refine sm_get_p1m (by decide) (by decide) ?_ | refine sm_get_p1n (by decide) rfl ?_ | refine sm_get_p2n (by decide) (by decide) rfl ?_)) ?_
  refine Bod.bip 41 (by decide) dc_288_562 ?_
  refine Bod.icF dc_288_564 rfl (k2_eq_F (k_ne 37 41 rfl rfl (by omega) (by omega) (by omega))) ?_
  refine Bod.ildG dc_288_567 (by repeat (first | exact h7 | exact sm_get_p1 | exact sm_get_p2e | refine sm_get_p1m (by decide) (by decide) ?_ | refine sm_get_p1n (by decide) rfl ?_ | refine sm_get_p2n (by decide) (by decide) rfl ?_)) ?_
  refine Bod.bip 91 (by decide) dc_288_569 ?_
  refine Bod.icF dc_288_571 rfl (k2_eq_F (k_ne 37 91 rfl rfl (by omega) (by omega) (by omega))) ?_
  refine Bod.ildG dc_288_574 (by repeat (first | exact h7 | exact sm_get_p1 | exact sm_get_p2e | refine sm_get_p1m (by decide) (by decide) ?_ | refine sm_get_p1n (by decide) rfl ?_ | refine sm_get_p2n (by decide) (by decide) rfl ?_)) ?_
  refine Bod.bip 93 (by decide) dc_288_576 ?_
  refine Bod.icF dc_288_578 rfl (k2_eq_F (k_ne 37 93 rfl rfl (by omega) (by omega) (by omega))) ?_
  refine Bod.ildG dc_288_581 (by repeat (first | exact h7 | exact sm_get_p1 | exact sm_get_p2e | refine sm_get_p1m (by decide) (by decide) ?_ | refine sm_get_p1n (by decide) rfl ?_ | refine sm_get_p2n (by decide) (by decide) rfl ?_)) ?_
  refine Bod.bip 123 (by decide) dc_288_583 ?_
  refine Bod.icF dc_288_585 rfl (k2_eq_F (k_ne 37 123 rfl rfl (by omega) (by omega) (by omega))) ?_
  refine Bod.ildG dc_288_588 (by repeat (first | exact h7 | exact sm_get_p1 | exact sm_get_p2e | refine sm_get_p1m (by decide) (by decide) ?_ | refine sm_get_p1n (by decide) rfl ?_ | refine sm_get_p2n (by decide) (by decide) rfl ?_)) ?_
  refine Bod.bip 125 (by decide) dc_288_590 ?_
  refine Bod.icF dc_288_592 rfl (k2_eq_F (k_ne 37 125 rfl rfl (by omega) (by omega) (by omega))) ?_
  refine Bod.ildG dc_288_595 (by repeat (first | exact h7 | exact sm_get_p1 | exact sm_get_p2e | refine sm_get_p1m (by decide) (by decide) ?_ | refine sm_get_p1n (by decide) rfl ?_ | refine sm_get_p2n (by decide) (by decide) rfl ?_)) ?_
  refine Bod.bip 44 (by decide) dc_288_597 ?_
  refine Bod.icF dc_288_599 rfl (k2_eq_F (k_ne 37 44 rfl rfl (by omega) (by omega) (by omega))) ?_
  refine Bod.ildG dc_288_602 (by repeat (first | exact h7 | exact sm_get_p1 | exact sm_get_p2e | refine sm_get_p1m (by decide) (by decide) ?_ | refine sm_get_p1n (by decide) rfl ?_ | refine sm_get_p2n (by decide) (by decide) rfl ?_)) ?_
  refine Bod.bip 58 (by decide) dc_288_604 ?_
  refine Bod.icF dc_288_606 rfl (k2_eq_F (k_ne 37 58 rfl rfl (by omega) (by omega) (by omega))) ?_
  refine Bod.ildG dc_288_609 (by repeat (first | exact h7 | exact sm_get_p1 | exact sm_get_p2e | refine sm_get_p1m (by decide) (by decide) ?_ | refine sm_get_p1n (by decide) rfl ?_ | refine sm_get_p2n (by decide) (by decide) rfl ?_)) ?_
  refine Bod.bip 46 (by decide) dc_288_611 ?_
  refine Bod.icF dc_288_613 rfl (k2_eq_F (k_ne 37 46 rfl rfl (by omega) (by omega) (by omega))) ?_
  refine Bod.ildG dc_288_616 (by repeat (first | exact h7 | exact sm_get_p1 | exact sm_get_p2e | refine sm_get_p1m (by decide) (by decide) ?_ | refine sm_get_p1n (by decide) rfl ?_ | refine sm_get_p2n (by decide) (by decide) rfl ?_)) ?_
  refine Bod.bip 43 (by decide) dc_288_618 ?_
  refine Bod.icF dc_288_620 rfl (k2_eq_F (k_ne 37 43 rfl rfl (by omega) (by omega) (by omega))) ?_
  refine Bod.ildG dc_288_623 (by repeat (first | exact h7 | exact sm_get_p1 | exact sm_get_p2e | refine sm_get_p1m (by decide) (by decide) ?_ | refine sm_get_p1n (by decide) rfl ?_ | refine sm_get_p2n (by decide) (by decide) rfl ?_)) ?_
  refine Bod.bip 45 (by decide) dc_288_625 ?_
  refine Bod.icF dc_288_627 rfl (k2_eq_F (k_ne 37 45 rfl rfl (by omega) (by omega) (by omega))) ?_
  refine Bod.ildG dc_288_630 (by repeat (first | exact h7 | exact sm_get_p1 | exact sm_get_p2e | refine sm_get_p1m (by decide) (by decide) ?_ | refine sm_get_p1n (by decide) rfl ?_ | refine sm_get_p2n (by decide) (by decide) rfl ?_)) ?_
  refine Bod.bip 42 (by decide) dc_288_632 ?_
  refine Bod.icF dc_288_634 rfl (k2_eq_F (k_ne 37 42 rfl rfl (by omega) (by omega) (by omega))) ?_
  refine Bod.ildG dc_288_637 (by repeat (first | exact h7 | exact sm_get_p1 | exact sm_get_p2e | refine sm_get_p1m (by decide) (by decide) ?_ | refine sm_get_p1n (by decide) rfl ?_ | refine sm_get_p2n (by decide) (by decide) rfl ?_)) ?_
  refine Bod.bip 37 (by decide) dc_288_639 ?_
  refine Bod.icT dc_288_641 rfl (k2_eq_T (k_eq 37 37 rfl rfl (by omega))) ?_
  refine Bod.ic 1 (by decide) dc_288_665 ?_
  refine Bod.go dc_288_666 rfl ?_
  refine Bod.ist dc_288_670 (by rw [ml_288]; exact Nat.le_of_ble_eq_true rfl) ?_
  refine Bod.aldnG dc_288_672 (by repeat (first | exact h0 | exact sm_get_p1 | exact sm_get_p2e | refine sm_get_p1m (by decide) (by decide) ?_ | refine sm_get_p1n (by decide) rfl ?_ | refine sm_get_p2n (by decide) (by decide) rfl ?_)) ?_
  refine Bod.go dc_288_673 rfl ?_
  refine Bod.ifF dc_288_675 rfl (k1_ne_F (k_eq 0 0 rfl rfl (by omega))) ?_
  refine Bod.go dc_288_678 rfl ?_
  refine Bod.ifF dc_288_680 rfl (k1_eq_F (k_ne 1 0 rfl rfl (by omega) (by omega) (by omega))) ?_
  refine Bod.ic 5 (by decide) dc_288_683 ?_
  refine Bod.go dc_288_684 rfl ?_
  refine Bod.go dc_288_689 rfl ?_
  refine Bod.ifT dc_288_691 rfl (k1_eq_T (k_eq 0 0 rfl rfl (by omega))) ?_
  refine Bod.ildG dc_288_706 (by repeat (first | exact h7 | exact sm_get_p1 | exact sm_get_p2e | refine sm_get_p1m (by decide) (by decide) ?_ | refine sm_get_p1n (by decide) rfl ?_ | refine sm_get_p2n (by decide) (by decide) rfl ?_)) ?_
  refine Bod.ildG dc_288_708 (by repeat (first | exact h4 | exact sm_get_p1 | exact sm_get_p2e | refine sm_get_p1m (by decide) (by decide) ?_ | refine sm_get_p1n (by decide) rfl ?_ | refine sm_get_p2n (by decide) (by decide) rfl ?_)) ?_
  refine Bod.ildG dc_288_710 (by repeat (first | exact h5 | exact sm_get_p1 | exact sm_get_p2e | refine sm_get_p1m (by decide) (by decide) ?_ | refine sm_get_p1n (by decide) rfl ?_ | refine sm_get_p2n (by decide) (by decide) rfl ?_)) ?_
  refine Bod.virt (r := []) dc_288_712 kr_288_151 ⟨Or.inl rfl, ow_293, cl_14⟩ (by rw [np_293]; rfl) (by rw [np_293]; rfl) (ob_of (mk_61 _)) (Nat.le_of_ble_eq_true rfl) (tok_ev (t := t) (kd := (nI 5)) (vl := (nI 37)) (ln := (nI l)) (bl := (nI bl)) (by first | assumption | rfl | exact congrArg nI (by omega) | (simp (disch := omega) only [rI, rIe, rA, rIA, rLA, rJA, rVI, rQI, rVA, rQA, upd_at,  rAI, rLI, rJI, nI_add, pk_sub, kc_0, kc_1, kc_2, kc_3, kc_4, kc_5, reduceIte, Nat.reduceEqDiff, Nat.add_zero, rI_hold, rI_hold, rL_hold, ht]; done)) (by omega)) ?_
  show Bod _ _ _ _ [] _ _ _
  refine Bod.ildG dc_288_715 (by repeat (first | exact h6 | exact sm_get_p1 | exact sm_get_p2e | refine sm_get_p1m (by decide) (by decide) ?_ | refine sm_get_p1n (by decide) rfl ?_ | refine sm_get_p2n (by decide) (by decide) rfl ?_)) ?_
  refine Bod.go dc_288_717 rfl ?_
  refine Bod.ifT dc_288_719 rfl (k1_eq_T (k_eq 0 0 rfl rfl (by omega))) ?_
  refine Bod.ic 1 (by decide) dc_288_726 ?_
  refine Bod.addN (p + 1) (by omega) dc_288_727 ?_
  refine Bod.ist dc_288_728 (by rw [ml_288]; exact Nat.le_of_ble_eq_true rfl) ?_
  refine Bod.go dc_288_730 rfl ?_
  exact hB _ (by repeat (first | exact h0 | exact sm_get_p1 | exact sm_get_p2e | refine sm_get_p1m (by decide) (by decide) ?_ | refine sm_get_p1n (by decide) rfl ?_ | refine sm_get_p2n (by decide) (by decide) rfl ?_)) (by repeat (first | exact h1 | exact sm_get_p1 | exact sm_get_p2e | refine sm_get_p1m (by decide) (by decide) ?_ | refine sm_get_p1n (by decide) rfl ?_ | refine sm_get_p2n (by decide) (by decide) rfl ?_)) (by repeat (first | exact h3 | exact sm_get_p1 | exact sm_get_p2e | refine sm_get_p1m (by decide) (by decide) ?_ | refine sm_get_p1n (by decide) rfl ?_ | refine sm_get_p2n (by decide) (by decide) rfl ?_)) (by repeat (first | exact h4 | exact sm_get_p1 | exact sm_get_p2e | refine sm_get_p1m (by decide) (by decide) ?_ | refine sm_get_p1n (by decide) rfl ?_ | refine sm_get_p2n (by decide) (by decide) rfl ?_)) (by repeat (first | exact h5 | exact sm_get_p1 | exact sm_get_p2e | refine sm_get_p1m (by decide) (by decide) ?_ | refine sm_get_p1n (by decide) rfl ?_ | refine sm_get_p2n (by decide) (by decide) rfl ?_)) (by repeat (first | exact h6 | exact sm_get_p1 | exact sm_get_p2e | refine sm_get_p1m (by decide) (by decide) ?_ | refine sm_get_p1n (by decide) rfl ?_ | refine sm_get_p2n (by decide) (by decide) rfl ?_))
theorem rs_37_n {d : Nat} {S Sf : cS} {lv : sm_L} {v : Option Value} {e : Nat} {l : Nat} {bl : Nat} {p : Nat} {x : Int32} {st : Nat} {dd : Int32} {t : Nat} (heM : e ≤ 3000) (hp : p ≤ e) (h0 : sm_get lv 0 = some (.ref 61)) (h1 : sm_get lv 1 = some (.ref 107)) (h3 : sm_get lv 3 = some (.int (nI e))) (h4 : sm_get lv 4 = some (.int (nI l))) (h5 : sm_get lv 5 = some (.int (nI bl))) (h6 : sm_get lv 6 = some (.int (nI p))) (h7 : sm_get lv 7 = some (.int (nI 37))) (h8 : sm_get lv 8 = some (.int (nI st))) (hd : sm_get lv 9 = some (.int dd)) (n61 : dd ≠ nI 61) (ht : sI S 6112 = nI t) (htM : t < 6002) (hB : ∀ lv1 : sm_L, sm_get lv1 0 = some (.ref 61) → sm_get lv1 1 = some (.ref 107) → sm_get lv1 3 = some (.int (nI e)) → sm_get lv1 4 = some (.int (nI l)) → sm_get lv1 5 = some (.int (nI bl)) → sm_get lv1 6 = some (.int (nI (p + 1))) → Bod (d + 8) 288 3 lv1 [] (wI 6112 (nI (t + 1)) (wA 70 t ((nI bl)) (wA 69 t ((nI l)) (wA 68 t ((nI 37)) (wA 67 t ((nI 5)) S))))) v Sf) : Bod (d + 8) 288 476 lv [] S v Sf := by
  refine Bod.ildG dc_288_476 (by repeat (first | exact hd | exact sm_get_p1 | exact sm_get_p2e | refine sm_get_p1m (by decide) (by decide) ?_ | refine sm_get_p1n (by decide) rfl ?_ | refine sm_get_p2n (by decide) (by decide) rfl ?_)) ?_
  refine Bod.bip 61 (by decide) dc_288_478 ?_
  refine Bod.icT dc_288_480 rfl (k2_ne_T n61) ?_
  refine Bod.ildG dc_288_532 (by repeat (first | exact h7 | exact sm_get_p1 | exact sm_get_p2e | refine sm_get_p1m (by decide) (by decide) ?_ | refine sm_get_p1n (by decide) rfl ?_ | refine sm_get_p2n (by decide) (by decide) rfl ?_)) ?_
  refine Bod.bip 47 (by decide) dc_288_534 ?_
  refine Bod.icT dc_288_536 rfl (k2_ne_T (k_ne 37 47 rfl rfl (by omega) (by omega) (by omega))) ?_
  refine Bod.ic 0 (by decide) dc_288_550 ?_
  refine Bod.ist dc_288_551 (by rw [ml_288]; exact Nat.le_of_ble_eq_true rfl) ?_
  refine Bod.ildG dc_288_553 (by repeat (first | exact h7 | exact sm_get_p1 | exact sm_get_p2e | refine sm_get_p1m (by decide) (by decide) ?_ | refine sm_get_p1n (by decide) rfl ?_ | refine sm_get_p2n (by decide) (by decide) rfl ?_)) ?_
  refine Bod.bip 40 (by decide) dc_288_555 ?_
  refine Bod.icF dc_288_557 rfl (k2_eq_F (k_ne 37 40 rfl rfl (by omega) (by omega) (by omega))) ?_
  refine Bod.ildG dc_288_560 (by repeat (first | exact h7 | exact sm_get_p1 | exact sm_get_p2e | refine sm_get_p1m (by decide) (by decide) ?_ | refine sm_get_p1n (by decide) rfl ?_ | refine sm_get_p2n (by decide) (by decide) rfl ?_)) ?_
  refine Bod.bip 41 (by decide) dc_288_562 ?_
  refine Bod.icF dc_288_564 rfl (k2_eq_F (k_ne 37 41 rfl rfl (by omega) (by omega) (by omega))) ?_
  refine Bod.ildG dc_288_567 (by repeat (first | exact h7 | exact sm_get_p1 | exact sm_get_p2e | refine sm_get_p1m (by decide) (by decide) ?_ | refine sm_get_p1n (by decide) rfl ?_ | refine sm_get_p2n (by decide) (by decide) rfl ?_)) ?_
  refine Bod.bip 91 (by decide) dc_288_569 ?_
  refine Bod.icF dc_288_571 rfl (k2_eq_F (k_ne 37 91 rfl rfl (by omega) (by omega) (by omega))) ?_
  refine Bod.ildG dc_288_574 (by repeat (first | exact h7 | exact sm_get_p1 | exact sm_get_p2e | refine sm_get_p1m (by decide) (by decide) ?_ | refine sm_get_p1n (by decide) rfl ?_ | refine sm_get_p2n (by decide) (by decide) rfl ?_)) ?_
  refine Bod.bip 93 (by decide) dc_288_576 ?_
  refine Bod.icF dc_288_578 rfl (k2_eq_F (k_ne 37 93 rfl rfl (by omega) (by omega) (by omega))) ?_
  refine Bod.ildG dc_288_581 (by repeat (first | exact h7 | exact sm_get_p1 | exact sm_get_p2e | refine sm_get_p1m (by decide) (by decide) ?_ | refine sm_get_p1n (by decide) rfl ?_ | refine sm_get_p2n (by decide) (by decide) rfl ?_)) ?_
  refine Bod.bip 123 (by decide) dc_288_583 ?_
  refine Bod.icF dc_288_585 rfl (k2_eq_F (k_ne 37 123 rfl rfl (by omega) (by omega) (by omega))) ?_
  refine Bod.ildG dc_288_588 (by repeat (first | exact h7 | exact sm_get_p1 | exact sm_get_p2e | refine sm_get_p1m (by decide) (by decide) ?_ | refine sm_get_p1n (by decide) rfl ?_ | refine sm_get_p2n (by decide) (by decide) rfl ?_)) ?_
  refine Bod.bip 125 (by decide) dc_288_590 ?_
  refine Bod.icF dc_288_592 rfl (k2_eq_F (k_ne 37 125 rfl rfl (by omega) (by omega) (by omega))) ?_
  refine Bod.ildG dc_288_595 (by repeat (first | exact h7 | exact sm_get_p1 | exact sm_get_p2e | refine sm_get_p1m (by decide) (by decide) ?_ | refine sm_get_p1n (by decide) rfl ?_ | refine sm_get_p2n (by decide) (by decide) rfl ?_)) ?_
  refine Bod.bip 44 (by decide) dc_288_597 ?_
  refine Bod.icF dc_288_599 rfl (k2_eq_F (k_ne 37 44 rfl rfl (by omega) (by omega) (by omega))) ?_
  refine Bod.ildG dc_288_602 (by repeat (first | exact h7 | exact sm_get_p1 | exact sm_get_p2e | refine sm_get_p1m (by decide) (by decide) ?_ | refine sm_get_p1n (by decide) rfl ?_ | refine sm_get_p2n (by decide) (by decide) rfl ?_)) ?_
  refine Bod.bip 58 (by decide) dc_288_604 ?_
  refine Bod.icF dc_288_606 rfl (k2_eq_F (k_ne 37 58 rfl rfl (by omega) (by omega) (by omega))) ?_
  refine Bod.ildG dc_288_609 (by repeat (first | exact h7 | exact sm_get_p1 | exact sm_get_p2e | refine sm_get_p1m (by decide) (by decide) ?_ | refine sm_get_p1n (by decide) rfl ?_ | refine sm_get_p2n (by decide) (by decide) rfl ?_)) ?_
  refine Bod.bip 46 (by decide) dc_288_611 ?_
  refine Bod.icF dc_288_613 rfl (k2_eq_F (k_ne 37 46 rfl rfl (by omega) (by omega) (by omega))) ?_
  refine Bod.ildG dc_288_616 (by repeat (first | exact h7 | exact sm_get_p1 | exact sm_get_p2e | refine sm_get_p1m (by decide) (by decide) ?_ | refine sm_get_p1n (by decide) rfl ?_ | refine sm_get_p2n (by decide) (by decide) rfl ?_)) ?_
  refine Bod.bip 43 (by decide) dc_288_618 ?_
  refine Bod.icF dc_288_620 rfl (k2_eq_F (k_ne 37 43 rfl rfl (by omega) (by omega) (by omega))) ?_
  refine Bod.ildG dc_288_623 (by repeat (first | exact h7 | exact sm_get_p1 | exact sm_get_p2e | refine sm_get_p1m (by decide) (by decide) ?_ | refine sm_get_p1n (by decide) rfl ?_ | refine sm_get_p2n (by decide) (by decide) rfl ?_)) ?_
  refine Bod.bip 45 (by decide) dc_288_625 ?_
  refine Bod.icF dc_288_627 rfl (k2_eq_F (k_ne 37 45 rfl rfl (by omega) (by omega) (by omega))) ?_
  refine Bod.ildG dc_288_630 (by repeat (first | exact h7 | exact sm_get_p1 | exact sm_get_p2e | refine sm_get_p1m (by decide) (by decide) ?_ | refine sm_get_p1n (by decide) rfl ?_ | refine sm_get_p2n (by decide) (by decide) rfl ?_)) ?_
  refine Bod.bip 42 (by decide) dc_288_632 ?_
  refine Bod.icF dc_288_634 rfl (k2_eq_F (k_ne 37 42 rfl rfl (by omega) (by omega) (by omega))) ?_
  refine Bod.ildG dc_288_637 (by repeat (first | exact h7 | exact sm_get_p1 | exact sm_get_p2e | refine sm_get_p1m (by decide) (by decide) ?_ | refine sm_get_p1n (by decide) rfl ?_ | refine sm_get_p2n (by decide) (by decide) rfl ?_)) ?_
  refine Bod.bip 37 (by decide) dc_288_639 ?_
  refine Bod.icT dc_288_641 rfl (k2_eq_T (k_eq 37 37 rfl rfl (by omega))) ?_
  refine Bod.ic 1 (by decide) dc_288_665 ?_
  refine Bod.go dc_288_666 rfl ?_
  refine Bod.ist dc_288_670 (by rw [ml_288]; exact Nat.le_of_ble_eq_true rfl) ?_
  refine Bod.aldnG dc_288_672 (by repeat (first | exact h0 | exact sm_get_p1 | exact sm_get_p2e | refine sm_get_p1m (by decide) (by decide) ?_ | refine sm_get_p1n (by decide) rfl ?_ | refine sm_get_p2n (by decide) (by decide) rfl ?_)) ?_
  refine Bod.go dc_288_673 rfl ?_
  refine Bod.ifF dc_288_675 rfl (k1_ne_F (k_eq 0 0 rfl rfl (by omega))) ?_
  refine Bod.go dc_288_678 rfl ?_
  refine Bod.ifF dc_288_680 rfl (k1_eq_F (k_ne 1 0 rfl rfl (by omega) (by omega) (by omega))) ?_
  refine Bod.ic 5 (by decide) dc_288_683 ?_
  refine Bod.go dc_288_684 rfl ?_
  refine Bod.go dc_288_689 rfl ?_
  refine Bod.ifT dc_288_691 rfl (k1_eq_T (k_eq 0 0 rfl rfl (by omega))) ?_
  refine Bod.ildG dc_288_706 (by repeat (first | exact h7 | exact sm_get_p1 | exact sm_get_p2e | refine sm_get_p1m (by decide) (by decide) ?_ | refine sm_get_p1n (by decide) rfl ?_ | refine sm_get_p2n (by decide) (by decide) rfl ?_)) ?_
  refine Bod.ildG dc_288_708 (by repeat (first | exact h4 | exact sm_get_p1 | exact sm_get_p2e | refine sm_get_p1m (by decide) (by decide) ?_ | refine sm_get_p1n (by decide) rfl ?_ | refine sm_get_p2n (by decide) (by decide) rfl ?_)) ?_
  refine Bod.ildG dc_288_710 (by repeat (first | exact h5 | exact sm_get_p1 | exact sm_get_p2e | refine sm_get_p1m (by decide) (by decide) ?_ | refine sm_get_p1n (by decide) rfl ?_ | refine sm_get_p2n (by decide) (by decide) rfl ?_)) ?_
  refine Bod.virt (r := []) dc_288_712 kr_288_151 ⟨Or.inl rfl, ow_293, cl_14⟩ (by rw [np_293]; rfl) (by rw [np_293]; rfl) (ob_of (mk_61 _)) (Nat.le_of_ble_eq_true rfl) (tok_ev (t := t) (kd := (nI 5)) (vl := (nI 37)) (ln := (nI l)) (bl := (nI bl)) (by first | assumption | rfl | exact congrArg nI (by omega) | (simp (disch := omega) only [rI, rIe, rA, rIA, rLA, rJA, rVI, rQI, rVA, rQA, upd_at,  rAI, rLI, rJI, nI_add, pk_sub, kc_0, kc_1, kc_2, kc_3, kc_4, kc_5, reduceIte, Nat.reduceEqDiff, Nat.add_zero, rI_hold, rI_hold, rL_hold, ht]; done)) (by omega)) ?_
  show Bod _ _ _ _ [] _ _ _
  refine Bod.ildG dc_288_715 (by repeat (first | exact h6 | exact sm_get_p1 | exact sm_get_p2e | refine sm_get_p1m (by decide) (by decide) ?_ | refine sm_get_p1n (by decide) rfl ?_ | refine sm_get_p2n (by decide) (by decide) rfl ?_)) ?_
  refine Bod.go dc_288_717 rfl ?_
  refine Bod.ifT dc_288_719 rfl (k1_eq_T (k_eq 0 0 rfl rfl (by omega))) ?_
  refine Bod.ic 1 (by decide) dc_288_726 ?_
  refine Bod.addN (p + 1) (by omega) dc_288_727 ?_
  refine Bod.ist dc_288_728 (by rw [ml_288]; exact Nat.le_of_ble_eq_true rfl) ?_
  refine Bod.go dc_288_730 rfl ?_
  exact hB _ (by repeat (first | exact h0 | exact sm_get_p1 | exact sm_get_p2e | refine sm_get_p1m (by decide) (by decide) ?_ | refine sm_get_p1n (by decide) rfl ?_ | refine sm_get_p2n (by decide) (by decide) rfl ?_)) (by repeat (first | exact h1 | exact sm_get_p1 | exact sm_get_p2e | refine sm_get_p1m (by decide) (by decide) ?_ | refine sm_get_p1n (by decide) rfl ?_ | refine sm_get_p2n (by decide) (by decide) rfl ?_)) (by repeat (first | exact h3 | exact sm_get_p1 | exact sm_get_p2e | refine sm_get_p1m (by decide) (by decide) ?_ | refine sm_get_p1n (by decide) rfl ?_ | refine sm_get_p2n (by decide) (by decide) rfl ?_)) (by repeat (first | exact h4 | exact sm_get_p1 | exact sm_get_p2e | refine sm_get_p1m (by decide) (by decide) ?_ | refine sm_get_p1n (by decide) rfl ?_ | refine sm_get_p2n (by decide) (by decide) rfl ?_)) (by repeat (first | exact h5 | exact sm_get_p1 | exact sm_get_p2e | refine sm_get_p1m (by decide) (by decide) ?_ | refine sm_get_p1n (by decide) rfl ?_ | refine sm_get_p2n (by decide) (by decide) rfl ?_)) (by repeat (first | exact h6 | exact sm_get_p1 | exact sm_get_p2e | refine sm_get_p1m (by decide) (by decide) ?_ | refine sm_get_p1n (by decide) rfl ?_ | refine sm_get_p2n (by decide) (by decide) rfl ?_))
theorem rs_40_61 {d : Nat} {S Sf : cS} {lv : sm_L} {v : Option Value} {e : Nat} {l : Nat} {bl : Nat} {p : Nat} {x : Int32} {st : Nat} {t : Nat} (heM : e ≤ 3000) (hp : p ≤ e) (h0 : sm_get lv 0 = some (.ref 61)) (h1 : sm_get lv 1 = some (.ref 107)) (h3 : sm_get lv 3 = some (.int (nI e))) (h4 : sm_get lv 4 = some (.int (nI l))) (h5 : sm_get lv 5 = some (.int (nI bl))) (h6 : sm_get lv 6 = some (.int (nI p))) (h7 : sm_get lv 7 = some (.int (nI 40))) (h8 : sm_get lv 8 = some (.int (nI st))) (hd : sm_get lv 9 = some (.int (nI 61))) (ht : sI S 6112 = nI t) (htM : t < 6002) (hB : ∀ lv1 : sm_L, sm_get lv1 0 = some (.ref 61) → sm_get lv1 1 = some (.ref 107) → sm_get lv1 3 = some (.int (nI e)) → sm_get lv1 4 = some (.int (nI l)) → sm_get lv1 5 = some (.int (nI bl)) → sm_get lv1 6 = some (.int (nI (p + 1))) → Bod (d + 8) 288 3 lv1 [] (wI 6112 (nI (t + 1)) (wA 70 t ((nI bl)) (wA 69 t ((nI l)) (wA 68 t ((nI 40)) (wA 67 t ((nI 5)) S))))) v Sf) : Bod (d + 8) 288 476 lv [] S v Sf := by
  refine Bod.ildG dc_288_476 (by repeat (first | exact hd | exact sm_get_p1 | exact sm_get_p2e | refine sm_get_p1m (by decide) (by decide) ?_ | refine sm_get_p1n (by decide) rfl ?_ | refine sm_get_p2n (by decide) (by decide) rfl ?_)) ?_
  refine Bod.bip 61 (by decide) dc_288_478 ?_
  refine Bod.icF dc_288_480 rfl (k2_ne_F (k_eq 61 61 rfl rfl (by omega))) ?_
  refine Bod.ildG dc_288_483 (by repeat (first | exact h7 | exact sm_get_p1 | exact sm_get_p2e | refine sm_get_p1m (by decide) (by decide) ?_ | refine sm_get_p1n (by decide) rfl ?_ | refine sm_get_p2n (by decide) (by decide) rfl ?_)) ?_
  refine Bod.bip 61 (by decide) dc_288_485 ?_
  refine Bod.icF dc_288_487 rfl (k2_eq_F (k_ne 40 61 rfl rfl (by omega) (by omega) (by omega))) ?_
  refine Bod.ildG dc_288_490 (by repeat (first | exact h7 | exact sm_get_p1 | exact sm_get_p2e | refine sm_get_p1m (by decide) (by decide) ?_ | refine sm_get_p1n (by decide) rfl ?_ | refine sm_get_p2n (by decide) (by decide) rfl ?_)) ?_
  refine Bod.bip 33 (by decide) dc_288_492 ?_
  refine Bod.icF dc_288_494 rfl (k2_eq_F (k_ne 40 33 rfl rfl (by omega) (by omega) (by omega))) ?_
  refine Bod.ildG dc_288_497 (by repeat (first | exact h7 | exact sm_get_p1 | exact sm_get_p2e | refine sm_get_p1m (by decide) (by decide) ?_ | refine sm_get_p1n (by decide) rfl ?_ | refine sm_get_p2n (by decide) (by decide) rfl ?_)) ?_
  refine Bod.bip 60 (by decide) dc_288_499 ?_
  refine Bod.icF dc_288_501 rfl (k2_eq_F (k_ne 40 60 rfl rfl (by omega) (by omega) (by omega))) ?_
  refine Bod.ildG dc_288_504 (by repeat (first | exact h7 | exact sm_get_p1 | exact sm_get_p2e | refine sm_get_p1m (by decide) (by decide) ?_ | refine sm_get_p1n (by decide) rfl ?_ | refine sm_get_p2n (by decide) (by decide) rfl ?_)) ?_
  refine Bod.bip 62 (by decide) dc_288_506 ?_
  refine Bod.icF dc_288_508 rfl (k2_eq_F (k_ne 40 62 rfl rfl (by omega) (by omega) (by omega))) ?_
  refine Bod.ildG dc_288_511 (by repeat (first | exact h7 | exact sm_get_p1 | exact sm_get_p2e | refine sm_get_p1m (by decide) (by decide) ?_ | refine sm_get_p1n (by decide) rfl ?_ | refine sm_get_p2n (by decide) (by decide) rfl ?_)) ?_
  refine Bod.bip 43 (by decide) dc_288_513 ?_
  refine Bod.icF dc_288_515 rfl (k2_eq_F (k_ne 40 43 rfl rfl (by omega) (by omega) (by omega))) ?_
  refine Bod.ildG dc_288_518 (by repeat (first | exact h7 | exact sm_get_p1 | exact sm_get_p2e | refine sm_get_p1m (by decide) (by decide) ?_ | refine sm_get_p1n (by decide) rfl ?_ | refine sm_get_p2n (by decide) (by decide) rfl ?_)) ?_
  refine Bod.bip 45 (by decide) dc_288_520 ?_
  refine Bod.icF dc_288_522 rfl (k2_eq_F (k_ne 40 45 rfl rfl (by omega) (by omega) (by omega))) ?_
  refine Bod.ildG dc_288_525 (by repeat (first | exact h7 | exact sm_get_p1 | exact sm_get_p2e | refine sm_get_p1m (by decide) (by decide) ?_ | refine sm_get_p1n (by decide) rfl ?_ | refine sm_get_p2n (by decide) (by decide) rfl ?_)) ?_
  refine Bod.bip 42 (by decide) dc_288_527 ?_
  refine Bod.icF dc_288_529 rfl (k2_eq_F (k_ne 40 42 rfl rfl (by omega) (by omega) (by omega))) ?_
  refine Bod.ildG dc_288_532 (by repeat (first | exact h7 | exact sm_get_p1 | exact sm_get_p2e | refine sm_get_p1m (by decide) (by decide) ?_ | refine sm_get_p1n (by decide) rfl ?_ | refine sm_get_p2n (by decide) (by decide) rfl ?_)) ?_
  refine Bod.bip 47 (by decide) dc_288_534 ?_
  refine Bod.icT dc_288_536 rfl (k2_ne_T (k_ne 40 47 rfl rfl (by omega) (by omega) (by omega))) ?_
  refine Bod.ic 0 (by decide) dc_288_550 ?_
  refine Bod.ist dc_288_551 (by rw [ml_288]; exact Nat.le_of_ble_eq_true rfl) ?_
  refine Bod.ildG dc_288_553 (by repeat (first | exact h7 | exact sm_get_p1 | exact sm_get_p2e | refine sm_get_p1m (by decide) (by decide) ?_ | refine sm_get_p1n (by decide) rfl ?_ | refine sm_get_p2n (by decide) (by decide) rfl ?_)) ?_
  refine Bod.bip 40 (by decide) dc_288_555 ?_
  refine Bod.icT dc_288_557 rfl (k2_eq_T (k_eq 40 40 rfl rfl (by omega))) ?_
  refine Bod.ic 1 (by decide) dc_288_665 ?_
  refine Bod.go dc_288_666 rfl ?_
  refine Bod.ist dc_288_670 (by rw [ml_288]; exact Nat.le_of_ble_eq_true rfl) ?_
  refine Bod.aldnG dc_288_672 (by repeat (first | exact h0 | exact sm_get_p1 | exact sm_get_p2e | refine sm_get_p1m (by decide) (by decide) ?_ | refine sm_get_p1n (by decide) rfl ?_ | refine sm_get_p2n (by decide) (by decide) rfl ?_)) ?_
  refine Bod.go dc_288_673 rfl ?_
  refine Bod.ifF dc_288_675 rfl (k1_ne_F (k_eq 0 0 rfl rfl (by omega))) ?_
  refine Bod.go dc_288_678 rfl ?_
  refine Bod.ifF dc_288_680 rfl (k1_eq_F (k_ne 1 0 rfl rfl (by omega) (by omega) (by omega))) ?_
  refine Bod.ic 5 (by decide) dc_288_683 ?_
  refine Bod.go dc_288_684 rfl ?_
  refine Bod.go dc_288_689 rfl ?_
  refine Bod.ifT dc_288_691 rfl (k1_eq_T (k_eq 0 0 rfl rfl (by omega))) ?_
  refine Bod.ildG dc_288_706 (by repeat (first | exact h7 | exact sm_get_p1 | exact sm_get_p2e | refine sm_get_p1m (by decide) (by decide) ?_ | refine sm_get_p1n (by decide) rfl ?_ | refine sm_get_p2n (by decide) (by decide) rfl ?_)) ?_
  refine Bod.ildG dc_288_708 (by repeat (first | exact h4 | exact sm_get_p1 | exact sm_get_p2e | refine sm_get_p1m (by decide) (by decide) ?_ | refine sm_get_p1n (by decide) rfl ?_ | refine sm_get_p2n (by decide) (by decide) rfl ?_)) ?_
  refine Bod.ildG dc_288_710 (by repeat (first | exact h5 | exact sm_get_p1 | exact sm_get_p2e | refine sm_get_p1m (by decide) (by decide) ?_ | refine sm_get_p1n (by decide) rfl ?_ | refine sm_get_p2n (by decide) (by decide) rfl ?_)) ?_
  refine Bod.virt (r := []) dc_288_712 kr_288_151 ⟨Or.inl rfl, ow_293, cl_14⟩ (by rw [np_293]; rfl) (by rw [np_293]; rfl) (ob_of (mk_61 _)) (Nat.le_of_ble_eq_true rfl) (tok_ev (t := t) (kd := (nI 5)) (vl := (nI 40)) (ln := (nI l)) (bl := (nI bl)) (by first | assumption | rfl | exact congrArg nI (by omega) | (simp (disch := omega) only [rI, rIe, rA, rIA, rLA, rJA, rVI, rQI, rVA, rQA, upd_at,  rAI, rLI, rJI, nI_add, pk_sub, kc_0, kc_1, kc_2, kc_3, kc_4, kc_5, reduceIte, Nat.reduceEqDiff, Nat.add_zero, rI_hold, rI_hold, rL_hold, ht]; done)) (by omega)) ?_
  show Bod _ _ _ _ [] _ _ _
  refine Bod.ildG dc_288_715 (by repeat (first | exact h6 | exact sm_get_p1 | exact sm_get_p2e | refine sm_get_p1m (by decide) (by decide) ?_ | refine sm_get_p1n (by decide) rfl ?_ | refine sm_get_p2n (by decide) (by decide) rfl ?_)) ?_
  refine Bod.go dc_288_717 rfl ?_
  refine Bod.ifT dc_288_719 rfl (k1_eq_T (k_eq 0 0 rfl rfl (by omega))) ?_
  refine Bod.ic 1 (by decide) dc_288_726 ?_
  refine Bod.addN (p + 1) (by omega) dc_288_727 ?_
  refine Bod.ist dc_288_728 (by rw [ml_288]; exact Nat.le_of_ble_eq_true rfl) ?_
  refine Bod.go dc_288_730 rfl ?_
  exact hB _ (by repeat (first | exact h0 | exact sm_get_p1 | exact sm_get_p2e | refine sm_get_p1m (by decide) (by decide) ?_ | refine sm_get_p1n (by decide) rfl ?_ | refine sm_get_p2n (by decide) (by decide) rfl ?_)) (by repeat (first | exact h1 | exact sm_get_p1 | exact sm_get_p2e | refine sm_get_p1m (by decide) (by decide) ?_ | refine sm_get_p1n (by decide) rfl ?_ | refine sm_get_p2n (by decide) (by decide) rfl ?_)) (by repeat (first | exact h3 | exact sm_get_p1 | exact sm_get_p2e | refine sm_get_p1m (by decide) (by decide) ?_ | refine sm_get_p1n (by decide) rfl ?_ | refine sm_get_p2n (by decide) (by decide) rfl ?_)) (by repeat (first | exact h4 | exact sm_get_p1 | exact sm_get_p2e | refine sm_get_p1m (by decide) (by decide) ?_ | refine sm_get_p1n (by decide) rfl ?_ | refine sm_get_p2n (by decide) (by decide) rfl ?_)) (by repeat (first | exact h5 | exact sm_get_p1 | exact sm_get_p2e | refine sm_get_p1m (by decide) (by decide) ?_ | refine sm_get_p1n (by decide) rfl ?_ | refine sm_get_p2n (by decide) (by decide) rfl ?_)) (by repeat (first | exact h6 | exact sm_get_p1 | exact sm_get_p2e | refine sm_get_p1m (by decide) (by decide) ?_ | refine sm_get_p1n (by decide) rfl ?_ | refine sm_get_p2n (by decide) (by decide) rfl ?_))
theorem rs_40_n {d : Nat} {S Sf : cS} {lv : sm_L} {v : Option Value} {e : Nat} {l : Nat} {bl : Nat} {p : Nat} {x : Int32} {st : Nat} {dd : Int32} {t : Nat} (heM : e ≤ 3000) (hp : p ≤ e) (h0 : sm_get lv 0 = some (.ref 61)) (h1 : sm_get lv 1 = some (.ref 107)) (h3 : sm_get lv 3 = some (.int (nI e))) (h4 : sm_get lv 4 = some (.int (nI l))) (h5 : sm_get lv 5 = some (.int (nI bl))) (h6 : sm_get lv 6 = some (.int (nI p))) (h7 : sm_get lv 7 = some (.int (nI 40))) (h8 : sm_get lv 8 = some (.int (nI st))) (hd : sm_get lv 9 = some (.int dd)) (n61 : dd ≠ nI 61) (ht : sI S 6112 = nI t) (htM : t < 6002) (hB : ∀ lv1 : sm_L, sm_get lv1 0 = some (.ref 61) → sm_get lv1 1 = some (.ref 107) → sm_get lv1 3 = some (.int (nI e)) → sm_get lv1 4 = some (.int (nI l)) → sm_get lv1 5 = some (.int (nI bl)) → sm_get lv1 6 = some (.int (nI (p + 1))) → Bod (d + 8) 288 3 lv1 [] (wI 6112 (nI (t + 1)) (wA 70 t ((nI bl)) (wA 69 t ((nI l)) (wA 68 t ((nI 40)) (wA 67 t ((nI 5)) S))))) v Sf) : Bod (d + 8) 288 476 lv [] S v Sf := by
  refine Bod.ildG dc_288_476 (by repeat (first | exact hd | exact sm_get_p1 | exact sm_get_p2e | refine sm_get_p1m (by decide) (by decide) ?_ | refine sm_get_p1n (by decide) rfl ?_ | refine sm_get_p2n (by decide) (by decide) rfl ?_)) ?_
  refine Bod.bip 61 (by decide) dc_288_478 ?_
  refine Bod.icT dc_288_480 rfl (k2_ne_T n61) ?_
  refine Bod.ildG dc_288_532 (by repeat (first | exact h7 | exact sm_get_p1 | exact sm_get_p2e | refine sm_get_p1m (by decide) (by decide) ?_ | refine sm_get_p1n (by decide) rfl ?_ | refine sm_get_p2n (by decide) (by decide) rfl ?_)) ?_
  refine Bod.bip 47 (by decide) dc_288_534 ?_
  refine Bod.icT dc_288_536 rfl (k2_ne_T (k_ne 40 47 rfl rfl (by omega) (by omega) (by omega))) ?_
  refine Bod.ic 0 (by decide) dc_288_550 ?_
  refine Bod.ist dc_288_551 (by rw [ml_288]; exact Nat.le_of_ble_eq_true rfl) ?_
  refine Bod.ildG dc_288_553 (by repeat (first | exact h7 | exact sm_get_p1 | exact sm_get_p2e | refine sm_get_p1m (by decide) (by decide) ?_ | refine sm_get_p1n (by decide) rfl ?_ | refine sm_get_p2n (by decide) (by decide) rfl ?_)) ?_
  refine Bod.bip 40 (by decide) dc_288_555 ?_
  refine Bod.icT dc_288_557 rfl (k2_eq_T (k_eq 40 40 rfl rfl (by omega))) ?_
  refine Bod.ic 1 (by decide) dc_288_665 ?_
  refine Bod.go dc_288_666 rfl ?_
  refine Bod.ist dc_288_670 (by rw [ml_288]; exact Nat.le_of_ble_eq_true rfl) ?_
  refine Bod.aldnG dc_288_672 (by repeat (first | exact h0 | exact sm_get_p1 | exact sm_get_p2e | refine sm_get_p1m (by decide) (by decide) ?_ | refine sm_get_p1n (by decide) rfl ?_ | refine sm_get_p2n (by decide) (by decide) rfl ?_)) ?_
  refine Bod.go dc_288_673 rfl ?_
  refine Bod.ifF dc_288_675 rfl (k1_ne_F (k_eq 0 0 rfl rfl (by omega))) ?_
  refine Bod.go dc_288_678 rfl ?_
  refine Bod.ifF dc_288_680 rfl (k1_eq_F (k_ne 1 0 rfl rfl (by omega) (by omega) (by omega))) ?_
  refine Bod.ic 5 (by decide) dc_288_683 ?_
  refine Bod.go dc_288_684 rfl ?_
  refine Bod.go dc_288_689 rfl ?_
  refine Bod.ifT dc_288_691 rfl (k1_eq_T (k_eq 0 0 rfl rfl (by omega))) ?_
  refine Bod.ildG dc_288_706 (by repeat (first | exact h7 | exact sm_get_p1 | exact sm_get_p2e | refine sm_get_p1m (by decide) (by decide) ?_ | refine sm_get_p1n (by decide) rfl ?_ | refine sm_get_p2n (by decide) (by decide) rfl ?_)) ?_
  refine Bod.ildG dc_288_708 (by repeat (first | exact h4 | exact sm_get_p1 | exact sm_get_p2e | refine sm_get_p1m (by decide) (by decide) ?_ | refine sm_get_p1n (by decide) rfl ?_ | refine sm_get_p2n (by decide) (by decide) rfl ?_)) ?_
  refine Bod.ildG dc_288_710 (by repeat (first | exact h5 | exact sm_get_p1 | exact sm_get_p2e | refine sm_get_p1m (by decide) (by decide) ?_ | refine sm_get_p1n (by decide) rfl ?_ | refine sm_get_p2n (by decide) (by decide) rfl ?_)) ?_
  refine Bod.virt (r := []) dc_288_712 kr_288_151 ⟨Or.inl rfl, ow_293, cl_14⟩ (by rw [np_293]; rfl) (by rw [np_293]; rfl) (ob_of (mk_61 _)) (Nat.le_of_ble_eq_true rfl) (tok_ev (t := t) (kd := (nI 5)) (vl := (nI 40)) (ln := (nI l)) (bl := (nI bl)) (by first | assumption | rfl | exact congrArg nI (by omega) | (simp (disch := omega) only [rI, rIe, rA, rIA, rLA, rJA, rVI, rQI, rVA, rQA, upd_at,  rAI, rLI, rJI, nI_add, pk_sub, kc_0, kc_1, kc_2, kc_3, kc_4, kc_5, reduceIte, Nat.reduceEqDiff, Nat.add_zero, rI_hold, rI_hold, rL_hold, ht]; done)) (by omega)) ?_
  show Bod _ _ _ _ [] _ _ _
  refine Bod.ildG dc_288_715 (by repeat (first | exact h6 | exact sm_get_p1 | exact sm_get_p2e | refine sm_get_p1m (by decide) (by decide) ?_ | refine sm_get_p1n (by decide) rfl ?_ | refine sm_get_p2n (by decide) (by decide) rfl ?_)) ?_
  refine Bod.go dc_288_717 rfl ?_
  refine Bod.ifT dc_288_719 rfl (k1_eq_T (k_eq 0 0 rfl rfl (by omega))) ?_
  refine Bod.ic 1 (by decide) dc_288_726 ?_
  refine Bod.addN (p + 1) (by omega) dc_288_727 ?_
  refine Bod.ist dc_288_728 (by rw [ml_288]; exact Nat.le_of_ble_eq_true rfl) ?_
  refine Bod.go dc_288_730 rfl ?_
  exact hB _ (by repeat (first | exact h0 | exact sm_get_p1 | exact sm_get_p2e | refine sm_get_p1m (by decide) (by decide) ?_ | refine sm_get_p1n (by decide) rfl ?_ | refine sm_get_p2n (by decide) (by decide) rfl ?_)) (by repeat (first | exact h1 | exact sm_get_p1 | exact sm_get_p2e | refine sm_get_p1m (by decide) (by decide) ?_ | refine sm_get_p1n (by decide) rfl ?_ | refine sm_get_p2n (by decide) (by decide) rfl ?_)) (by repeat (first | exact h3 | exact sm_get_p1 | exact sm_get_p2e | refine sm_get_p1m (by decide) (by decide) ?_ | refine sm_get_p1n (by decide) rfl ?_ | refine sm_get_p2n (by decide) (by decide) rfl ?_)) (by repeat (first | exact h4 | exact sm_get_p1 | exact sm_get_p2e | refine sm_get_p1m (by decide) (by decide) ?_ | refine sm_get_p1n (by decide) rfl ?_ | refine sm_get_p2n (by decide) (by decide) rfl ?_)) (by repeat (first | exact h5 | exact sm_get_p1 | exact sm_get_p2e | refine sm_get_p1m (by decide) (by decide) ?_ | refine sm_get_p1n (by decide) rfl ?_ | refine sm_get_p2n (by decide) (by decide) rfl ?_)) (by repeat (first | exact h6 | exact sm_get_p1 | exact sm_get_p2e | refine sm_get_p1m (by decide) (by decide) ?_ | refine sm_get_p1n (by decide) rfl ?_ | refine sm_get_p2n (by decide) (by decide) rfl ?_))
theorem rs_41_61 {d : Nat} {S Sf : cS} {lv : sm_L} {v : Option Value} {e : Nat} {l : Nat} {bl : Nat} {p : Nat} {x : Int32} {st : Nat} {t : Nat} (heM : e ≤ 3000) (hp : p ≤ e) (h0 : sm_get lv 0 = some (.ref 61)) (h1 : sm_get lv 1 = some (.ref 107)) (h3 : sm_get lv 3 = some (.int (nI e))) (h4 : sm_get lv 4 = some (.int (nI l))) (h5 : sm_get lv 5 = some (.int (nI bl))) (h6 : sm_get lv 6 = some (.int (nI p))) (h7 : sm_get lv 7 = some (.int (nI 41))) (h8 : sm_get lv 8 = some (.int (nI st))) (hd : sm_get lv 9 = some (.int (nI 61))) (ht : sI S 6112 = nI t) (htM : t < 6002) (hB : ∀ lv1 : sm_L, sm_get lv1 0 = some (.ref 61) → sm_get lv1 1 = some (.ref 107) → sm_get lv1 3 = some (.int (nI e)) → sm_get lv1 4 = some (.int (nI l)) → sm_get lv1 5 = some (.int (nI bl)) → sm_get lv1 6 = some (.int (nI (p + 1))) → Bod (d + 8) 288 3 lv1 [] (wI 6112 (nI (t + 1)) (wA 70 t ((nI bl)) (wA 69 t ((nI l)) (wA 68 t ((nI 41)) (wA 67 t ((nI 5)) S))))) v Sf) : Bod (d + 8) 288 476 lv [] S v Sf := by
  refine Bod.ildG dc_288_476 (by repeat (first | exact hd | exact sm_get_p1 | exact sm_get_p2e | refine sm_get_p1m (by decide) (by decide) ?_ | refine sm_get_p1n (by decide) rfl ?_ | refine sm_get_p2n (by decide) (by decide) rfl ?_)) ?_
  refine Bod.bip 61 (by decide) dc_288_478 ?_
  refine Bod.icF dc_288_480 rfl (k2_ne_F (k_eq 61 61 rfl rfl (by omega))) ?_
  refine Bod.ildG dc_288_483 (by repeat (first | exact h7 | exact sm_get_p1 | exact sm_get_p2e | refine sm_get_p1m (by decide) (by decide) ?_ | refine sm_get_p1n (by decide) rfl ?_ | refine sm_get_p2n (by decide) (by decide) rfl ?_)) ?_
  refine Bod.bip 61 (by decide) dc_288_485 ?_
  refine Bod.icF dc_288_487 rfl (k2_eq_F (k_ne 41 61 rfl rfl (by omega) (by omega) (by omega))) ?_
  refine Bod.ildG dc_288_490 (by repeat (first | exact h7 | exact sm_get_p1 | exact sm_get_p2e | refine sm_get_p1m (by decide) (by decide) ?_ | refine sm_get_p1n (by decide) rfl ?_ | refine sm_get_p2n (by decide) (by decide) rfl ?_)) ?_
  refine Bod.bip 33 (by decide) dc_288_492 ?_
  refine Bod.icF dc_288_494 rfl (k2_eq_F (k_ne 41 33 rfl rfl (by omega) (by omega) (by omega))) ?_
  refine Bod.ildG dc_288_497 (by repeat (first | exact h7 | exact sm_get_p1 | exact sm_get_p2e | refine sm_get_p1m (by decide) (by decide) ?_ | refine sm_get_p1n (by decide) rfl ?_ | refine sm_get_p2n (by decide) (by decide) rfl ?_)) ?_
  refine Bod.bip 60 (by decide) dc_288_499 ?_
  refine Bod.icF dc_288_501 rfl (k2_eq_F (k_ne 41 60 rfl rfl (by omega) (by omega) (by omega))) ?_
  refine Bod.ildG dc_288_504 (by repeat (first | exact h7 | exact sm_get_p1 | exact sm_get_p2e | refine sm_get_p1m (by decide) (by decide) ?_ | refine sm_get_p1n (by decide) rfl ?_ | refine sm_get_p2n (by decide) (by decide) rfl ?_)) ?_
  refine Bod.bip 62 (by decide) dc_288_506 ?_
  refine Bod.icF dc_288_508 rfl (k2_eq_F (k_ne 41 62 rfl rfl (by omega) (by omega) (by omega))) ?_
  refine Bod.ildG dc_288_511 (by repeat (first | exact h7 | exact sm_get_p1 | exact sm_get_p2e | refine sm_get_p1m (by decide) (by decide) ?_ | refine sm_get_p1n (by decide) rfl ?_ | refine sm_get_p2n (by decide) (by decide) rfl ?_)) ?_
  refine Bod.bip 43 (by decide) dc_288_513 ?_
  refine Bod.icF dc_288_515 rfl (k2_eq_F (k_ne 41 43 rfl rfl (by omega) (by omega) (by omega))) ?_
  refine Bod.ildG dc_288_518 (by repeat (first | exact h7 | exact sm_get_p1 | exact sm_get_p2e | refine sm_get_p1m (by decide) (by decide) ?_ | refine sm_get_p1n (by decide) rfl ?_ | refine sm_get_p2n (by decide) (by decide) rfl ?_)) ?_
  refine Bod.bip 45 (by decide) dc_288_520 ?_
  refine Bod.icF dc_288_522 rfl (k2_eq_F (k_ne 41 45 rfl rfl (by omega) (by omega) (by omega))) ?_
  refine Bod.ildG dc_288_525 (by repeat (first | exact h7 | exact sm_get_p1 | exact sm_get_p2e | refine sm_get_p1m (by decide) (by decide) ?_ | refine sm_get_p1n (by decide) rfl ?_ | refine sm_get_p2n (by decide) (by decide) rfl ?_)) ?_
  refine Bod.bip 42 (by decide) dc_288_527 ?_
  refine Bod.icF dc_288_529 rfl (k2_eq_F (k_ne 41 42 rfl rfl (by omega) (by omega) (by omega))) ?_
  refine Bod.ildG dc_288_532 (by repeat (first | exact h7 | exact sm_get_p1 | exact sm_get_p2e | refine sm_get_p1m (by decide) (by decide) ?_ | refine sm_get_p1n (by decide) rfl ?_ | refine sm_get_p2n (by decide) (by decide) rfl ?_)) ?_
  refine Bod.bip 47 (by decide) dc_288_534 ?_
  refine Bod.icT dc_288_536 rfl (k2_ne_T (k_ne 41 47 rfl rfl (by omega) (by omega) (by omega))) ?_
  refine Bod.ic 0 (by decide) dc_288_550 ?_
  refine Bod.ist dc_288_551 (by rw [ml_288]; exact Nat.le_of_ble_eq_true rfl) ?_
  refine Bod.ildG dc_288_553 (by repeat (first | exact h7 | exact sm_get_p1 | exact sm_get_p2e | refine sm_get_p1m (by decide) (by decide) ?_ | refine sm_get_p1n (by decide) rfl ?_ | refine sm_get_p2n (by decide) (by decide) rfl ?_)) ?_
  refine Bod.bip 40 (by decide) dc_288_555 ?_
  refine Bod.icF dc_288_557 rfl (k2_eq_F (k_ne 41 40 rfl rfl (by omega) (by omega) (by omega))) ?_
  refine Bod.ildG dc_288_560 (by repeat (first | exact h7 | exact sm_get_p1 | exact sm_get_p2e | refine sm_get_p1m (by decide) (by decide) ?_ | refine sm_get_p1n (by decide) rfl ?_ | refine sm_get_p2n (by decide) (by decide) rfl ?_)) ?_
  refine Bod.bip 41 (by decide) dc_288_562 ?_
  refine Bod.icT dc_288_564 rfl (k2_eq_T (k_eq 41 41 rfl rfl (by omega))) ?_
  refine Bod.ic 1 (by decide) dc_288_665 ?_
  refine Bod.go dc_288_666 rfl ?_
  refine Bod.ist dc_288_670 (by rw [ml_288]; exact Nat.le_of_ble_eq_true rfl) ?_
  refine Bod.aldnG dc_288_672 (by repeat (first | exact h0 | exact sm_get_p1 | exact sm_get_p2e | refine sm_get_p1m (by decide) (by decide) ?_ | refine sm_get_p1n (by decide) rfl ?_ | refine sm_get_p2n (by decide) (by decide) rfl ?_)) ?_
  refine Bod.go dc_288_673 rfl ?_
  refine Bod.ifF dc_288_675 rfl (k1_ne_F (k_eq 0 0 rfl rfl (by omega))) ?_
  refine Bod.go dc_288_678 rfl ?_
  refine Bod.ifF dc_288_680 rfl (k1_eq_F (k_ne 1 0 rfl rfl (by omega) (by omega) (by omega))) ?_
  refine Bod.ic 5 (by decide) dc_288_683 ?_
  refine Bod.go dc_288_684 rfl ?_
  refine Bod.go dc_288_689 rfl ?_
  refine Bod.ifT dc_288_691 rfl (k1_eq_T (k_eq 0 0 rfl rfl (by omega))) ?_
  refine Bod.ildG dc_288_706 (by repeat (first | exact h7 | exact sm_get_p1 | exact sm_get_p2e | refine sm_get_p1m (by decide) (by decide) ?_ | refine sm_get_p1n (by decide) rfl ?_ | refine sm_get_p2n (by decide) (by decide) rfl ?_)) ?_
  refine Bod.ildG dc_288_708 (by repeat (first | exact h4 | exact sm_get_p1 | exact sm_get_p2e | refine sm_get_p1m (by decide) (by decide) ?_ | refine sm_get_p1n (by decide) rfl ?_ | refine sm_get_p2n (by decide) (by decide) rfl ?_)) ?_
  refine Bod.ildG dc_288_710 (by repeat (first | exact h5 | exact sm_get_p1 | exact sm_get_p2e | refine sm_get_p1m (by decide) (by decide) ?_ | refine sm_get_p1n (by decide) rfl ?_ | refine sm_get_p2n (by decide) (by decide) rfl ?_)) ?_
  refine Bod.virt (r := []) dc_288_712 kr_288_151 ⟨Or.inl rfl, ow_293, cl_14⟩ (by rw [np_293]; rfl) (by rw [np_293]; rfl) (ob_of (mk_61 _)) (Nat.le_of_ble_eq_true rfl) (tok_ev (t := t) (kd := (nI 5)) (vl := (nI 41)) (ln := (nI l)) (bl := (nI bl)) (by first | assumption | rfl | exact congrArg nI (by omega) | (simp (disch := omega) only [rI, rIe, rA, rIA, rLA, rJA, rVI, rQI, rVA, rQA, upd_at,  rAI, rLI, rJI, nI_add, pk_sub, kc_0, kc_1, kc_2, kc_3, kc_4, kc_5, reduceIte, Nat.reduceEqDiff, Nat.add_zero, rI_hold, rI_hold, rL_hold, ht]; done)) (by omega)) ?_
  show Bod _ _ _ _ [] _ _ _
  refine Bod.ildG dc_288_715 (by repeat (first | exact h6 | exact sm_get_p1 | exact sm_get_p2e | refine sm_get_p1m (by decide) (by decide) ?_ | refine sm_get_p1n (by decide) rfl ?_ | refine sm_get_p2n (by decide) (by decide) rfl ?_)) ?_
  refine Bod.go dc_288_717 rfl ?_
  refine Bod.ifT dc_288_719 rfl (k1_eq_T (k_eq 0 0 rfl rfl (by omega))) ?_
  refine Bod.ic 1 (by decide) dc_288_726 ?_
  refine Bod.addN (p + 1) (by omega) dc_288_727 ?_
  refine Bod.ist dc_288_728 (by rw [ml_288]; exact Nat.le_of_ble_eq_true rfl) ?_
  refine Bod.go dc_288_730 rfl ?_
  exact hB _ (by repeat (first | exact h0 | exact sm_get_p1 | exact sm_get_p2e | refine sm_get_p1m (by decide) (by decide) ?_ | refine sm_get_p1n (by decide) rfl ?_ | refine sm_get_p2n (by decide) (by decide) rfl ?_)) (by repeat (first | exact h1 | exact sm_get_p1 | exact sm_get_p2e | refine sm_get_p1m (by decide) (by decide) ?_ | refine sm_get_p1n (by decide) rfl ?_ | refine sm_get_p2n (by decide) (by decide) rfl ?_)) (by repeat (first | exact h3 | exact sm_get_p1 | exact sm_get_p2e | refine sm_get_p1m (by decide) (by decide) ?_ | refine sm_get_p1n (by decide) rfl ?_ | refine sm_get_p2n (by decide) (by decide) rfl ?_)) (by repeat (first | exact h4 | exact sm_get_p1 | exact sm_get_p2e | refine sm_get_p1m (by decide) (by decide) ?_ | refine sm_get_p1n (by decide) rfl ?_ | refine sm_get_p2n (by decide) (by decide) rfl ?_)) (by repeat (first | exact h5 | exact sm_get_p1 | exact sm_get_p2e | refine sm_get_p1m (by decide) (by decide) ?_ | refine sm_get_p1n (by decide) rfl ?_ | refine sm_get_p2n (by decide) (by decide) rfl ?_)) (by repeat (first | exact h6 | exact sm_get_p1 | exact sm_get_p2e | refine sm_get_p1m (by decide) (by decide) ?_ | refine sm_get_p1n (by decide) rfl ?_ | refine sm_get_p2n (by decide) (by decide) rfl ?_))
theorem rs_41_n {d : Nat} {S Sf : cS} {lv : sm_L} {v : Option Value} {e : Nat} {l : Nat} {bl : Nat} {p : Nat} {x : Int32} {st : Nat} {dd : Int32} {t : Nat} (heM : e ≤ 3000) (hp : p ≤ e) (h0 : sm_get lv 0 = some (.ref 61)) (h1 : sm_get lv 1 = some (.ref 107)) (h3 : sm_get lv 3 = some (.int (nI e))) (h4 : sm_get lv 4 = some (.int (nI l))) (h5 : sm_get lv 5 = some (.int (nI bl))) (h6 : sm_get lv 6 = some (.int (nI p))) (h7 : sm_get lv 7 = some (.int (nI 41))) (h8 : sm_get lv 8 = some (.int (nI st))) (hd : sm_get lv 9 = some (.int dd)) (n61 : dd ≠ nI 61) (ht : sI S 6112 = nI t) (htM : t < 6002) (hB : ∀ lv1 : sm_L, sm_get lv1 0 = some (.ref 61) → sm_get lv1 1 = some (.ref 107) → sm_get lv1 3 = some (.int (nI e)) → sm_get lv1 4 = some (.int (nI l)) → sm_get lv1 5 = some (.int (nI bl)) → sm_get lv1 6 = some (.int (nI (p + 1))) → Bod (d + 8) 288 3 lv1 [] (wI 6112 (nI (t + 1)) (wA 70 t ((nI bl)) (wA 69 t ((nI l)) (wA 68 t ((nI 41)) (wA 67 t ((nI 5)) S))))) v Sf) : Bod (d + 8) 288 476 lv [] S v Sf := by
  refine Bod.ildG dc_288_476 (by repeat (first | exact hd | exact sm_get_p1 | exact sm_get_p2e | refine sm_get_p1m (by decide) (by decide) ?_ | refine sm_get_p1n (by decide) rfl ?_ | refine sm_get_p2n (by decide) (by decide) rfl ?_)) ?_
  refine Bod.bip 61 (by decide) dc_288_478 ?_
  refine Bod.icT dc_288_480 rfl (k2_ne_T n61) ?_
  refine Bod.ildG dc_288_532 (by repeat (first | exact h7 | exact sm_get_p1 | exact sm_get_p2e | refine sm_get_p1m (by decide) (by decide) ?_ | refine sm_get_p1n (by decide) rfl ?_ | refine sm_get_p2n (by decide) (by decide) rfl ?_)) ?_
  refine Bod.bip 47 (by decide) dc_288_534 ?_
  refine Bod.icT dc_288_536 rfl (k2_ne_T (k_ne 41 47 rfl rfl (by omega) (by omega) (by omega))) ?_
  refine Bod.ic 0 (by decide) dc_288_550 ?_
  refine Bod.ist dc_288_551 (by rw [ml_288]; exact Nat.le_of_ble_eq_true rfl) ?_
  refine Bod.ildG dc_288_553 (by repeat (first | exact h7 | exact sm_get_p1 | exact sm_get_p2e | refine sm_get_p1m (by decide) (by decide) ?_ | refine sm_get_p1n (by decide) rfl ?_ | refine sm_get_p2n (by decide) (by decide) rfl ?_)) ?_
  refine Bod.bip 40 (by decide) dc_288_555 ?_
  refine Bod.icF dc_288_557 rfl (k2_eq_F (k_ne 41 40 rfl rfl (by omega) (by omega) (by omega))) ?_
  refine Bod.ildG dc_288_560 (by repeat (first | exact h7 | exact sm_get_p1 | exact sm_get_p2e | refine sm_get_p1m (by decide) (by decide) ?_ | refine sm_get_p1n (by decide) rfl ?_ | refine sm_get_p2n (by decide) (by decide) rfl ?_)) ?_
  refine Bod.bip 41 (by decide) dc_288_562 ?_
  refine Bod.icT dc_288_564 rfl (k2_eq_T (k_eq 41 41 rfl rfl (by omega))) ?_
  refine Bod.ic 1 (by decide) dc_288_665 ?_
  refine Bod.go dc_288_666 rfl ?_
  refine Bod.ist dc_288_670 (by rw [ml_288]; exact Nat.le_of_ble_eq_true rfl) ?_
  refine Bod.aldnG dc_288_672 (by repeat (first | exact h0 | exact sm_get_p1 | exact sm_get_p2e | refine sm_get_p1m (by decide) (by decide) ?_ | refine sm_get_p1n (by decide) rfl ?_ | refine sm_get_p2n (by decide) (by decide) rfl ?_)) ?_
  refine Bod.go dc_288_673 rfl ?_
  refine Bod.ifF dc_288_675 rfl (k1_ne_F (k_eq 0 0 rfl rfl (by omega))) ?_
  refine Bod.go dc_288_678 rfl ?_
  refine Bod.ifF dc_288_680 rfl (k1_eq_F (k_ne 1 0 rfl rfl (by omega) (by omega) (by omega))) ?_
  refine Bod.ic 5 (by decide) dc_288_683 ?_
  refine Bod.go dc_288_684 rfl ?_
  refine Bod.go dc_288_689 rfl ?_
  refine Bod.ifT dc_288_691 rfl (k1_eq_T (k_eq 0 0 rfl rfl (by omega))) ?_
  refine Bod.ildG dc_288_706 (by repeat (first | exact h7 | exact sm_get_p1 | exact sm_get_p2e | refine sm_get_p1m (by decide) (by decide) ?_ | refine sm_get_p1n (by decide) rfl ?_ | refine sm_get_p2n (by decide) (by decide) rfl ?_)) ?_
  refine Bod.ildG dc_288_708 (by repeat (first | exact h4 | exact sm_get_p1 | exact sm_get_p2e | refine sm_get_p1m (by decide) (by decide) ?_ | refine sm_get_p1n (by decide) rfl ?_ | refine sm_get_p2n (by decide) (by decide) rfl ?_)) ?_
  refine Bod.ildG dc_288_710 (by repeat (first | exact h5 | exact sm_get_p1 | exact sm_get_p2e | refine sm_get_p1m (by decide) (by decide) ?_ | refine sm_get_p1n (by decide) rfl ?_ | refine sm_get_p2n (by decide) (by decide) rfl ?_)) ?_
  refine Bod.virt (r := []) dc_288_712 kr_288_151 ⟨Or.inl rfl, ow_293, cl_14⟩ (by rw [np_293]; rfl) (by rw [np_293]; rfl) (ob_of (mk_61 _)) (Nat.le_of_ble_eq_true rfl) (tok_ev (t := t) (kd := (nI 5)) (vl := (nI 41)) (ln := (nI l)) (bl := (nI bl)) (by first | assumption | rfl | exact congrArg nI (by omega) | (simp (disch := omega) only [rI, rIe, rA, rIA, rLA, rJA, rVI, rQI, rVA, rQA, upd_at,  rAI, rLI, rJI, nI_add, pk_sub, kc_0, kc_1, kc_2, kc_3, kc_4, kc_5, reduceIte, Nat.reduceEqDiff, Nat.add_zero, rI_hold, rI_hold, rL_hold, ht]; done)) (by omega)) ?_
  show Bod _ _ _ _ [] _ _ _
  refine Bod.ildG dc_288_715 (by repeat (first | exact h6 | exact sm_get_p1 | exact sm_get_p2e | refine sm_get_p1m (by decide) (by decide) ?_ | refine sm_get_p1n (by decide) rfl ?_ | refine sm_get_p2n (by decide) (by decide) rfl ?_)) ?_
  refine Bod.go dc_288_717 rfl ?_
  refine Bod.ifT dc_288_719 rfl (k1_eq_T (k_eq 0 0 rfl rfl (by omega))) ?_
  refine Bod.ic 1 (by decide) dc_288_726 ?_
  refine Bod.addN (p + 1) (by omega) dc_288_727 ?_
  refine Bod.ist dc_288_728 (by rw [ml_288]; exact Nat.le_of_ble_eq_true rfl) ?_
  refine Bod.go dc_288_730 rfl ?_
  exact hB _ (by repeat (first | exact h0 | exact sm_get_p1 | exact sm_get_p2e | refine sm_get_p1m (by decide) (by decide) ?_ | refine sm_get_p1n (by decide) rfl ?_ | refine sm_get_p2n (by decide) (by decide) rfl ?_)) (by repeat (first | exact h1 | exact sm_get_p1 | exact sm_get_p2e | refine sm_get_p1m (by decide) (by decide) ?_ | refine sm_get_p1n (by decide) rfl ?_ | refine sm_get_p2n (by decide) (by decide) rfl ?_)) (by repeat (first | exact h3 | exact sm_get_p1 | exact sm_get_p2e | refine sm_get_p1m (by decide) (by decide) ?_ | refine sm_get_p1n (by decide) rfl ?_ | refine sm_get_p2n (by decide) (by decide) rfl ?_)) (by repeat (first | exact h4 | exact sm_get_p1 | exact sm_get_p2e | refine sm_get_p1m (by decide) (by decide) ?_ | refine sm_get_p1n (by decide) rfl ?_ | refine sm_get_p2n (by decide) (by decide) rfl ?_)) (by repeat (first | exact h5 | exact sm_get_p1 | exact sm_get_p2e | refine sm_get_p1m (by decide) (by decide) ?_ | refine sm_get_p1n (by decide) rfl ?_ | refine sm_get_p2n (by decide) (by decide) rfl ?_)) (by repeat (first | exact h6 | exact sm_get_p1 | exact sm_get_p2e | refine sm_get_p1m (by decide) (by decide) ?_ | refine sm_get_p1n (by decide) rfl ?_ | refine sm_get_p2n (by decide) (by decide) rfl ?_))
theorem rs_42_61 {d : Nat} {S Sf : cS} {lv : sm_L} {v : Option Value} {e : Nat} {l : Nat} {bl : Nat} {p : Nat} {x : Int32} {st : Nat} {t : Nat} (heM : e ≤ 3000) (hp : p ≤ e) (h0 : sm_get lv 0 = some (.ref 61)) (h1 : sm_get lv 1 = some (.ref 107)) (h3 : sm_get lv 3 = some (.int (nI e))) (h4 : sm_get lv 4 = some (.int (nI l))) (h5 : sm_get lv 5 = some (.int (nI bl))) (h6 : sm_get lv 6 = some (.int (nI p))) (h7 : sm_get lv 7 = some (.int (nI 42))) (h8 : sm_get lv 8 = some (.int (nI st))) (hd : sm_get lv 9 = some (.int (nI 61))) (ht : sI S 6112 = nI t) (htM : t < 6002) (hB : ∀ lv1 : sm_L, sm_get lv1 0 = some (.ref 61) → sm_get lv1 1 = some (.ref 107) → sm_get lv1 3 = some (.int (nI e)) → sm_get lv1 4 = some (.int (nI l)) → sm_get lv1 5 = some (.int (nI bl)) → sm_get lv1 6 = some (.int (nI (p + 2))) → Bod (d + 8) 288 3 lv1 [] (wI 6112 (nI (t + 1)) (wA 70 t ((nI bl)) (wA 69 t ((nI l)) (wA 68 t ((nI 10813)) (wA 67 t ((nI 5)) S))))) v Sf) : Bod (d + 8) 288 476 lv [] S v Sf := by
  refine Bod.ildG dc_288_476 (by repeat (first | exact hd | exact sm_get_p1 | exact sm_get_p2e | refine sm_get_p1m (by decide) (by decide) ?_ | refine sm_get_p1n (by decide) rfl ?_ | refine sm_get_p2n (by decide) (by decide) rfl ?_)) ?_
  refine Bod.bip 61 (by decide) dc_288_478 ?_
  refine Bod.icF dc_288_480 rfl (k2_ne_F (k_eq 61 61 rfl rfl (by omega))) ?_
  refine Bod.ildG dc_288_483 (by repeat (first | exact h7 | exact sm_get_p1 | exact sm_get_p2e | refine sm_get_p1m (by decide) (by decide) ?_ | refine sm_get_p1n (by decide) rfl ?_ | refine sm_get_p2n (by decide) (by decide) rfl ?_)) ?_
  refine Bod.bip 61 (by decide) dc_288_485 ?_
  refine Bod.icF dc_288_487 rfl (k2_eq_F (k_ne 42 61 rfl rfl (by omega) (by omega) (by omega))) ?_
  refine Bod.ildG dc_288_490 (by repeat (first | exact h7 | exact sm_get_p1 | exact sm_get_p2e | refine sm_get_p1m (by decide) (by decide) ?_ | refine sm_get_p1n (by decide) rfl ?_ | refine sm_get_p2n (by decide) (by decide) rfl ?_)) ?_
  refine Bod.bip 33 (by decide) dc_288_492 ?_
  refine Bod.icF dc_288_494 rfl (k2_eq_F (k_ne 42 33 rfl rfl (by omega) (by omega) (by omega))) ?_
  refine Bod.ildG dc_288_497 (by repeat (first | exact h7 | exact sm_get_p1 | exact sm_get_p2e | refine sm_get_p1m (by decide) (by decide) ?_ | refine sm_get_p1n (by decide) rfl ?_ | refine sm_get_p2n (by decide) (by decide) rfl ?_)) ?_
  refine Bod.bip 60 (by decide) dc_288_499 ?_
  refine Bod.icF dc_288_501 rfl (k2_eq_F (k_ne 42 60 rfl rfl (by omega) (by omega) (by omega))) ?_
  refine Bod.ildG dc_288_504 (by repeat (first | exact h7 | exact sm_get_p1 | exact sm_get_p2e | refine sm_get_p1m (by decide) (by decide) ?_ | refine sm_get_p1n (by decide) rfl ?_ | refine sm_get_p2n (by decide) (by decide) rfl ?_)) ?_
  refine Bod.bip 62 (by decide) dc_288_506 ?_
  refine Bod.icF dc_288_508 rfl (k2_eq_F (k_ne 42 62 rfl rfl (by omega) (by omega) (by omega))) ?_
  refine Bod.ildG dc_288_511 (by repeat (first | exact h7 | exact sm_get_p1 | exact sm_get_p2e | refine sm_get_p1m (by decide) (by decide) ?_ | refine sm_get_p1n (by decide) rfl ?_ | refine sm_get_p2n (by decide) (by decide) rfl ?_)) ?_
  refine Bod.bip 43 (by decide) dc_288_513 ?_
  refine Bod.icF dc_288_515 rfl (k2_eq_F (k_ne 42 43 rfl rfl (by omega) (by omega) (by omega))) ?_
  refine Bod.ildG dc_288_518 (by repeat (first | exact h7 | exact sm_get_p1 | exact sm_get_p2e | refine sm_get_p1m (by decide) (by decide) ?_ | refine sm_get_p1n (by decide) rfl ?_ | refine sm_get_p2n (by decide) (by decide) rfl ?_)) ?_
  refine Bod.bip 45 (by decide) dc_288_520 ?_
  refine Bod.icF dc_288_522 rfl (k2_eq_F (k_ne 42 45 rfl rfl (by omega) (by omega) (by omega))) ?_
  refine Bod.ildG dc_288_525 (by repeat (first | exact h7 | exact sm_get_p1 | exact sm_get_p2e | refine sm_get_p1m (by decide) (by decide) ?_ | refine sm_get_p1n (by decide) rfl ?_ | refine sm_get_p2n (by decide) (by decide) rfl ?_)) ?_
  refine Bod.bip 42 (by decide) dc_288_527 ?_
  refine Bod.icT dc_288_529 rfl (k2_eq_T (k_eq 42 42 rfl rfl (by omega))) ?_
  refine Bod.ic 1 (by decide) dc_288_546 ?_
  refine Bod.go dc_288_547 rfl ?_
  refine Bod.ist dc_288_551 (by rw [ml_288]; exact Nat.le_of_ble_eq_true rfl) ?_
  refine Bod.ildG dc_288_553 (by repeat (first | exact h7 | exact sm_get_p1 | exact sm_get_p2e | refine sm_get_p1m (by decide) (by decide) ?_ | refine sm_get_p1n (by decide) rfl ?_ | refine sm_get_p2n (by decide) (by decide) rfl ?_)) ?_
  refine Bod.bip 40 (by decide) dc_288_555 ?_
  refine Bod.icF dc_288_557 rfl (k2_eq_F (k_ne 42 40 rfl rfl (by omega) (by omega) (by omega))) ?_
  refine Bod.ildG dc_288_560 (by repeat (first | exact h7 | exact sm_get_p1 | exact sm_get_p2e | refine sm_get_p1m (by decide) (by decide) ?_ | refine sm_get_p1n (by decide) rfl ?_ | refine sm_get_p2n (by decide) (by decide) rfl ?_)) ?_
  refine Bod.bip 41 (by decide) dc_288_562 ?_
  refine Bod.icF dc_288_564 rfl (k2_eq_F (k_ne 42 41 rfl rfl (by omega) (by omega) (by omega))) ?_
  refine Bod.ildG dc_288_567 (by repeat (first | exact h7 | exact sm_get_p1 | exact sm_get_p2e | refine sm_get_p1m (by decide) (by decide) ?_ | refine sm_get_p1n (by decide) rfl ?_ | refine sm_get_p2n (by decide) (by decide) rfl ?_)) ?_
  refine Bod.bip 91 (by decide) dc_288_569 ?_
  refine Bod.icF dc_288_571 rfl (k2_eq_F (k_ne 42 91 rfl rfl (by omega) (by omega) (by omega))) ?_
  refine Bod.ildG dc_288_574 (by repeat (first | exact h7 | exact sm_get_p1 | exact sm_get_p2e | refine sm_get_p1m (by decide) (by decide) ?_ | refine sm_get_p1n (by decide) rfl ?_ | refine sm_get_p2n (by decide) (by decide) rfl ?_)) ?_
  refine Bod.bip 93 (by decide) dc_288_576 ?_
  refine Bod.icF dc_288_578 rfl (k2_eq_F (k_ne 42 93 rfl rfl (by omega) (by omega) (by omega))) ?_
  refine Bod.ildG dc_288_581 (by repeat (first | exact h7 | exact sm_get_p1 | exact sm_get_p2e | refine sm_get_p1m (by decide) (by decide) ?_ | refine sm_get_p1n (by decide) rfl ?_ | refine sm_get_p2n (by decide) (by decide) rfl ?_)) ?_
  refine Bod.bip 123 (by decide) dc_288_583 ?_
  refine Bod.icF dc_288_585 rfl (k2_eq_F (k_ne 42 123 rfl rfl (by omega) (by omega) (by omega))) ?_
  refine Bod.ildG dc_288_588 (by repeat (first | exact h7 | exact sm_get_p1 | exact sm_get_p2e | refine sm_get_p1m (by decide) (by decide) ?_ | refine sm_get_p1n (by decide) rfl ?_ | refine sm_get_p2n (by decide) (by decide) rfl ?_)) ?_
  refine Bod.bip 125 (by decide) dc_288_590 ?_
  refine Bod.icF dc_288_592 rfl (k2_eq_F (k_ne 42 125 rfl rfl (by omega) (by omega) (by omega))) ?_
  refine Bod.ildG dc_288_595 (by repeat (first | exact h7 | exact sm_get_p1 | exact sm_get_p2e | refine sm_get_p1m (by decide) (by decide) ?_ | refine sm_get_p1n (by decide) rfl ?_ | refine sm_get_p2n (by decide) (by decide) rfl ?_)) ?_
  refine Bod.bip 44 (by decide) dc_288_597 ?_
  refine Bod.icF dc_288_599 rfl (k2_eq_F (k_ne 42 44 rfl rfl (by omega) (by omega) (by omega))) ?_
  refine Bod.ildG dc_288_602 (by repeat (first | exact h7 | exact sm_get_p1 | exact sm_get_p2e | refine sm_get_p1m (by decide) (by decide) ?_ | refine sm_get_p1n (by decide) rfl ?_ | refine sm_get_p2n (by decide) (by decide) rfl ?_)) ?_
  refine Bod.bip 58 (by decide) dc_288_604 ?_
  refine Bod.icF dc_288_606 rfl (k2_eq_F (k_ne 42 58 rfl rfl (by omega) (by omega) (by omega))) ?_
  refine Bod.ildG dc_288_609 (by repeat (first | exact h7 | exact sm_get_p1 | exact sm_get_p2e | refine sm_get_p1m (by decide) (by decide) ?_ | refine sm_get_p1n (by decide) rfl ?_ | refine sm_get_p2n (by decide) (by decide) rfl ?_)) ?_
  refine Bod.bip 46 (by decide) dc_288_611 ?_
  refine Bod.icF dc_288_613 rfl (k2_eq_F (k_ne 42 46 rfl rfl (by omega) (by omega) (by omega))) ?_
  refine Bod.ildG dc_288_616 (by repeat (first | exact h7 | exact sm_get_p1 | exact sm_get_p2e | refine sm_get_p1m (by decide) (by decide) ?_ | refine sm_get_p1n (by decide) rfl ?_ | refine sm_get_p2n (by decide) (by decide) rfl ?_)) ?_
  refine Bod.bip 43 (by decide) dc_288_618 ?_
  refine Bod.icF dc_288_620 rfl (k2_eq_F (k_ne 42 43 rfl rfl (by omega) (by omega) (by omega))) ?_
  refine Bod.ildG dc_288_623 (by repeat (first | exact h7 | exact sm_get_p1 | exact sm_get_p2e | refine sm_get_p1m (by decide) (by decide) ?_ | refine sm_get_p1n (by decide) rfl ?_ | refine sm_get_p2n (by decide) (by decide) rfl ?_)) ?_
  refine Bod.bip 45 (by decide) dc_288_625 ?_
  refine Bod.icF dc_288_627 rfl (k2_eq_F (k_ne 42 45 rfl rfl (by omega) (by omega) (by omega))) ?_
  refine Bod.ildG dc_288_630 (by repeat (first | exact h7 | exact sm_get_p1 | exact sm_get_p2e | refine sm_get_p1m (by decide) (by decide) ?_ | refine sm_get_p1n (by decide) rfl ?_ | refine sm_get_p2n (by decide) (by decide) rfl ?_)) ?_
  refine Bod.bip 42 (by decide) dc_288_632 ?_
  refine Bod.icT dc_288_634 rfl (k2_eq_T (k_eq 42 42 rfl rfl (by omega))) ?_
  refine Bod.ic 1 (by decide) dc_288_665 ?_
  refine Bod.go dc_288_666 rfl ?_
  refine Bod.ist dc_288_670 (by rw [ml_288]; exact Nat.le_of_ble_eq_true rfl) ?_
  refine Bod.aldnG dc_288_672 (by repeat (first | exact h0 | exact sm_get_p1 | exact sm_get_p2e | refine sm_get_p1m (by decide) (by decide) ?_ | refine sm_get_p1n (by decide) rfl ?_ | refine sm_get_p2n (by decide) (by decide) rfl ?_)) ?_
  refine Bod.go dc_288_673 rfl ?_
  refine Bod.ifT dc_288_675 rfl (k1_ne_T (k_ne 1 0 rfl rfl (by omega) (by omega) (by omega))) ?_
  refine Bod.ic 5 (by decide) dc_288_683 ?_
  refine Bod.go dc_288_684 rfl ?_
  refine Bod.go dc_288_689 rfl ?_
  refine Bod.ifF dc_288_691 rfl (k1_eq_F (k_ne 1 0 rfl rfl (by omega) (by omega) (by omega))) ?_
  refine Bod.sip 256 (by decide) dc_288_694 ?_
  refine Bod.ildG dc_288_697 (by repeat (first | exact h7 | exact sm_get_p1 | exact sm_get_p2e | refine sm_get_p1m (by decide) (by decide) ?_ | refine sm_get_p1n (by decide) rfl ?_ | refine sm_get_p2n (by decide) (by decide) rfl ?_)) ?_
  refine Bod.mulN 10752 (by omega) dc_288_699 ?_
  refine Bod.ildG dc_288_700 (by repeat (first | exact hd | exact sm_get_p1 | exact sm_get_p2e | refine sm_get_p1m (by decide) (by decide) ?_ | refine sm_get_p1n (by decide) rfl ?_ | refine sm_get_p2n (by decide) (by decide) rfl ?_)) ?_
  refine Bod.addN 10813 (by omega) dc_288_702 ?_
  refine Bod.go dc_288_703 rfl ?_
  refine Bod.ildG dc_288_708 (by repeat (first | exact h4 | exact sm_get_p1 | exact sm_get_p2e | refine sm_get_p1m (by decide) (by decide) ?_ | refine sm_get_p1n (by decide) rfl ?_ | refine sm_get_p2n (by decide) (by decide) rfl ?_)) ?_
  refine Bod.ildG dc_288_710 (by repeat (first | exact h5 | exact sm_get_p1 | exact sm_get_p2e | refine sm_get_p1m (by decide) (by decide) ?_ | refine sm_get_p1n (by decide) rfl ?_ | refine sm_get_p2n (by decide) (by decide) rfl ?_)) ?_
  refine Bod.virt (r := []) dc_288_712 kr_288_151 ⟨Or.inl rfl, ow_293, cl_14⟩ (by rw [np_293]; rfl) (by rw [np_293]; rfl) (ob_of (mk_61 _)) (Nat.le_of_ble_eq_true rfl) (tok_ev (t := t) (kd := (nI 5)) (vl := (nI 10813)) (ln := (nI l)) (bl := (nI bl)) (by first | assumption | rfl | exact congrArg nI (by omega) | (simp (disch := omega) only [rI, rIe, rA, rIA, rLA, rJA, rVI, rQI, rVA, rQA, upd_at,  rAI, rLI, rJI, nI_add, pk_sub, kc_0, kc_1, kc_2, kc_3, kc_4, kc_5, reduceIte, Nat.reduceEqDiff, Nat.add_zero, rI_hold, rI_hold, rL_hold, ht]; done)) (by omega)) ?_
  show Bod _ _ _ _ [] _ _ _
  refine Bod.ildG dc_288_715 (by repeat (first | exact h6 | exact sm_get_p1 | exact sm_get_p2e | refine sm_get_p1m (by decide) (by decide) ?_ | refine sm_get_p1n (by decide) rfl ?_ | refine sm_get_p2n (by decide) (by decide) rfl ?_)) ?_
  refine Bod.go dc_288_717 rfl ?_
  refine Bod.ifF dc_288_719 rfl (k1_eq_F (k_ne 1 0 rfl rfl (by omega) (by omega) (by omega))) ?_
  refine Bod.ic 2 (by decide) dc_288_722 ?_
  refine Bod.go dc_288_723 rfl ?_
  refine Bod.addN (p + 2) (by omega) dc_288_727 ?_
  refine Bod.ist dc_288_728 (by rw [ml_288]; exact Nat.le_of_ble_eq_true rfl) ?_
  refine Bod.go dc_288_730 rfl ?_
  exact hB _ (by repeat (first | exact h0 | exact sm_get_p1 | exact sm_get_p2e | refine sm_get_p1m (by decide) (by decide) ?_ | refine sm_get_p1n (by decide) rfl ?_ | refine sm_get_p2n (by decide) (by decide) rfl ?_)) (by repeat (first | exact h1 | exact sm_get_p1 | exact sm_get_p2e | refine sm_get_p1m (by decide) (by decide) ?_ | refine sm_get_p1n (by decide) rfl ?_ | refine sm_get_p2n (by decide) (by decide) rfl ?_)) (by repeat (first | exact h3 | exact sm_get_p1 | exact sm_get_p2e | refine sm_get_p1m (by decide) (by decide) ?_ | refine sm_get_p1n (by decide) rfl ?_ | refine sm_get_p2n (by decide) (by decide) rfl ?_)) (by repeat (first | exact h4 | exact sm_get_p1 | exact sm_get_p2e | refine sm_get_p1m (by decide) (by decide) ?_ | refine sm_get_p1n (by decide) rfl ?_ | refine sm_get_p2n (by decide) (by decide) rfl ?_)) (by repeat (first | exact h5 | exact sm_get_p1 | exact sm_get_p2e | refine sm_get_p1m (by decide) (by decide) ?_ | refine sm_get_p1n (by decide) rfl ?_ | refine sm_get_p2n (by decide) (by decide) rfl ?_)) (by repeat (first | exact h6 | exact sm_get_p1 | exact sm_get_p2e | refine sm_get_p1m (by decide) (by decide) ?_ | refine sm_get_p1n (by decide) rfl ?_ | refine sm_get_p2n (by decide) (by decide) rfl ?_))
theorem rs_42_n {d : Nat} {S Sf : cS} {lv : sm_L} {v : Option Value} {e : Nat} {l : Nat} {bl : Nat} {p : Nat} {x : Int32} {st : Nat} {dd : Int32} {t : Nat} (heM : e ≤ 3000) (hp : p ≤ e) (h0 : sm_get lv 0 = some (.ref 61)) (h1 : sm_get lv 1 = some (.ref 107)) (h3 : sm_get lv 3 = some (.int (nI e))) (h4 : sm_get lv 4 = some (.int (nI l))) (h5 : sm_get lv 5 = some (.int (nI bl))) (h6 : sm_get lv 6 = some (.int (nI p))) (h7 : sm_get lv 7 = some (.int (nI 42))) (h8 : sm_get lv 8 = some (.int (nI st))) (hd : sm_get lv 9 = some (.int dd)) (n61 : dd ≠ nI 61) (ht : sI S 6112 = nI t) (htM : t < 6002) (hB : ∀ lv1 : sm_L, sm_get lv1 0 = some (.ref 61) → sm_get lv1 1 = some (.ref 107) → sm_get lv1 3 = some (.int (nI e)) → sm_get lv1 4 = some (.int (nI l)) → sm_get lv1 5 = some (.int (nI bl)) → sm_get lv1 6 = some (.int (nI (p + 1))) → Bod (d + 8) 288 3 lv1 [] (wI 6112 (nI (t + 1)) (wA 70 t ((nI bl)) (wA 69 t ((nI l)) (wA 68 t ((nI 42)) (wA 67 t ((nI 5)) S))))) v Sf) : Bod (d + 8) 288 476 lv [] S v Sf := by
  refine Bod.ildG dc_288_476 (by repeat (first | exact hd | exact sm_get_p1 | exact sm_get_p2e | refine sm_get_p1m (by decide) (by decide) ?_ | refine sm_get_p1n (by decide) rfl ?_ | refine sm_get_p2n (by decide) (by decide) rfl ?_)) ?_
  refine Bod.bip 61 (by decide) dc_288_478 ?_
  refine Bod.icT dc_288_480 rfl (k2_ne_T n61) ?_
  refine Bod.ildG dc_288_532 (by repeat (first | exact h7 | exact sm_get_p1 | exact sm_get_p2e | refine sm_get_p1m (by decide) (by decide) ?_ | refine sm_get_p1n (by decide) rfl ?_ | refine sm_get_p2n (by decide) (by decide) rfl ?_)) ?_
  refine Bod.bip 47 (by decide) dc_288_534 ?_
  refine Bod.icT dc_288_536 rfl (k2_ne_T (k_ne 42 47 rfl rfl (by omega) (by omega) (by omega))) ?_
  refine Bod.ic 0 (by decide) dc_288_550 ?_
  refine Bod.ist dc_288_551 (by rw [ml_288]; exact Nat.le_of_ble_eq_true rfl) ?_
  refine Bod.ildG dc_288_553 (by repeat (first | exact h7 | exact sm_get_p1 | exact sm_get_p2e | refine sm_get_p1m (by decide) (by decide) ?_ | refine sm_get_p1n (by decide) rfl ?_ | refine sm_get_p2n (by decide) (by decide) rfl ?_)) ?_
  refine Bod.bip 40 (by decide) dc_288_555 ?_
  refine Bod.icF dc_288_557 rfl (k2_eq_F (k_ne 42 40 rfl rfl (by omega) (by omega) (by omega))) ?_
  refine Bod.ildG dc_288_560 (by repeat (first | exact h7 | exact sm_get_p1 | exact sm_get_p2e | refine sm_get_p1m (by decide) (by decide) ?_ | refine sm_get_p1n (by decide) rfl ?_ | refine sm_get_p2n (by decide) (by decide) rfl ?_)) ?_
  refine Bod.bip 41 (by decide) dc_288_562 ?_
  refine Bod.icF dc_288_564 rfl (k2_eq_F (k_ne 42 41 rfl rfl (by omega) (by omega) (by omega))) ?_
  refine Bod.ildG dc_288_567 (by repeat (first | exact h7 | exact sm_get_p1 | exact sm_get_p2e | refine sm_get_p1m (by decide) (by decide) ?_ | refine sm_get_p1n (by decide) rfl ?_ | refine sm_get_p2n (by decide) (by decide) rfl ?_)) ?_
  refine Bod.bip 91 (by decide) dc_288_569 ?_
  refine Bod.icF dc_288_571 rfl (k2_eq_F (k_ne 42 91 rfl rfl (by omega) (by omega) (by omega))) ?_
  refine Bod.ildG dc_288_574 (by repeat (first | exact h7 | exact sm_get_p1 | exact sm_get_p2e | refine sm_get_p1m (by decide) (by decide) ?_ | refine sm_get_p1n (by decide) rfl ?_ | refine sm_get_p2n (by decide) (by decide) rfl ?_)) ?_
  refine Bod.bip 93 (by decide) dc_288_576 ?_
  refine Bod.icF dc_288_578 rfl (k2_eq_F (k_ne 42 93 rfl rfl (by omega) (by omega) (by omega))) ?_
  refine Bod.ildG dc_288_581 (by repeat (first | exact h7 | exact sm_get_p1 | exact sm_get_p2e | refine sm_get_p1m (by decide) (by decide) ?_ | refine sm_get_p1n (by decide) rfl ?_ | refine sm_get_p2n (by decide) (by decide) rfl ?_)) ?_
  refine Bod.bip 123 (by decide) dc_288_583 ?_
  refine Bod.icF dc_288_585 rfl (k2_eq_F (k_ne 42 123 rfl rfl (by omega) (by omega) (by omega))) ?_
  refine Bod.ildG dc_288_588 (by repeat (first | exact h7 | exact sm_get_p1 | exact sm_get_p2e | refine sm_get_p1m (by decide) (by decide) ?_ | refine sm_get_p1n (by decide) rfl ?_ | refine sm_get_p2n (by decide) (by decide) rfl ?_)) ?_
  refine Bod.bip 125 (by decide) dc_288_590 ?_
  refine Bod.icF dc_288_592 rfl (k2_eq_F (k_ne 42 125 rfl rfl (by omega) (by omega) (by omega))) ?_
  refine Bod.ildG dc_288_595 (by repeat (first | exact h7 | exact sm_get_p1 | exact sm_get_p2e | refine sm_get_p1m (by decide) (by decide) ?_ | refine sm_get_p1n (by decide) rfl ?_ | refine sm_get_p2n (by decide) (by decide) rfl ?_)) ?_
  refine Bod.bip 44 (by decide) dc_288_597 ?_
  refine Bod.icF dc_288_599 rfl (k2_eq_F (k_ne 42 44 rfl rfl (by omega) (by omega) (by omega))) ?_
  refine Bod.ildG dc_288_602 (by repeat (first | exact h7 | exact sm_get_p1 | exact sm_get_p2e | refine sm_get_p1m (by decide) (by decide) ?_ | refine sm_get_p1n (by decide) rfl ?_ | refine sm_get_p2n (by decide) (by decide) rfl ?_)) ?_
  refine Bod.bip 58 (by decide) dc_288_604 ?_
  refine Bod.icF dc_288_606 rfl (k2_eq_F (k_ne 42 58 rfl rfl (by omega) (by omega) (by omega))) ?_
  refine Bod.ildG dc_288_609 (by repeat (first | exact h7 | exact sm_get_p1 | exact sm_get_p2e | refine sm_get_p1m (by decide) (by decide) ?_ | refine sm_get_p1n (by decide) rfl ?_ | refine sm_get_p2n (by decide) (by decide) rfl ?_)) ?_
  refine Bod.bip 46 (by decide) dc_288_611 ?_
  refine Bod.icF dc_288_613 rfl (k2_eq_F (k_ne 42 46 rfl rfl (by omega) (by omega) (by omega))) ?_
  refine Bod.ildG dc_288_616 (by repeat (first | exact h7 | exact sm_get_p1 | exact sm_get_p2e | refine sm_get_p1m (by decide) (by decide) ?_ | refine sm_get_p1n (by decide) rfl ?_ | refine sm_get_p2n (by decide) (by decide) rfl ?_)) ?_
  refine Bod.bip 43 (by decide) dc_288_618 ?_
  refine Bod.icF dc_288_620 rfl (k2_eq_F (k_ne 42 43 rfl rfl (by omega) (by omega) (by omega))) ?_
  refine Bod.ildG dc_288_623 (by repeat (first | exact h7 | exact sm_get_p1 | exact sm_get_p2e | refine sm_get_p1m (by decide) (by decide) ?_ | refine sm_get_p1n (by decide) rfl ?_ | refine sm_get_p2n (by decide) (by decide) rfl ?_)) ?_
  refine Bod.bip 45 (by decide) dc_288_625 ?_
  refine Bod.icF dc_288_627 rfl (k2_eq_F (k_ne 42 45 rfl rfl (by omega) (by omega) (by omega))) ?_
  refine Bod.ildG dc_288_630 (by repeat (first | exact h7 | exact sm_get_p1 | exact sm_get_p2e | refine sm_get_p1m (by decide) (by decide) ?_ | refine sm_get_p1n (by decide) rfl ?_ | refine sm_get_p2n (by decide) (by decide) rfl ?_)) ?_
  refine Bod.bip 42 (by decide) dc_288_632 ?_
  refine Bod.icT dc_288_634 rfl (k2_eq_T (k_eq 42 42 rfl rfl (by omega))) ?_
  refine Bod.ic 1 (by decide) dc_288_665 ?_
  refine Bod.go dc_288_666 rfl ?_
  refine Bod.ist dc_288_670 (by rw [ml_288]; exact Nat.le_of_ble_eq_true rfl) ?_
  refine Bod.aldnG dc_288_672 (by repeat (first | exact h0 | exact sm_get_p1 | exact sm_get_p2e | refine sm_get_p1m (by decide) (by decide) ?_ | refine sm_get_p1n (by decide) rfl ?_ | refine sm_get_p2n (by decide) (by decide) rfl ?_)) ?_
  refine Bod.go dc_288_673 rfl ?_
  refine Bod.ifF dc_288_675 rfl (k1_ne_F (k_eq 0 0 rfl rfl (by omega))) ?_
  refine Bod.go dc_288_678 rfl ?_
  refine Bod.ifF dc_288_680 rfl (k1_eq_F (k_ne 1 0 rfl rfl (by omega) (by omega) (by omega))) ?_
  refine Bod.ic 5 (by decide) dc_288_683 ?_
  refine Bod.go dc_288_684 rfl ?_
  refine Bod.go dc_288_689 rfl ?_
  refine Bod.ifT dc_288_691 rfl (k1_eq_T (k_eq 0 0 rfl rfl (by omega))) ?_
  refine Bod.ildG dc_288_706 (by repeat (first | exact h7 | exact sm_get_p1 | exact sm_get_p2e | refine sm_get_p1m (by decide) (by decide) ?_ | refine sm_get_p1n (by decide) rfl ?_ | refine sm_get_p2n (by decide) (by decide) rfl ?_)) ?_
  refine Bod.ildG dc_288_708 (by repeat (first | exact h4 | exact sm_get_p1 | exact sm_get_p2e | refine sm_get_p1m (by decide) (by decide) ?_ | refine sm_get_p1n (by decide) rfl ?_ | refine sm_get_p2n (by decide) (by decide) rfl ?_)) ?_
  refine Bod.ildG dc_288_710 (by repeat (first | exact h5 | exact sm_get_p1 | exact sm_get_p2e | refine sm_get_p1m (by decide) (by decide) ?_ | refine sm_get_p1n (by decide) rfl ?_ | refine sm_get_p2n (by decide) (by decide) rfl ?_)) ?_
  refine Bod.virt (r := []) dc_288_712 kr_288_151 ⟨Or.inl rfl, ow_293, cl_14⟩ (by rw [np_293]; rfl) (by rw [np_293]; rfl) (ob_of (mk_61 _)) (Nat.le_of_ble_eq_true rfl) (tok_ev (t := t) (kd := (nI 5)) (vl := (nI 42)) (ln := (nI l)) (bl := (nI bl)) (by first | assumption | rfl | exact congrArg nI (by omega) | (simp (disch := omega) only [rI, rIe, rA, rIA, rLA, rJA, rVI, rQI, rVA, rQA, upd_at,  rAI, rLI, rJI, nI_add, pk_sub, kc_0, kc_1, kc_2, kc_3, kc_4, kc_5, reduceIte, Nat.reduceEqDiff, Nat.add_zero, rI_hold, rI_hold, rL_hold, ht]; done)) (by omega)) ?_
  show Bod _ _ _ _ [] _ _ _
  refine Bod.ildG dc_288_715 (by repeat (first | exact h6 | exact sm_get_p1 | exact sm_get_p2e | refine sm_get_p1m (by decide) (by decide) ?_ | refine sm_get_p1n (by decide) rfl ?_ | refine sm_get_p2n (by decide) (by decide) rfl ?_)) ?_
  refine Bod.go dc_288_717 rfl ?_
  refine Bod.ifT dc_288_719 rfl (k1_eq_T (k_eq 0 0 rfl rfl (by omega))) ?_
  refine Bod.ic 1 (by decide) dc_288_726 ?_
  refine Bod.addN (p + 1) (by omega) dc_288_727 ?_
  refine Bod.ist dc_288_728 (by rw [ml_288]; exact Nat.le_of_ble_eq_true rfl) ?_
  refine Bod.go dc_288_730 rfl ?_
  exact hB _ (by repeat (first | exact h0 | exact sm_get_p1 | exact sm_get_p2e | refine sm_get_p1m (by decide) (by decide) ?_ | refine sm_get_p1n (by decide) rfl ?_ | refine sm_get_p2n (by decide) (by decide) rfl ?_)) (by repeat (first | exact h1 | exact sm_get_p1 | exact sm_get_p2e | refine sm_get_p1m (by decide) (by decide) ?_ | refine sm_get_p1n (by decide) rfl ?_ | refine sm_get_p2n (by decide) (by decide) rfl ?_)) (by repeat (first | exact h3 | exact sm_get_p1 | exact sm_get_p2e | refine sm_get_p1m (by decide) (by decide) ?_ | refine sm_get_p1n (by decide) rfl ?_ | refine sm_get_p2n (by decide) (by decide) rfl ?_)) (by repeat (first | exact h4 | exact sm_get_p1 | exact sm_get_p2e | refine sm_get_p1m (by decide) (by decide) ?_ | refine sm_get_p1n (by decide) rfl ?_ | refine sm_get_p2n (by decide) (by decide) rfl ?_)) (by repeat (first | exact h5 | exact sm_get_p1 | exact sm_get_p2e | refine sm_get_p1m (by decide) (by decide) ?_ | refine sm_get_p1n (by decide) rfl ?_ | refine sm_get_p2n (by decide) (by decide) rfl ?_)) (by repeat (first | exact h6 | exact sm_get_p1 | exact sm_get_p2e | refine sm_get_p1m (by decide) (by decide) ?_ | refine sm_get_p1n (by decide) rfl ?_ | refine sm_get_p2n (by decide) (by decide) rfl ?_))
theorem rs_43_61 {d : Nat} {S Sf : cS} {lv : sm_L} {v : Option Value} {e : Nat} {l : Nat} {bl : Nat} {p : Nat} {x : Int32} {st : Nat} {t : Nat} (heM : e ≤ 3000) (hp : p ≤ e) (h0 : sm_get lv 0 = some (.ref 61)) (h1 : sm_get lv 1 = some (.ref 107)) (h3 : sm_get lv 3 = some (.int (nI e))) (h4 : sm_get lv 4 = some (.int (nI l))) (h5 : sm_get lv 5 = some (.int (nI bl))) (h6 : sm_get lv 6 = some (.int (nI p))) (h7 : sm_get lv 7 = some (.int (nI 43))) (h8 : sm_get lv 8 = some (.int (nI st))) (hd : sm_get lv 9 = some (.int (nI 61))) (ht : sI S 6112 = nI t) (htM : t < 6002) (hB : ∀ lv1 : sm_L, sm_get lv1 0 = some (.ref 61) → sm_get lv1 1 = some (.ref 107) → sm_get lv1 3 = some (.int (nI e)) → sm_get lv1 4 = some (.int (nI l)) → sm_get lv1 5 = some (.int (nI bl)) → sm_get lv1 6 = some (.int (nI (p + 2))) → Bod (d + 8) 288 3 lv1 [] (wI 6112 (nI (t + 1)) (wA 70 t ((nI bl)) (wA 69 t ((nI l)) (wA 68 t ((nI 11069)) (wA 67 t ((nI 5)) S))))) v Sf) : Bod (d + 8) 288 476 lv [] S v Sf := by
  refine Bod.ildG dc_288_476 (by repeat (first | exact hd | exact sm_get_p1 | exact sm_get_p2e | refine sm_get_p1m (by decide) (by decide) ?_ | refine sm_get_p1n (by decide) rfl ?_ | refine sm_get_p2n (by decide) (by decide) rfl ?_)) ?_
  refine Bod.bip 61 (by decide) dc_288_478 ?_
  refine Bod.icF dc_288_480 rfl (k2_ne_F (k_eq 61 61 rfl rfl (by omega))) ?_
  refine Bod.ildG dc_288_483 (by repeat (first | exact h7 | exact sm_get_p1 | exact sm_get_p2e | refine sm_get_p1m (by decide) (by decide) ?_ | refine sm_get_p1n (by decide) rfl ?_ | refine sm_get_p2n (by decide) (by decide) rfl ?_)) ?_
  refine Bod.bip 61 (by decide) dc_288_485 ?_
  refine Bod.icF dc_288_487 rfl (k2_eq_F (k_ne 43 61 rfl rfl (by omega) (by omega) (by omega))) ?_
  refine Bod.ildG dc_288_490 (by repeat (first | exact h7 | exact sm_get_p1 | exact sm_get_p2e | refine sm_get_p1m (by decide) (by decide) ?_ | refine sm_get_p1n (by decide) rfl ?_ | refine sm_get_p2n (by decide) (by decide) rfl ?_)) ?_
  refine Bod.bip 33 (by decide) dc_288_492 ?_
  refine Bod.icF dc_288_494 rfl (k2_eq_F (k_ne 43 33 rfl rfl (by omega) (by omega) (by omega))) ?_
  refine Bod.ildG dc_288_497 (by repeat (first | exact h7 | exact sm_get_p1 | exact sm_get_p2e | refine sm_get_p1m (by decide) (by decide) ?_ | refine sm_get_p1n (by decide) rfl ?_ | refine sm_get_p2n (by decide) (by decide) rfl ?_)) ?_
  refine Bod.bip 60 (by decide) dc_288_499 ?_
  refine Bod.icF dc_288_501 rfl (k2_eq_F (k_ne 43 60 rfl rfl (by omega) (by omega) (by omega))) ?_
  refine Bod.ildG dc_288_504 (by repeat (first | exact h7 | exact sm_get_p1 | exact sm_get_p2e | refine sm_get_p1m (by decide) (by decide) ?_ | refine sm_get_p1n (by decide) rfl ?_ | refine sm_get_p2n (by decide) (by decide) rfl ?_)) ?_
  refine Bod.bip 62 (by decide) dc_288_506 ?_
  refine Bod.icF dc_288_508 rfl (k2_eq_F (k_ne 43 62 rfl rfl (by omega) (by omega) (by omega))) ?_
  refine Bod.ildG dc_288_511 (by repeat (first | exact h7 | exact sm_get_p1 | exact sm_get_p2e | refine sm_get_p1m (by decide) (by decide) ?_ | refine sm_get_p1n (by decide) rfl ?_ | refine sm_get_p2n (by decide) (by decide) rfl ?_)) ?_
  refine Bod.bip 43 (by decide) dc_288_513 ?_
  refine Bod.icT dc_288_515 rfl (k2_eq_T (k_eq 43 43 rfl rfl (by omega))) ?_
  refine Bod.ic 1 (by decide) dc_288_546 ?_
  refine Bod.go dc_288_547 rfl ?_
  refine Bod.ist dc_288_551 (by rw [ml_288]; exact Nat.le_of_ble_eq_true rfl) ?_
  refine Bod.ildG dc_288_553 (by repeat (first | exact h7 | exact sm_get_p1 | exact sm_get_p2e | refine sm_get_p1m (by decide) (by decide) ?_ | refine sm_get_p1n (by decide) rfl ?_ | refine sm_get_p2n (by decide) (by decide) rfl ?_)) ?_
  refine Bod.bip 40 (by decide) dc_288_555 ?_
  refine Bod.icF dc_288_557 rfl (k2_eq_F (k_ne 43 40 rfl rfl (by omega) (by omega) (by omega))) ?_
  refine Bod.ildG dc_288_560 (by repeat (first | exact h7 | exact sm_get_p1 | exact sm_get_p2e | refine sm_get_p1m (by decide) (by decide) ?_ | refine sm_get_p1n (by decide) rfl ?_ | refine sm_get_p2n (by decide) (by decide) rfl ?_)) ?_
  refine Bod.bip 41 (by decide) dc_288_562 ?_
  refine Bod.icF dc_288_564 rfl (k2_eq_F (k_ne 43 41 rfl rfl (by omega) (by omega) (by omega))) ?_
  refine Bod.ildG dc_288_567 (by repeat (first | exact h7 | exact sm_get_p1 | exact sm_get_p2e | refine sm_get_p1m (by decide) (by decide) ?_ | refine sm_get_p1n (by decide) rfl ?_ | refine sm_get_p2n (by decide) (by decide) rfl ?_)) ?_
  refine Bod.bip 91 (by decide) dc_288_569 ?_
  refine Bod.icF dc_288_571 rfl (k2_eq_F (k_ne 43 91 rfl rfl (by omega) (by omega) (by omega))) ?_
  refine Bod.ildG dc_288_574 (by repeat (first | exact h7 | exact sm_get_p1 | exact sm_get_p2e | refine sm_get_p1m (by decide) (by decide) ?_ | refine sm_get_p1n (by decide) rfl ?_ | refine sm_get_p2n (by decide) (by decide) rfl ?_)) ?_
  refine Bod.bip 93 (by decide) dc_288_576 ?_
  refine Bod.icF dc_288_578 rfl (k2_eq_F (k_ne 43 93 rfl rfl (by omega) (by omega) (by omega))) ?_
  refine Bod.ildG dc_288_581 (by repeat (first | exact h7 | exact sm_get_p1 | exact sm_get_p2e | refine sm_get_p1m (by decide) (by decide) ?_ | refine sm_get_p1n (by decide) rfl ?_ | refine sm_get_p2n (by decide) (by decide) rfl ?_)) ?_
  refine Bod.bip 123 (by decide) dc_288_583 ?_
  refine Bod.icF dc_288_585 rfl (k2_eq_F (k_ne 43 123 rfl rfl (by omega) (by omega) (by omega))) ?_
  refine Bod.ildG dc_288_588 (by repeat (first | exact h7 | exact sm_get_p1 | exact sm_get_p2e | refine sm_get_p1m (by decide) (by decide) ?_ | refine sm_get_p1n (by decide) rfl ?_ | refine sm_get_p2n (by decide) (by decide) rfl ?_)) ?_
  refine Bod.bip 125 (by decide) dc_288_590 ?_
  refine Bod.icF dc_288_592 rfl (k2_eq_F (k_ne 43 125 rfl rfl (by omega) (by omega) (by omega))) ?_
  refine Bod.ildG dc_288_595 (by repeat (first | exact h7 | exact sm_get_p1 | exact sm_get_p2e | refine sm_get_p1m (by decide) (by decide) ?_ | refine sm_get_p1n (by decide) rfl ?_ | refine sm_get_p2n (by decide) (by decide) rfl ?_)) ?_
  refine Bod.bip 44 (by decide) dc_288_597 ?_
  refine Bod.icF dc_288_599 rfl (k2_eq_F (k_ne 43 44 rfl rfl (by omega) (by omega) (by omega))) ?_
  refine Bod.ildG dc_288_602 (by repeat (first | exact h7 | exact sm_get_p1 | exact sm_get_p2e | refine sm_get_p1m (by decide) (by decide) ?_ | refine sm_get_p1n (by decide) rfl ?_ | refine sm_get_p2n (by decide) (by decide) rfl ?_)) ?_
  refine Bod.bip 58 (by decide) dc_288_604 ?_
  refine Bod.icF dc_288_606 rfl (k2_eq_F (k_ne 43 58 rfl rfl (by omega) (by omega) (by omega))) ?_
  refine Bod.ildG dc_288_609 (by repeat (first | exact h7 | exact sm_get_p1 | exact sm_get_p2e | refine sm_get_p1m (by decide) (by decide) ?_ | refine sm_get_p1n (by decide) rfl ?_ | refine sm_get_p2n (by decide) (by decide) rfl ?_)) ?_
  refine Bod.bip 46 (by decide) dc_288_611 ?_
  refine Bod.icF dc_288_613 rfl (k2_eq_F (k_ne 43 46 rfl rfl (by omega) (by omega) (by omega))) ?_
  refine Bod.ildG dc_288_616 (by repeat (first | exact h7 | exact sm_get_p1 | exact sm_get_p2e | refine sm_get_p1m (by decide) (by decide) ?_ | refine sm_get_p1n (by decide) rfl ?_ | refine sm_get_p2n (by decide) (by decide) rfl ?_)) ?_
  refine Bod.bip 43 (by decide) dc_288_618 ?_
  refine Bod.icT dc_288_620 rfl (k2_eq_T (k_eq 43 43 rfl rfl (by omega))) ?_
  refine Bod.ic 1 (by decide) dc_288_665 ?_
  refine Bod.go dc_288_666 rfl ?_
  refine Bod.ist dc_288_670 (by rw [ml_288]; exact Nat.le_of_ble_eq_true rfl) ?_
  refine Bod.aldnG dc_288_672 (by repeat (first | exact h0 | exact sm_get_p1 | exact sm_get_p2e | refine sm_get_p1m (by decide) (by decide) ?_ | refine sm_get_p1n (by decide) rfl ?_ | refine sm_get_p2n (by decide) (by decide) rfl ?_)) ?_
  refine Bod.go dc_288_673 rfl ?_
  refine Bod.ifT dc_288_675 rfl (k1_ne_T (k_ne 1 0 rfl rfl (by omega) (by omega) (by omega))) ?_
  refine Bod.ic 5 (by decide) dc_288_683 ?_
  refine Bod.go dc_288_684 rfl ?_
  refine Bod.go dc_288_689 rfl ?_
  refine Bod.ifF dc_288_691 rfl (k1_eq_F (k_ne 1 0 rfl rfl (by omega) (by omega) (by omega))) ?_
  refine Bod.sip 256 (by decide) dc_288_694 ?_
  refine Bod.ildG dc_288_697 (by repeat (first | exact h7 | exact sm_get_p1 | exact sm_get_p2e | refine sm_get_p1m (by decide) (by decide) ?_ | refine sm_get_p1n (by decide) rfl ?_ | refine sm_get_p2n (by decide) (by decide) rfl ?_)) ?_
  refine Bod.mulN 11008 (by omega) dc_288_699 ?_
  refine Bod.ildG dc_288_700 (by repeat (first | exact hd | exact sm_get_p1 | exact sm_get_p2e | refine sm_get_p1m (by decide) (by decide) ?_ | refine sm_get_p1n (by decide) rfl ?_ | refine sm_get_p2n (by decide) (by decide) rfl ?_)) ?_
  refine Bod.addN 11069 (by omega) dc_288_702 ?_
  refine Bod.go dc_288_703 rfl ?_
  refine Bod.ildG dc_288_708 (by repeat (first | exact h4 | exact sm_get_p1 | exact sm_get_p2e | refine sm_get_p1m (by decide) (by decide) ?_ | refine sm_get_p1n (by decide) rfl ?_ | refine sm_get_p2n (by decide) (by decide) rfl ?_)) ?_
  refine Bod.ildG dc_288_710 (by repeat (first | exact h5 | exact sm_get_p1 | exact sm_get_p2e | refine sm_get_p1m (by decide) (by decide) ?_ | refine sm_get_p1n (by decide) rfl ?_ | refine sm_get_p2n (by decide) (by decide) rfl ?_)) ?_
  refine Bod.virt (r := []) dc_288_712 kr_288_151 ⟨Or.inl rfl, ow_293, cl_14⟩ (by rw [np_293]; rfl) (by rw [np_293]; rfl) (ob_of (mk_61 _)) (Nat.le_of_ble_eq_true rfl) (tok_ev (t := t) (kd := (nI 5)) (vl := (nI 11069)) (ln := (nI l)) (bl := (nI bl)) (by first | assumption | rfl | exact congrArg nI (by omega) | (simp (disch := omega) only [rI, rIe, rA, rIA, rLA, rJA, rVI, rQI, rVA, rQA, upd_at,  rAI, rLI, rJI, nI_add, pk_sub, kc_0, kc_1, kc_2, kc_3, kc_4, kc_5, reduceIte, Nat.reduceEqDiff, Nat.add_zero, rI_hold, rI_hold, rL_hold, ht]; done)) (by omega)) ?_
  show Bod _ _ _ _ [] _ _ _
  refine Bod.ildG dc_288_715 (by repeat (first | exact h6 | exact sm_get_p1 | exact sm_get_p2e | refine sm_get_p1m (by decide) (by decide) ?_ | refine sm_get_p1n (by decide) rfl ?_ | refine sm_get_p2n (by decide) (by decide) rfl ?_)) ?_
  refine Bod.go dc_288_717 rfl ?_
  refine Bod.ifF dc_288_719 rfl (k1_eq_F (k_ne 1 0 rfl rfl (by omega) (by omega) (by omega))) ?_
  refine Bod.ic 2 (by decide) dc_288_722 ?_
  refine Bod.go dc_288_723 rfl ?_
  refine Bod.addN (p + 2) (by omega) dc_288_727 ?_
  refine Bod.ist dc_288_728 (by rw [ml_288]; exact Nat.le_of_ble_eq_true rfl) ?_
  refine Bod.go dc_288_730 rfl ?_
  exact hB _ (by repeat (first | exact h0 | exact sm_get_p1 | exact sm_get_p2e | refine sm_get_p1m (by decide) (by decide) ?_ | refine sm_get_p1n (by decide) rfl ?_ | refine sm_get_p2n (by decide) (by decide) rfl ?_)) (by repeat (first | exact h1 | exact sm_get_p1 | exact sm_get_p2e | refine sm_get_p1m (by decide) (by decide) ?_ | refine sm_get_p1n (by decide) rfl ?_ | refine sm_get_p2n (by decide) (by decide) rfl ?_)) (by repeat (first | exact h3 | exact sm_get_p1 | exact sm_get_p2e | refine sm_get_p1m (by decide) (by decide) ?_ | refine sm_get_p1n (by decide) rfl ?_ | refine sm_get_p2n (by decide) (by decide) rfl ?_)) (by repeat (first | exact h4 | exact sm_get_p1 | exact sm_get_p2e | refine sm_get_p1m (by decide) (by decide) ?_ | refine sm_get_p1n (by decide) rfl ?_ | refine sm_get_p2n (by decide) (by decide) rfl ?_)) (by repeat (first | exact h5 | exact sm_get_p1 | exact sm_get_p2e | refine sm_get_p1m (by decide) (by decide) ?_ | refine sm_get_p1n (by decide) rfl ?_ | refine sm_get_p2n (by decide) (by decide) rfl ?_)) (by repeat (first | exact h6 | exact sm_get_p1 | exact sm_get_p2e | refine sm_get_p1m (by decide) (by decide) ?_ | refine sm_get_p1n (by decide) rfl ?_ | refine sm_get_p2n (by decide) (by decide) rfl ?_))
theorem rs_43_n {d : Nat} {S Sf : cS} {lv : sm_L} {v : Option Value} {e : Nat} {l : Nat} {bl : Nat} {p : Nat} {x : Int32} {st : Nat} {dd : Int32} {t : Nat} (heM : e ≤ 3000) (hp : p ≤ e) (h0 : sm_get lv 0 = some (.ref 61)) (h1 : sm_get lv 1 = some (.ref 107)) (h3 : sm_get lv 3 = some (.int (nI e))) (h4 : sm_get lv 4 = some (.int (nI l))) (h5 : sm_get lv 5 = some (.int (nI bl))) (h6 : sm_get lv 6 = some (.int (nI p))) (h7 : sm_get lv 7 = some (.int (nI 43))) (h8 : sm_get lv 8 = some (.int (nI st))) (hd : sm_get lv 9 = some (.int dd)) (n61 : dd ≠ nI 61) (ht : sI S 6112 = nI t) (htM : t < 6002) (hB : ∀ lv1 : sm_L, sm_get lv1 0 = some (.ref 61) → sm_get lv1 1 = some (.ref 107) → sm_get lv1 3 = some (.int (nI e)) → sm_get lv1 4 = some (.int (nI l)) → sm_get lv1 5 = some (.int (nI bl)) → sm_get lv1 6 = some (.int (nI (p + 1))) → Bod (d + 8) 288 3 lv1 [] (wI 6112 (nI (t + 1)) (wA 70 t ((nI bl)) (wA 69 t ((nI l)) (wA 68 t ((nI 43)) (wA 67 t ((nI 5)) S))))) v Sf) : Bod (d + 8) 288 476 lv [] S v Sf := by
  refine Bod.ildG dc_288_476 (by repeat (first | exact hd | exact sm_get_p1 | exact sm_get_p2e | refine sm_get_p1m (by decide) (by decide) ?_ | refine sm_get_p1n (by decide) rfl ?_ | refine sm_get_p2n (by decide) (by decide) rfl ?_)) ?_
  refine Bod.bip 61 (by decide) dc_288_478 ?_
  refine Bod.icT dc_288_480 rfl (k2_ne_T n61) ?_
  refine Bod.ildG dc_288_532 (by repeat (first | exact h7 | exact sm_get_p1 | exact sm_get_p2e | refine sm_get_p1m (by decide) (by decide) ?_ | refine sm_get_p1n (by decide) rfl ?_ | refine sm_get_p2n (by decide) (by decide) rfl ?_)) ?_
  refine Bod.bip 47 (by decide) dc_288_534 ?_
  refine Bod.icT dc_288_536 rfl (k2_ne_T (k_ne 43 47 rfl rfl (by omega) (by omega) (by omega))) ?_
  refine Bod.ic 0 (by decide) dc_288_550 ?_
  refine Bod.ist dc_288_551 (by rw [ml_288]; exact Nat.le_of_ble_eq_true rfl) ?_
  refine Bod.ildG dc_288_553 (by repeat (first | exact h7 | exact sm_get_p1 | exact sm_get_p2e | refine sm_get_p1m (by decide) (by decide) ?_ | refine sm_get_p1n (by decide) rfl ?_ | refine sm_get_p2n (by decide) (by decide) rfl ?_)) ?_
  refine Bod.bip 40 (by decide) dc_288_555 ?_
  refine Bod.icF dc_288_557 rfl (k2_eq_F (k_ne 43 40 rfl rfl (by omega) (by omega) (by omega))) ?_
  refine Bod.ildG dc_288_560 (by repeat (first | exact h7 | exact sm_get_p1 | exact sm_get_p2e | refine sm_get_p1m (by decide) (by decide) ?_ | refine sm_get_p1n (by decide) rfl ?_ | refine sm_get_p2n (by decide) (by decide) rfl ?_)) ?_
  refine Bod.bip 41 (by decide) dc_288_562 ?_
  refine Bod.icF dc_288_564 rfl (k2_eq_F (k_ne 43 41 rfl rfl (by omega) (by omega) (by omega))) ?_
  refine Bod.ildG dc_288_567 (by repeat (first | exact h7 | exact sm_get_p1 | exact sm_get_p2e | refine sm_get_p1m (by decide) (by decide) ?_ | refine sm_get_p1n (by decide) rfl ?_ | refine sm_get_p2n (by decide) (by decide) rfl ?_)) ?_
  refine Bod.bip 91 (by decide) dc_288_569 ?_
  refine Bod.icF dc_288_571 rfl (k2_eq_F (k_ne 43 91 rfl rfl (by omega) (by omega) (by omega))) ?_
  refine Bod.ildG dc_288_574 (by repeat (first | exact h7 | exact sm_get_p1 | exact sm_get_p2e | refine sm_get_p1m (by decide) (by decide) ?_ | refine sm_get_p1n (by decide) rfl ?_ | refine sm_get_p2n (by decide) (by decide) rfl ?_)) ?_
  refine Bod.bip 93 (by decide) dc_288_576 ?_
  refine Bod.icF dc_288_578 rfl (k2_eq_F (k_ne 43 93 rfl rfl (by omega) (by omega) (by omega))) ?_
  refine Bod.ildG dc_288_581 (by repeat (first | exact h7 | exact sm_get_p1 | exact sm_get_p2e | refine sm_get_p1m (by decide) (by decide) ?_ | refine sm_get_p1n (by decide) rfl ?_ | refine sm_get_p2n (by decide) (by decide) rfl ?_)) ?_
  refine Bod.bip 123 (by decide) dc_288_583 ?_
  refine Bod.icF dc_288_585 rfl (k2_eq_F (k_ne 43 123 rfl rfl (by omega) (by omega) (by omega))) ?_
  refine Bod.ildG dc_288_588 (by repeat (first | exact h7 | exact sm_get_p1 | exact sm_get_p2e | refine sm_get_p1m (by decide) (by decide) ?_ | refine sm_get_p1n (by decide) rfl ?_ | refine sm_get_p2n (by decide) (by decide) rfl ?_)) ?_
  refine Bod.bip 125 (by decide) dc_288_590 ?_
  refine Bod.icF dc_288_592 rfl (k2_eq_F (k_ne 43 125 rfl rfl (by omega) (by omega) (by omega))) ?_
  refine Bod.ildG dc_288_595 (by repeat (first | exact h7 | exact sm_get_p1 | exact sm_get_p2e | refine sm_get_p1m (by decide) (by decide) ?_ | refine sm_get_p1n (by decide) rfl ?_ | refine sm_get_p2n (by decide) (by decide) rfl ?_)) ?_
  refine Bod.bip 44 (by decide) dc_288_597 ?_
  refine Bod.icF dc_288_599 rfl (k2_eq_F (k_ne 43 44 rfl rfl (by omega) (by omega) (by omega))) ?_
  refine Bod.ildG dc_288_602 (by repeat (first | exact h7 | exact sm_get_p1 | exact sm_get_p2e | refine sm_get_p1m (by decide) (by decide) ?_ | refine sm_get_p1n (by decide) rfl ?_ | refine sm_get_p2n (by decide) (by decide) rfl ?_)) ?_
  refine Bod.bip 58 (by decide) dc_288_604 ?_
  refine Bod.icF dc_288_606 rfl (k2_eq_F (k_ne 43 58 rfl rfl (by omega) (by omega) (by omega))) ?_
  refine Bod.ildG dc_288_609 (by repeat (first | exact h7 | exact sm_get_p1 | exact sm_get_p2e | refine sm_get_p1m (by decide) (by decide) ?_ | refine sm_get_p1n (by decide) rfl ?_ | refine sm_get_p2n (by decide) (by decide) rfl ?_)) ?_
  refine Bod.bip 46 (by decide) dc_288_611 ?_
  refine Bod.icF dc_288_613 rfl (k2_eq_F (k_ne 43 46 rfl rfl (by omega) (by omega) (by omega))) ?_
  refine Bod.ildG dc_288_616 (by repeat (first | exact h7 | exact sm_get_p1 | exact sm_get_p2e | refine sm_get_p1m (by decide) (by decide) ?_ | refine sm_get_p1n (by decide) rfl ?_ | refine sm_get_p2n (by decide) (by decide) rfl ?_)) ?_
  refine Bod.bip 43 (by decide) dc_288_618 ?_
  refine Bod.icT dc_288_620 rfl (k2_eq_T (k_eq 43 43 rfl rfl (by omega))) ?_
  refine Bod.ic 1 (by decide) dc_288_665 ?_
  refine Bod.go dc_288_666 rfl ?_
  refine Bod.ist dc_288_670 (by rw [ml_288]; exact Nat.le_of_ble_eq_true rfl) ?_
  refine Bod.aldnG dc_288_672 (by repeat (first | exact h0 | exact sm_get_p1 | exact sm_get_p2e | refine sm_get_p1m (by decide) (by decide) ?_ | refine sm_get_p1n (by decide) rfl ?_ | refine sm_get_p2n (by decide) (by decide) rfl ?_)) ?_
  refine Bod.go dc_288_673 rfl ?_
  refine Bod.ifF dc_288_675 rfl (k1_ne_F (k_eq 0 0 rfl rfl (by omega))) ?_
  refine Bod.go dc_288_678 rfl ?_
  refine Bod.ifF dc_288_680 rfl (k1_eq_F (k_ne 1 0 rfl rfl (by omega) (by omega) (by omega))) ?_
  refine Bod.ic 5 (by decide) dc_288_683 ?_
  refine Bod.go dc_288_684 rfl ?_
  refine Bod.go dc_288_689 rfl ?_
  refine Bod.ifT dc_288_691 rfl (k1_eq_T (k_eq 0 0 rfl rfl (by omega))) ?_
  refine Bod.ildG dc_288_706 (by repeat (first | exact h7 | exact sm_get_p1 | exact sm_get_p2e | refine sm_get_p1m (by decide) (by decide) ?_ | refine sm_get_p1n (by decide) rfl ?_ | refine sm_get_p2n (by decide) (by decide) rfl ?_)) ?_
  refine Bod.ildG dc_288_708 (by repeat (first | exact h4 | exact sm_get_p1 | exact sm_get_p2e | refine sm_get_p1m (by decide) (by decide) ?_ | refine sm_get_p1n (by decide) rfl ?_ | refine sm_get_p2n (by decide) (by decide) rfl ?_)) ?_
  refine Bod.ildG dc_288_710 (by repeat (first | exact h5 | exact sm_get_p1 | exact sm_get_p2e | refine sm_get_p1m (by decide) (by decide) ?_ | refine sm_get_p1n (by decide) rfl ?_ | refine sm_get_p2n (by decide) (by decide) rfl ?_)) ?_
  refine Bod.virt (r := []) dc_288_712 kr_288_151 ⟨Or.inl rfl, ow_293, cl_14⟩ (by rw [np_293]; rfl) (by rw [np_293]; rfl) (ob_of (mk_61 _)) (Nat.le_of_ble_eq_true rfl) (tok_ev (t := t) (kd := (nI 5)) (vl := (nI 43)) (ln := (nI l)) (bl := (nI bl)) (by first | assumption | rfl | exact congrArg nI (by omega) | (simp (disch := omega) only [rI, rIe, rA, rIA, rLA, rJA, rVI, rQI, rVA, rQA, upd_at,  rAI, rLI, rJI, nI_add, pk_sub, kc_0, kc_1, kc_2, kc_3, kc_4, kc_5, reduceIte, Nat.reduceEqDiff, Nat.add_zero, rI_hold, rI_hold, rL_hold, ht]; done)) (by omega)) ?_
  show Bod _ _ _ _ [] _ _ _
  refine Bod.ildG dc_288_715 (by repeat (first | exact h6 | exact sm_get_p1 | exact sm_get_p2e | refine sm_get_p1m (by decide) (by decide) ?_ | refine sm_get_p1n (by decide) rfl ?_ | refine sm_get_p2n (by decide) (by decide) rfl ?_)) ?_
  refine Bod.go dc_288_717 rfl ?_
  refine Bod.ifT dc_288_719 rfl (k1_eq_T (k_eq 0 0 rfl rfl (by omega))) ?_
  refine Bod.ic 1 (by decide) dc_288_726 ?_
  refine Bod.addN (p + 1) (by omega) dc_288_727 ?_
  refine Bod.ist dc_288_728 (by rw [ml_288]; exact Nat.le_of_ble_eq_true rfl) ?_
  refine Bod.go dc_288_730 rfl ?_
  exact hB _ (by repeat (first | exact h0 | exact sm_get_p1 | exact sm_get_p2e | refine sm_get_p1m (by decide) (by decide) ?_ | refine sm_get_p1n (by decide) rfl ?_ | refine sm_get_p2n (by decide) (by decide) rfl ?_)) (by repeat (first | exact h1 | exact sm_get_p1 | exact sm_get_p2e | refine sm_get_p1m (by decide) (by decide) ?_ | refine sm_get_p1n (by decide) rfl ?_ | refine sm_get_p2n (by decide) (by decide) rfl ?_)) (by repeat (first | exact h3 | exact sm_get_p1 | exact sm_get_p2e | refine sm_get_p1m (by decide) (by decide) ?_ | refine sm_get_p1n (by decide) rfl ?_ | refine sm_get_p2n (by decide) (by decide) rfl ?_)) (by repeat (first | exact h4 | exact sm_get_p1 | exact sm_get_p2e | refine sm_get_p1m (by decide) (by decide) ?_ | refine sm_get_p1n (by decide) rfl ?_ | refine sm_get_p2n (by decide) (by decide) rfl ?_)) (by repeat (first | exact h5 | exact sm_get_p1 | exact sm_get_p2e | refine sm_get_p1m (by decide) (by decide) ?_ | refine sm_get_p1n (by decide) rfl ?_ | refine sm_get_p2n (by decide) (by decide) rfl ?_)) (by repeat (first | exact h6 | exact sm_get_p1 | exact sm_get_p2e | refine sm_get_p1m (by decide) (by decide) ?_ | refine sm_get_p1n (by decide) rfl ?_ | refine sm_get_p2n (by decide) (by decide) rfl ?_))
theorem rs_44_61 {d : Nat} {S Sf : cS} {lv : sm_L} {v : Option Value} {e : Nat} {l : Nat} {bl : Nat} {p : Nat} {x : Int32} {st : Nat} {t : Nat} (heM : e ≤ 3000) (hp : p ≤ e) (h0 : sm_get lv 0 = some (.ref 61)) (h1 : sm_get lv 1 = some (.ref 107)) (h3 : sm_get lv 3 = some (.int (nI e))) (h4 : sm_get lv 4 = some (.int (nI l))) (h5 : sm_get lv 5 = some (.int (nI bl))) (h6 : sm_get lv 6 = some (.int (nI p))) (h7 : sm_get lv 7 = some (.int (nI 44))) (h8 : sm_get lv 8 = some (.int (nI st))) (hd : sm_get lv 9 = some (.int (nI 61))) (ht : sI S 6112 = nI t) (htM : t < 6002) (hB : ∀ lv1 : sm_L, sm_get lv1 0 = some (.ref 61) → sm_get lv1 1 = some (.ref 107) → sm_get lv1 3 = some (.int (nI e)) → sm_get lv1 4 = some (.int (nI l)) → sm_get lv1 5 = some (.int (nI bl)) → sm_get lv1 6 = some (.int (nI (p + 1))) → Bod (d + 8) 288 3 lv1 [] (wI 6112 (nI (t + 1)) (wA 70 t ((nI bl)) (wA 69 t ((nI l)) (wA 68 t ((nI 44)) (wA 67 t ((nI 5)) S))))) v Sf) : Bod (d + 8) 288 476 lv [] S v Sf := by
  refine Bod.ildG dc_288_476 (by repeat (first | exact hd | exact sm_get_p1 | exact sm_get_p2e | refine sm_get_p1m (by decide) (by decide) ?_ | refine sm_get_p1n (by decide) rfl ?_ | refine sm_get_p2n (by decide) (by decide) rfl ?_)) ?_
  refine Bod.bip 61 (by decide) dc_288_478 ?_
  refine Bod.icF dc_288_480 rfl (k2_ne_F (k_eq 61 61 rfl rfl (by omega))) ?_
  refine Bod.ildG dc_288_483 (by repeat (first | exact h7 | exact sm_get_p1 | exact sm_get_p2e | refine sm_get_p1m (by decide) (by decide) ?_ | refine sm_get_p1n (by decide) rfl ?_ | refine sm_get_p2n (by decide) (by decide) rfl ?_)) ?_
  refine Bod.bip 61 (by decide) dc_288_485 ?_
  refine Bod.icF dc_288_487 rfl (k2_eq_F (k_ne 44 61 rfl rfl (by omega) (by omega) (by omega))) ?_
  refine Bod.ildG dc_288_490 (by repeat (first | exact h7 | exact sm_get_p1 | exact sm_get_p2e | refine sm_get_p1m (by decide) (by decide) ?_ | refine sm_get_p1n (by decide) rfl ?_ | refine sm_get_p2n (by decide) (by decide) rfl ?_)) ?_
  refine Bod.bip 33 (by decide) dc_288_492 ?_
  refine Bod.icF dc_288_494 rfl (k2_eq_F (k_ne 44 33 rfl rfl (by omega) (by omega) (by omega))) ?_
  refine Bod.ildG dc_288_497 (by repeat (first | exact h7 | exact sm_get_p1 | exact sm_get_p2e | refine sm_get_p1m (by decide) (by decide) ?_ | refine sm_get_p1n (by decide) rfl ?_ | refine sm_get_p2n (by decide) (by decide) rfl ?_)) ?_
  refine Bod.bip 60 (by decide) dc_288_499 ?_
  refine Bod.icF dc_288_501 rfl (k2_eq_F (k_ne 44 60 rfl rfl (by omega) (by omega) (by omega))) ?_
  refine Bod.ildG dc_288_504 (by repeat (first | exact h7 | exact sm_get_p1 | exact sm_get_p2e | refine sm_get_p1m (by decide) (by decide) ?_ | refine sm_get_p1n (by decide) rfl ?_ | refine sm_get_p2n (by decide) (by decide) rfl ?_)) ?_
  refine Bod.bip 62 (by decide) dc_288_506 ?_
  refine Bod.icF dc_288_508 rfl (k2_eq_F (k_ne 44 62 rfl rfl (by omega) (by omega) (by omega))) ?_
  refine Bod.ildG dc_288_511 (by repeat (first | exact h7 | exact sm_get_p1 | exact sm_get_p2e | refine sm_get_p1m (by decide) (by decide) ?_ | refine sm_get_p1n (by decide) rfl ?_ | refine sm_get_p2n (by decide) (by decide) rfl ?_)) ?_
  refine Bod.bip 43 (by decide) dc_288_513 ?_
  refine Bod.icF dc_288_515 rfl (k2_eq_F (k_ne 44 43 rfl rfl (by omega) (by omega) (by omega))) ?_
  refine Bod.ildG dc_288_518 (by repeat (first | exact h7 | exact sm_get_p1 | exact sm_get_p2e | refine sm_get_p1m (by decide) (by decide) ?_ | refine sm_get_p1n (by decide) rfl ?_ | refine sm_get_p2n (by decide) (by decide) rfl ?_)) ?_
  refine Bod.bip 45 (by decide) dc_288_520 ?_
  refine Bod.icF dc_288_522 rfl (k2_eq_F (k_ne 44 45 rfl rfl (by omega) (by omega) (by omega))) ?_
  refine Bod.ildG dc_288_525 (by repeat (first | exact h7 | exact sm_get_p1 | exact sm_get_p2e | refine sm_get_p1m (by decide) (by decide) ?_ | refine sm_get_p1n (by decide) rfl ?_ | refine sm_get_p2n (by decide) (by decide) rfl ?_)) ?_
  refine Bod.bip 42 (by decide) dc_288_527 ?_
  refine Bod.icF dc_288_529 rfl (k2_eq_F (k_ne 44 42 rfl rfl (by omega) (by omega) (by omega))) ?_
  refine Bod.ildG dc_288_532 (by repeat (first | exact h7 | exact sm_get_p1 | exact sm_get_p2e | refine sm_get_p1m (by decide) (by decide) ?_ | refine sm_get_p1n (by decide) rfl ?_ | refine sm_get_p2n (by decide) (by decide) rfl ?_)) ?_
  refine Bod.bip 47 (by decide) dc_288_534 ?_
  refine Bod.icT dc_288_536 rfl (k2_ne_T (k_ne 44 47 rfl rfl (by omega) (by omega) (by omega))) ?_
  refine Bod.ic 0 (by decide) dc_288_550 ?_
  refine Bod.ist dc_288_551 (by rw [ml_288]; exact Nat.le_of_ble_eq_true rfl) ?_
  refine Bod.ildG dc_288_553 (by repeat (first | exact h7 | exact sm_get_p1 | exact sm_get_p2e | refine sm_get_p1m (by decide) (by decide) ?_ | refine sm_get_p1n (by decide) rfl ?_ | refine sm_get_p2n (by decide) (by decide) rfl ?_)) ?_
  refine Bod.bip 40 (by decide) dc_288_555 ?_
  refine Bod.icF dc_288_557 rfl (k2_eq_F (k_ne 44 40 rfl rfl (by omega) (by omega) (by omega))) ?_
  refine Bod.ildG dc_288_560 (by repeat (first | exact h7 | exact sm_get_p1 | exact sm_get_p2e | refine sm_get_p1m (by decide) (by decide) ?_ | refine sm_get_p1n (by decide) rfl ?_ | refine sm_get_p2n (by decide) (by decide) rfl ?_)) ?_
  refine Bod.bip 41 (by decide) dc_288_562 ?_
  refine Bod.icF dc_288_564 rfl (k2_eq_F (k_ne 44 41 rfl rfl (by omega) (by omega) (by omega))) ?_
  refine Bod.ildG dc_288_567 (by repeat (first | exact h7 | exact sm_get_p1 | exact sm_get_p2e | refine sm_get_p1m (by decide) (by decide) ?_ | refine sm_get_p1n (by decide) rfl ?_ | refine sm_get_p2n (by decide) (by decide) rfl ?_)) ?_
  refine Bod.bip 91 (by decide) dc_288_569 ?_
  refine Bod.icF dc_288_571 rfl (k2_eq_F (k_ne 44 91 rfl rfl (by omega) (by omega) (by omega))) ?_
  refine Bod.ildG dc_288_574 (by repeat (first | exact h7 | exact sm_get_p1 | exact sm_get_p2e | refine sm_get_p1m (by decide) (by decide) ?_ | refine sm_get_p1n (by decide) rfl ?_ | refine sm_get_p2n (by decide) (by decide) rfl ?_)) ?_
  refine Bod.bip 93 (by decide) dc_288_576 ?_
  refine Bod.icF dc_288_578 rfl (k2_eq_F (k_ne 44 93 rfl rfl (by omega) (by omega) (by omega))) ?_
  refine Bod.ildG dc_288_581 (by repeat (first | exact h7 | exact sm_get_p1 | exact sm_get_p2e | refine sm_get_p1m (by decide) (by decide) ?_ | refine sm_get_p1n (by decide) rfl ?_ | refine sm_get_p2n (by decide) (by decide) rfl ?_)) ?_
  refine Bod.bip 123 (by decide) dc_288_583 ?_
  refine Bod.icF dc_288_585 rfl (k2_eq_F (k_ne 44 123 rfl rfl (by omega) (by omega) (by omega))) ?_
  refine Bod.ildG dc_288_588 (by repeat (first | exact h7 | exact sm_get_p1 | exact sm_get_p2e | refine sm_get_p1m (by decide) (by decide) ?_ | refine sm_get_p1n (by decide) rfl ?_ | refine sm_get_p2n (by decide) (by decide) rfl ?_)) ?_
  refine Bod.bip 125 (by decide) dc_288_590 ?_
  refine Bod.icF dc_288_592 rfl (k2_eq_F (k_ne 44 125 rfl rfl (by omega) (by omega) (by omega))) ?_
  refine Bod.ildG dc_288_595 (by repeat (first | exact h7 | exact sm_get_p1 | exact sm_get_p2e | refine sm_get_p1m (by decide) (by decide) ?_ | refine sm_get_p1n (by decide) rfl ?_ | refine sm_get_p2n (by decide) (by decide) rfl ?_)) ?_
  refine Bod.bip 44 (by decide) dc_288_597 ?_
  refine Bod.icT dc_288_599 rfl (k2_eq_T (k_eq 44 44 rfl rfl (by omega))) ?_
  refine Bod.ic 1 (by decide) dc_288_665 ?_
  refine Bod.go dc_288_666 rfl ?_
  refine Bod.ist dc_288_670 (by rw [ml_288]; exact Nat.le_of_ble_eq_true rfl) ?_
  refine Bod.aldnG dc_288_672 (by repeat (first | exact h0 | exact sm_get_p1 | exact sm_get_p2e | refine sm_get_p1m (by decide) (by decide) ?_ | refine sm_get_p1n (by decide) rfl ?_ | refine sm_get_p2n (by decide) (by decide) rfl ?_)) ?_
  refine Bod.go dc_288_673 rfl ?_
  refine Bod.ifF dc_288_675 rfl (k1_ne_F (k_eq 0 0 rfl rfl (by omega))) ?_
  refine Bod.go dc_288_678 rfl ?_
  refine Bod.ifF dc_288_680 rfl (k1_eq_F (k_ne 1 0 rfl rfl (by omega) (by omega) (by omega))) ?_
  refine Bod.ic 5 (by decide) dc_288_683 ?_
  refine Bod.go dc_288_684 rfl ?_
  refine Bod.go dc_288_689 rfl ?_
  refine Bod.ifT dc_288_691 rfl (k1_eq_T (k_eq 0 0 rfl rfl (by omega))) ?_
  refine Bod.ildG dc_288_706 (by repeat (first | exact h7 | exact sm_get_p1 | exact sm_get_p2e | refine sm_get_p1m (by decide) (by decide) ?_ | refine sm_get_p1n (by decide) rfl ?_ | refine sm_get_p2n (by decide) (by decide) rfl ?_)) ?_
  refine Bod.ildG dc_288_708 (by repeat (first | exact h4 | exact sm_get_p1 | exact sm_get_p2e | refine sm_get_p1m (by decide) (by decide) ?_ | refine sm_get_p1n (by decide) rfl ?_ | refine sm_get_p2n (by decide) (by decide) rfl ?_)) ?_
  refine Bod.ildG dc_288_710 (by repeat (first | exact h5 | exact sm_get_p1 | exact sm_get_p2e | refine sm_get_p1m (by decide) (by decide) ?_ | refine sm_get_p1n (by decide) rfl ?_ | refine sm_get_p2n (by decide) (by decide) rfl ?_)) ?_
  refine Bod.virt (r := []) dc_288_712 kr_288_151 ⟨Or.inl rfl, ow_293, cl_14⟩ (by rw [np_293]; rfl) (by rw [np_293]; rfl) (ob_of (mk_61 _)) (Nat.le_of_ble_eq_true rfl) (tok_ev (t := t) (kd := (nI 5)) (vl := (nI 44)) (ln := (nI l)) (bl := (nI bl)) (by first | assumption | rfl | exact congrArg nI (by omega) | (simp (disch := omega) only [rI, rIe, rA, rIA, rLA, rJA, rVI, rQI, rVA, rQA, upd_at,  rAI, rLI, rJI, nI_add, pk_sub, kc_0, kc_1, kc_2, kc_3, kc_4, kc_5, reduceIte, Nat.reduceEqDiff, Nat.add_zero, rI_hold, rI_hold, rL_hold, ht]; done)) (by omega)) ?_
  show Bod _ _ _ _ [] _ _ _
  refine Bod.ildG dc_288_715 (by repeat (first | exact h6 | exact sm_get_p1 | exact sm_get_p2e | refine sm_get_p1m (by decide) (by decide) ?_ | refine sm_get_p1n (by decide) rfl ?_ | refine sm_get_p2n (by decide) (by decide) rfl ?_)) ?_
  refine Bod.go dc_288_717 rfl ?_
  refine Bod.ifT dc_288_719 rfl (k1_eq_T (k_eq 0 0 rfl rfl (by omega))) ?_
  refine Bod.ic 1 (by decide) dc_288_726 ?_
  refine Bod.addN (p + 1) (by omega) dc_288_727 ?_
  refine Bod.ist dc_288_728 (by rw [ml_288]; exact Nat.le_of_ble_eq_true rfl) ?_
  refine Bod.go dc_288_730 rfl ?_
  exact hB _ (by repeat (first | exact h0 | exact sm_get_p1 | exact sm_get_p2e | refine sm_get_p1m (by decide) (by decide) ?_ | refine sm_get_p1n (by decide) rfl ?_ | refine sm_get_p2n (by decide) (by decide) rfl ?_)) (by repeat (first | exact h1 | exact sm_get_p1 | exact sm_get_p2e | refine sm_get_p1m (by decide) (by decide) ?_ | refine sm_get_p1n (by decide) rfl ?_ | refine sm_get_p2n (by decide) (by decide) rfl ?_)) (by repeat (first | exact h3 | exact sm_get_p1 | exact sm_get_p2e | refine sm_get_p1m (by decide) (by decide) ?_ | refine sm_get_p1n (by decide) rfl ?_ | refine sm_get_p2n (by decide) (by decide) rfl ?_)) (by repeat (first | exact h4 | exact sm_get_p1 | exact sm_get_p2e | refine sm_get_p1m (by decide) (by decide) ?_ | refine sm_get_p1n (by decide) rfl ?_ | refine sm_get_p2n (by decide) (by decide) rfl ?_)) (by repeat (first | exact h5 | exact sm_get_p1 | exact sm_get_p2e | refine sm_get_p1m (by decide) (by decide) ?_ | refine sm_get_p1n (by decide) rfl ?_ | refine sm_get_p2n (by decide) (by decide) rfl ?_)) (by repeat (first | exact h6 | exact sm_get_p1 | exact sm_get_p2e | refine sm_get_p1m (by decide) (by decide) ?_ | refine sm_get_p1n (by decide) rfl ?_ | refine sm_get_p2n (by decide) (by decide) rfl ?_))
theorem rs_44_n {d : Nat} {S Sf : cS} {lv : sm_L} {v : Option Value} {e : Nat} {l : Nat} {bl : Nat} {p : Nat} {x : Int32} {st : Nat} {dd : Int32} {t : Nat} (heM : e ≤ 3000) (hp : p ≤ e) (h0 : sm_get lv 0 = some (.ref 61)) (h1 : sm_get lv 1 = some (.ref 107)) (h3 : sm_get lv 3 = some (.int (nI e))) (h4 : sm_get lv 4 = some (.int (nI l))) (h5 : sm_get lv 5 = some (.int (nI bl))) (h6 : sm_get lv 6 = some (.int (nI p))) (h7 : sm_get lv 7 = some (.int (nI 44))) (h8 : sm_get lv 8 = some (.int (nI st))) (hd : sm_get lv 9 = some (.int dd)) (n61 : dd ≠ nI 61) (ht : sI S 6112 = nI t) (htM : t < 6002) (hB : ∀ lv1 : sm_L, sm_get lv1 0 = some (.ref 61) → sm_get lv1 1 = some (.ref 107) → sm_get lv1 3 = some (.int (nI e)) → sm_get lv1 4 = some (.int (nI l)) → sm_get lv1 5 = some (.int (nI bl)) → sm_get lv1 6 = some (.int (nI (p + 1))) → Bod (d + 8) 288 3 lv1 [] (wI 6112 (nI (t + 1)) (wA 70 t ((nI bl)) (wA 69 t ((nI l)) (wA 68 t ((nI 44)) (wA 67 t ((nI 5)) S))))) v Sf) : Bod (d + 8) 288 476 lv [] S v Sf := by
  refine Bod.ildG dc_288_476 (by repeat (first | exact hd | exact sm_get_p1 | exact sm_get_p2e | refine sm_get_p1m (by decide) (by decide) ?_ | refine sm_get_p1n (by decide) rfl ?_ | refine sm_get_p2n (by decide) (by decide) rfl ?_)) ?_
  refine Bod.bip 61 (by decide) dc_288_478 ?_
  refine Bod.icT dc_288_480 rfl (k2_ne_T n61) ?_
  refine Bod.ildG dc_288_532 (by repeat (first | exact h7 | exact sm_get_p1 | exact sm_get_p2e | refine sm_get_p1m (by decide) (by decide) ?_ | refine sm_get_p1n (by decide) rfl ?_ | refine sm_get_p2n (by decide) (by decide) rfl ?_)) ?_
  refine Bod.bip 47 (by decide) dc_288_534 ?_
  refine Bod.icT dc_288_536 rfl (k2_ne_T (k_ne 44 47 rfl rfl (by omega) (by omega) (by omega))) ?_
  refine Bod.ic 0 (by decide) dc_288_550 ?_
  refine Bod.ist dc_288_551 (by rw [ml_288]; exact Nat.le_of_ble_eq_true rfl) ?_
  refine Bod.ildG dc_288_553 (by repeat (first | exact h7 | exact sm_get_p1 | exact sm_get_p2e | refine sm_get_p1m (by decide) (by decide) ?_ | refine sm_get_p1n (by decide) rfl ?_ | refine sm_get_p2n (by decide) (by decide) rfl ?_)) ?_
  refine Bod.bip 40 (by decide) dc_288_555 ?_
  refine Bod.icF dc_288_557 rfl (k2_eq_F (k_ne 44 40 rfl rfl (by omega) (by omega) (by omega))) ?_
  refine Bod.ildG dc_288_560 (by repeat (first | exact h7 | exact sm_get_p1 | exact sm_get_p2e | refine sm_get_p1m (by decide) (by decide) ?_ | refine sm_get_p1n (by decide) rfl ?_ | refine sm_get_p2n (by decide) (by decide) rfl ?_)) ?_
  refine Bod.bip 41 (by decide) dc_288_562 ?_
  refine Bod.icF dc_288_564 rfl (k2_eq_F (k_ne 44 41 rfl rfl (by omega) (by omega) (by omega))) ?_
  refine Bod.ildG dc_288_567 (by repeat (first | exact h7 | exact sm_get_p1 | exact sm_get_p2e | refine sm_get_p1m (by decide) (by decide) ?_ | refine sm_get_p1n (by decide) rfl ?_ | refine sm_get_p2n (by decide) (by decide) rfl ?_)) ?_
  refine Bod.bip 91 (by decide) dc_288_569 ?_
  refine Bod.icF dc_288_571 rfl (k2_eq_F (k_ne 44 91 rfl rfl (by omega) (by omega) (by omega))) ?_
  refine Bod.ildG dc_288_574 (by repeat (first | exact h7 | exact sm_get_p1 | exact sm_get_p2e | refine sm_get_p1m (by decide) (by decide) ?_ | refine sm_get_p1n (by decide) rfl ?_ | refine sm_get_p2n (by decide) (by decide) rfl ?_)) ?_
  refine Bod.bip 93 (by decide) dc_288_576 ?_
  refine Bod.icF dc_288_578 rfl (k2_eq_F (k_ne 44 93 rfl rfl (by omega) (by omega) (by omega))) ?_
  refine Bod.ildG dc_288_581 (by repeat (first | exact h7 | exact sm_get_p1 | exact sm_get_p2e | refine sm_get_p1m (by decide) (by decide) ?_ | refine sm_get_p1n (by decide) rfl ?_ | refine sm_get_p2n (by decide) (by decide) rfl ?_)) ?_
  refine Bod.bip 123 (by decide) dc_288_583 ?_
  refine Bod.icF dc_288_585 rfl (k2_eq_F (k_ne 44 123 rfl rfl (by omega) (by omega) (by omega))) ?_
  refine Bod.ildG dc_288_588 (by repeat (first | exact h7 | exact sm_get_p1 | exact sm_get_p2e | refine sm_get_p1m (by decide) (by decide) ?_ | refine sm_get_p1n (by decide) rfl ?_ | refine sm_get_p2n (by decide) (by decide) rfl ?_)) ?_
  refine Bod.bip 125 (by decide) dc_288_590 ?_
  refine Bod.icF dc_288_592 rfl (k2_eq_F (k_ne 44 125 rfl rfl (by omega) (by omega) (by omega))) ?_
  refine Bod.ildG dc_288_595 (by repeat (first | exact h7 | exact sm_get_p1 | exact sm_get_p2e | refine sm_get_p1m (by decide) (by decide) ?_ | refine sm_get_p1n (by decide) rfl ?_ | refine sm_get_p2n (by decide) (by decide) rfl ?_)) ?_
  refine Bod.bip 44 (by decide) dc_288_597 ?_
  refine Bod.icT dc_288_599 rfl (k2_eq_T (k_eq 44 44 rfl rfl (by omega))) ?_
  refine Bod.ic 1 (by decide) dc_288_665 ?_
  refine Bod.go dc_288_666 rfl ?_
  refine Bod.ist dc_288_670 (by rw [ml_288]; exact Nat.le_of_ble_eq_true rfl) ?_
  refine Bod.aldnG dc_288_672 (by repeat (first | exact h0 | exact sm_get_p1 | exact sm_get_p2e | refine sm_get_p1m (by decide) (by decide) ?_ | refine sm_get_p1n (by decide) rfl ?_ | refine sm_get_p2n (by decide) (by decide) rfl ?_)) ?_
  refine Bod.go dc_288_673 rfl ?_
  refine Bod.ifF dc_288_675 rfl (k1_ne_F (k_eq 0 0 rfl rfl (by omega))) ?_
  refine Bod.go dc_288_678 rfl ?_
  refine Bod.ifF dc_288_680 rfl (k1_eq_F (k_ne 1 0 rfl rfl (by omega) (by omega) (by omega))) ?_
  refine Bod.ic 5 (by decide) dc_288_683 ?_
  refine Bod.go dc_288_684 rfl ?_
  refine Bod.go dc_288_689 rfl ?_
  refine Bod.ifT dc_288_691 rfl (k1_eq_T (k_eq 0 0 rfl rfl (by omega))) ?_
  refine Bod.ildG dc_288_706 (by repeat (first | exact h7 | exact sm_get_p1 | exact sm_get_p2e | refine sm_get_p1m (by decide) (by decide) ?_ | refine sm_get_p1n (by decide) rfl ?_ | refine sm_get_p2n (by decide) (by decide) rfl ?_)) ?_
  refine Bod.ildG dc_288_708 (by repeat (first | exact h4 | exact sm_get_p1 | exact sm_get_p2e | refine sm_get_p1m (by decide) (by decide) ?_ | refine sm_get_p1n (by decide) rfl ?_ | refine sm_get_p2n (by decide) (by decide) rfl ?_)) ?_
  refine Bod.ildG dc_288_710 (by repeat (first | exact h5 | exact sm_get_p1 | exact sm_get_p2e | refine sm_get_p1m (by decide) (by decide) ?_ | refine sm_get_p1n (by decide) rfl ?_ | refine sm_get_p2n (by decide) (by decide) rfl ?_)) ?_
  refine Bod.virt (r := []) dc_288_712 kr_288_151 ⟨Or.inl rfl, ow_293, cl_14⟩ (by rw [np_293]; rfl) (by rw [np_293]; rfl) (ob_of (mk_61 _)) (Nat.le_of_ble_eq_true rfl) (tok_ev (t := t) (kd := (nI 5)) (vl := (nI 44)) (ln := (nI l)) (bl := (nI bl)) (by first | assumption | rfl | exact congrArg nI (by omega) | (simp (disch := omega) only [rI, rIe, rA, rIA, rLA, rJA, rVI, rQI, rVA, rQA, upd_at,  rAI, rLI, rJI, nI_add, pk_sub, kc_0, kc_1, kc_2, kc_3, kc_4, kc_5, reduceIte, Nat.reduceEqDiff, Nat.add_zero, rI_hold, rI_hold, rL_hold, ht]; done)) (by omega)) ?_
  show Bod _ _ _ _ [] _ _ _
  refine Bod.ildG dc_288_715 (by repeat (first | exact h6 | exact sm_get_p1 | exact sm_get_p2e | refine sm_get_p1m (by decide) (by decide) ?_ | refine sm_get_p1n (by decide) rfl ?_ | refine sm_get_p2n (by decide) (by decide) rfl ?_)) ?_
  refine Bod.go dc_288_717 rfl ?_
  refine Bod.ifT dc_288_719 rfl (k1_eq_T (k_eq 0 0 rfl rfl (by omega))) ?_
  refine Bod.ic 1 (by decide) dc_288_726 ?_
  refine Bod.addN (p + 1) (by omega) dc_288_727 ?_
  refine Bod.ist dc_288_728 (by rw [ml_288]; exact Nat.le_of_ble_eq_true rfl) ?_
  refine Bod.go dc_288_730 rfl ?_
  exact hB _ (by repeat (first | exact h0 | exact sm_get_p1 | exact sm_get_p2e | refine sm_get_p1m (by decide) (by decide) ?_ | refine sm_get_p1n (by decide) rfl ?_ | refine sm_get_p2n (by decide) (by decide) rfl ?_)) (by repeat (first | exact h1 | exact sm_get_p1 | exact sm_get_p2e | refine sm_get_p1m (by decide) (by decide) ?_ | refine sm_get_p1n (by decide) rfl ?_ | refine sm_get_p2n (by decide) (by decide) rfl ?_)) (by repeat (first | exact h3 | exact sm_get_p1 | exact sm_get_p2e | refine sm_get_p1m (by decide) (by decide) ?_ | refine sm_get_p1n (by decide) rfl ?_ | refine sm_get_p2n (by decide) (by decide) rfl ?_)) (by repeat (first | exact h4 | exact sm_get_p1 | exact sm_get_p2e | refine sm_get_p1m (by decide) (by decide) ?_ | refine sm_get_p1n (by decide) rfl ?_ | refine sm_get_p2n (by decide) (by decide) rfl ?_)) (by repeat (first | exact h5 | exact sm_get_p1 | exact sm_get_p2e | refine sm_get_p1m (by decide) (by decide) ?_ | refine sm_get_p1n (by decide) rfl ?_ | refine sm_get_p2n (by decide) (by decide) rfl ?_)) (by repeat (first | exact h6 | exact sm_get_p1 | exact sm_get_p2e | refine sm_get_p1m (by decide) (by decide) ?_ | refine sm_get_p1n (by decide) rfl ?_ | refine sm_get_p2n (by decide) (by decide) rfl ?_))
theorem rs_45_61 {d : Nat} {S Sf : cS} {lv : sm_L} {v : Option Value} {e : Nat} {l : Nat} {bl : Nat} {p : Nat} {x : Int32} {st : Nat} {t : Nat} (heM : e ≤ 3000) (hp : p ≤ e) (h0 : sm_get lv 0 = some (.ref 61)) (h1 : sm_get lv 1 = some (.ref 107)) (h3 : sm_get lv 3 = some (.int (nI e))) (h4 : sm_get lv 4 = some (.int (nI l))) (h5 : sm_get lv 5 = some (.int (nI bl))) (h6 : sm_get lv 6 = some (.int (nI p))) (h7 : sm_get lv 7 = some (.int (nI 45))) (h8 : sm_get lv 8 = some (.int (nI st))) (hd : sm_get lv 9 = some (.int (nI 61))) (ht : sI S 6112 = nI t) (htM : t < 6002) (hB : ∀ lv1 : sm_L, sm_get lv1 0 = some (.ref 61) → sm_get lv1 1 = some (.ref 107) → sm_get lv1 3 = some (.int (nI e)) → sm_get lv1 4 = some (.int (nI l)) → sm_get lv1 5 = some (.int (nI bl)) → sm_get lv1 6 = some (.int (nI (p + 2))) → Bod (d + 8) 288 3 lv1 [] (wI 6112 (nI (t + 1)) (wA 70 t ((nI bl)) (wA 69 t ((nI l)) (wA 68 t ((nI 11581)) (wA 67 t ((nI 5)) S))))) v Sf) : Bod (d + 8) 288 476 lv [] S v Sf := by
  refine Bod.ildG dc_288_476 (by repeat (first | exact hd | exact sm_get_p1 | exact sm_get_p2e | refine sm_get_p1m (by decide) (by decide) ?_ | refine sm_get_p1n (by decide) rfl ?_ | refine sm_get_p2n (by decide) (by decide) rfl ?_)) ?_
  refine Bod.bip 61 (by decide) dc_288_478 ?_
  refine Bod.icF dc_288_480 rfl (k2_ne_F (k_eq 61 61 rfl rfl (by omega))) ?_
  refine Bod.ildG dc_288_483 (by repeat (first | exact h7 | exact sm_get_p1 | exact sm_get_p2e | refine sm_get_p1m (by decide) (by decide) ?_ | refine sm_get_p1n (by decide) rfl ?_ | refine sm_get_p2n (by decide) (by decide) rfl ?_)) ?_
  refine Bod.bip 61 (by decide) dc_288_485 ?_
  refine Bod.icF dc_288_487 rfl (k2_eq_F (k_ne 45 61 rfl rfl (by omega) (by omega) (by omega))) ?_
  refine Bod.ildG dc_288_490 (by repeat (first | exact h7 | exact sm_get_p1 | exact sm_get_p2e | refine sm_get_p1m (by decide) (by decide) ?_ | refine sm_get_p1n (by decide) rfl ?_ | refine sm_get_p2n (by decide) (by decide) rfl ?_)) ?_
  refine Bod.bip 33 (by decide) dc_288_492 ?_
  refine Bod.icF dc_288_494 rfl (k2_eq_F (k_ne 45 33 rfl rfl (by omega) (by omega) (by omega))) ?_
  refine Bod.ildG dc_288_497 (by repeat (first | exact h7 | exact sm_get_p1 | exact sm_get_p2e | refine sm_get_p1m (by decide) (by decide) ?_ | refine sm_get_p1n (by decide) rfl ?_ | refine sm_get_p2n (by decide) (by decide) rfl ?_)) ?_
  refine Bod.bip 60 (by decide) dc_288_499 ?_
  refine Bod.icF dc_288_501 rfl (k2_eq_F (k_ne 45 60 rfl rfl (by omega) (by omega) (by omega))) ?_
  refine Bod.ildG dc_288_504 (by repeat (first | exact h7 | exact sm_get_p1 | exact sm_get_p2e | refine sm_get_p1m (by decide) (by decide) ?_ | refine sm_get_p1n (by decide) rfl ?_ | refine sm_get_p2n (by decide) (by decide) rfl ?_)) ?_
  refine Bod.bip 62 (by decide) dc_288_506 ?_
  refine Bod.icF dc_288_508 rfl (k2_eq_F (k_ne 45 62 rfl rfl (by omega) (by omega) (by omega))) ?_
  refine Bod.ildG dc_288_511 (by repeat (first | exact h7 | exact sm_get_p1 | exact sm_get_p2e | refine sm_get_p1m (by decide) (by decide) ?_ | refine sm_get_p1n (by decide) rfl ?_ | refine sm_get_p2n (by decide) (by decide) rfl ?_)) ?_
  refine Bod.bip 43 (by decide) dc_288_513 ?_
  refine Bod.icF dc_288_515 rfl (k2_eq_F (k_ne 45 43 rfl rfl (by omega) (by omega) (by omega))) ?_
  refine Bod.ildG dc_288_518 (by repeat (first | exact h7 | exact sm_get_p1 | exact sm_get_p2e | refine sm_get_p1m (by decide) (by decide) ?_ | refine sm_get_p1n (by decide) rfl ?_ | refine sm_get_p2n (by decide) (by decide) rfl ?_)) ?_
  refine Bod.bip 45 (by decide) dc_288_520 ?_
  refine Bod.icT dc_288_522 rfl (k2_eq_T (k_eq 45 45 rfl rfl (by omega))) ?_
  refine Bod.ic 1 (by decide) dc_288_546 ?_
  refine Bod.go dc_288_547 rfl ?_
  refine Bod.ist dc_288_551 (by rw [ml_288]; exact Nat.le_of_ble_eq_true rfl) ?_
  refine Bod.ildG dc_288_553 (by repeat (first | exact h7 | exact sm_get_p1 | exact sm_get_p2e | refine sm_get_p1m (by decide) (by decide) ?_ | refine sm_get_p1n (by decide) rfl ?_ | refine sm_get_p2n (by decide) (by decide) rfl ?_)) ?_
  refine Bod.bip 40 (by decide) dc_288_555 ?_
  refine Bod.icF dc_288_557 rfl (k2_eq_F (k_ne 45 40 rfl rfl (by omega) (by omega) (by omega))) ?_
  refine Bod.ildG dc_288_560 (by repeat (first | exact h7 | exact sm_get_p1 | exact sm_get_p2e | refine sm_get_p1m (by decide) (by decide) ?_ | refine sm_get_p1n (by decide) rfl ?_ | refine sm_get_p2n (by decide) (by decide) rfl ?_)) ?_
  refine Bod.bip 41 (by decide) dc_288_562 ?_
  refine Bod.icF dc_288_564 rfl (k2_eq_F (k_ne 45 41 rfl rfl (by omega) (by omega) (by omega))) ?_
  refine Bod.ildG dc_288_567 (by repeat (first | exact h7 | exact sm_get_p1 | exact sm_get_p2e | refine sm_get_p1m (by decide) (by decide) ?_ | refine sm_get_p1n (by decide) rfl ?_ | refine sm_get_p2n (by decide) (by decide) rfl ?_)) ?_
  refine Bod.bip 91 (by decide) dc_288_569 ?_
  refine Bod.icF dc_288_571 rfl (k2_eq_F (k_ne 45 91 rfl rfl (by omega) (by omega) (by omega))) ?_
  refine Bod.ildG dc_288_574 (by repeat (first | exact h7 | exact sm_get_p1 | exact sm_get_p2e | refine sm_get_p1m (by decide) (by decide) ?_ | refine sm_get_p1n (by decide) rfl ?_ | refine sm_get_p2n (by decide) (by decide) rfl ?_)) ?_
  refine Bod.bip 93 (by decide) dc_288_576 ?_
  refine Bod.icF dc_288_578 rfl (k2_eq_F (k_ne 45 93 rfl rfl (by omega) (by omega) (by omega))) ?_
  refine Bod.ildG dc_288_581 (by repeat (first | exact h7 | exact sm_get_p1 | exact sm_get_p2e | refine sm_get_p1m (by decide) (by decide) ?_ | refine sm_get_p1n (by decide) rfl ?_ | refine sm_get_p2n (by decide) (by decide) rfl ?_)) ?_
  refine Bod.bip 123 (by decide) dc_288_583 ?_
  refine Bod.icF dc_288_585 rfl (k2_eq_F (k_ne 45 123 rfl rfl (by omega) (by omega) (by omega))) ?_
  refine Bod.ildG dc_288_588 (by repeat (first | exact h7 | exact sm_get_p1 | exact sm_get_p2e | refine sm_get_p1m (by decide) (by decide) ?_ | refine sm_get_p1n (by decide) rfl ?_ | refine sm_get_p2n (by decide) (by decide) rfl ?_)) ?_
  refine Bod.bip 125 (by decide) dc_288_590 ?_
  refine Bod.icF dc_288_592 rfl (k2_eq_F (k_ne 45 125 rfl rfl (by omega) (by omega) (by omega))) ?_
  refine Bod.ildG dc_288_595 (by repeat (first | exact h7 | exact sm_get_p1 | exact sm_get_p2e | refine sm_get_p1m (by decide) (by decide) ?_ | refine sm_get_p1n (by decide) rfl ?_ | refine sm_get_p2n (by decide) (by decide) rfl ?_)) ?_
  refine Bod.bip 44 (by decide) dc_288_597 ?_
  refine Bod.icF dc_288_599 rfl (k2_eq_F (k_ne 45 44 rfl rfl (by omega) (by omega) (by omega))) ?_
  refine Bod.ildG dc_288_602 (by repeat (first | exact h7 | exact sm_get_p1 | exact sm_get_p2e | refine sm_get_p1m (by decide) (by decide) ?_ | refine sm_get_p1n (by decide) rfl ?_ | refine sm_get_p2n (by decide) (by decide) rfl ?_)) ?_
  refine Bod.bip 58 (by decide) dc_288_604 ?_
  refine Bod.icF dc_288_606 rfl (k2_eq_F (k_ne 45 58 rfl rfl (by omega) (by omega) (by omega))) ?_
  refine Bod.ildG dc_288_609 (by repeat (first | exact h7 | exact sm_get_p1 | exact sm_get_p2e | refine sm_get_p1m (by decide) (by decide) ?_ | refine sm_get_p1n (by decide) rfl ?_ | refine sm_get_p2n (by decide) (by decide) rfl ?_)) ?_
  refine Bod.bip 46 (by decide) dc_288_611 ?_
  refine Bod.icF dc_288_613 rfl (k2_eq_F (k_ne 45 46 rfl rfl (by omega) (by omega) (by omega))) ?_
  refine Bod.ildG dc_288_616 (by repeat (first | exact h7 | exact sm_get_p1 | exact sm_get_p2e | refine sm_get_p1m (by decide) (by decide) ?_ | refine sm_get_p1n (by decide) rfl ?_ | refine sm_get_p2n (by decide) (by decide) rfl ?_)) ?_
  refine Bod.bip 43 (by decide) dc_288_618 ?_
  refine Bod.icF dc_288_620 rfl (k2_eq_F (k_ne 45 43 rfl rfl (by omega) (by omega) (by omega))) ?_
  refine Bod.ildG dc_288_623 (by repeat (first | exact h7 | exact sm_get_p1 | exact sm_get_p2e | refine sm_get_p1m (by decide) (by decide) ?_ | refine sm_get_p1n (by decide) rfl ?_ | refine sm_get_p2n (by decide) (by decide) rfl ?_)) ?_
  refine Bod.bip 45 (by decide) dc_288_625 ?_
  refine Bod.icT dc_288_627 rfl (k2_eq_T (k_eq 45 45 rfl rfl (by omega))) ?_
  refine Bod.ic 1 (by decide) dc_288_665 ?_
  refine Bod.go dc_288_666 rfl ?_
  refine Bod.ist dc_288_670 (by rw [ml_288]; exact Nat.le_of_ble_eq_true rfl) ?_
  refine Bod.aldnG dc_288_672 (by repeat (first | exact h0 | exact sm_get_p1 | exact sm_get_p2e | refine sm_get_p1m (by decide) (by decide) ?_ | refine sm_get_p1n (by decide) rfl ?_ | refine sm_get_p2n (by decide) (by decide) rfl ?_)) ?_
  refine Bod.go dc_288_673 rfl ?_
  refine Bod.ifT dc_288_675 rfl (k1_ne_T (k_ne 1 0 rfl rfl (by omega) (by omega) (by omega))) ?_
  refine Bod.ic 5 (by decide) dc_288_683 ?_
  refine Bod.go dc_288_684 rfl ?_
  refine Bod.go dc_288_689 rfl ?_
  refine Bod.ifF dc_288_691 rfl (k1_eq_F (k_ne 1 0 rfl rfl (by omega) (by omega) (by omega))) ?_
  refine Bod.sip 256 (by decide) dc_288_694 ?_
  refine Bod.ildG dc_288_697 (by repeat (first | exact h7 | exact sm_get_p1 | exact sm_get_p2e | refine sm_get_p1m (by decide) (by decide) ?_ | refine sm_get_p1n (by decide) rfl ?_ | refine sm_get_p2n (by decide) (by decide) rfl ?_)) ?_
  refine Bod.mulN 11520 (by omega) dc_288_699 ?_
  refine Bod.ildG dc_288_700 (by repeat (first | exact hd | exact sm_get_p1 | exact sm_get_p2e | refine sm_get_p1m (by decide) (by decide) ?_ | refine sm_get_p1n (by decide) rfl ?_ | refine sm_get_p2n (by decide) (by decide) rfl ?_)) ?_
  refine Bod.addN 11581 (by omega) dc_288_702 ?_
  refine Bod.go dc_288_703 rfl ?_
  refine Bod.ildG dc_288_708 (by repeat (first | exact h4 | exact sm_get_p1 | exact sm_get_p2e | refine sm_get_p1m (by decide) (by decide) ?_ | refine sm_get_p1n (by decide) rfl ?_ | refine sm_get_p2n (by decide) (by decide) rfl ?_)) ?_
  refine Bod.ildG dc_288_710 (by repeat (first | exact h5 | exact sm_get_p1 | exact sm_get_p2e | refine sm_get_p1m (by decide) (by decide) ?_ | refine sm_get_p1n (by decide) rfl ?_ | refine sm_get_p2n (by decide) (by decide) rfl ?_)) ?_
  refine Bod.virt (r := []) dc_288_712 kr_288_151 ⟨Or.inl rfl, ow_293, cl_14⟩ (by rw [np_293]; rfl) (by rw [np_293]; rfl) (ob_of (mk_61 _)) (Nat.le_of_ble_eq_true rfl) (tok_ev (t := t) (kd := (nI 5)) (vl := (nI 11581)) (ln := (nI l)) (bl := (nI bl)) (by first | assumption | rfl | exact congrArg nI (by omega) | (simp (disch := omega) only [rI, rIe, rA, rIA, rLA, rJA, rVI, rQI, rVA, rQA, upd_at,  rAI, rLI, rJI, nI_add, pk_sub, kc_0, kc_1, kc_2, kc_3, kc_4, kc_5, reduceIte, Nat.reduceEqDiff, Nat.add_zero, rI_hold, rI_hold, rL_hold, ht]; done)) (by omega)) ?_
  show Bod _ _ _ _ [] _ _ _
  refine Bod.ildG dc_288_715 (by repeat (first | exact h6 | exact sm_get_p1 | exact sm_get_p2e | refine sm_get_p1m (by decide) (by decide) ?_ | refine sm_get_p1n (by decide) rfl ?_ | refine sm_get_p2n (by decide) (by decide) rfl ?_)) ?_
  refine Bod.go dc_288_717 rfl ?_
  refine Bod.ifF dc_288_719 rfl (k1_eq_F (k_ne 1 0 rfl rfl (by omega) (by omega) (by omega))) ?_
  refine Bod.ic 2 (by decide) dc_288_722 ?_
  refine Bod.go dc_288_723 rfl ?_
  refine Bod.addN (p + 2) (by omega) dc_288_727 ?_
  refine Bod.ist dc_288_728 (by rw [ml_288]; exact Nat.le_of_ble_eq_true rfl) ?_
  refine Bod.go dc_288_730 rfl ?_
  exact hB _ (by repeat (first | exact h0 | exact sm_get_p1 | exact sm_get_p2e | refine sm_get_p1m (by decide) (by decide) ?_ | refine sm_get_p1n (by decide) rfl ?_ | refine sm_get_p2n (by decide) (by decide) rfl ?_)) (by repeat (first | exact h1 | exact sm_get_p1 | exact sm_get_p2e | refine sm_get_p1m (by decide) (by decide) ?_ | refine sm_get_p1n (by decide) rfl ?_ | refine sm_get_p2n (by decide) (by decide) rfl ?_)) (by repeat (first | exact h3 | exact sm_get_p1 | exact sm_get_p2e | refine sm_get_p1m (by decide) (by decide) ?_ | refine sm_get_p1n (by decide) rfl ?_ | refine sm_get_p2n (by decide) (by decide) rfl ?_)) (by repeat (first | exact h4 | exact sm_get_p1 | exact sm_get_p2e | refine sm_get_p1m (by decide) (by decide) ?_ | refine sm_get_p1n (by decide) rfl ?_ | refine sm_get_p2n (by decide) (by decide) rfl ?_)) (by repeat (first | exact h5 | exact sm_get_p1 | exact sm_get_p2e | refine sm_get_p1m (by decide) (by decide) ?_ | refine sm_get_p1n (by decide) rfl ?_ | refine sm_get_p2n (by decide) (by decide) rfl ?_)) (by repeat (first | exact h6 | exact sm_get_p1 | exact sm_get_p2e | refine sm_get_p1m (by decide) (by decide) ?_ | refine sm_get_p1n (by decide) rfl ?_ | refine sm_get_p2n (by decide) (by decide) rfl ?_))
theorem rs_45_n {d : Nat} {S Sf : cS} {lv : sm_L} {v : Option Value} {e : Nat} {l : Nat} {bl : Nat} {p : Nat} {x : Int32} {st : Nat} {dd : Int32} {t : Nat} (heM : e ≤ 3000) (hp : p ≤ e) (h0 : sm_get lv 0 = some (.ref 61)) (h1 : sm_get lv 1 = some (.ref 107)) (h3 : sm_get lv 3 = some (.int (nI e))) (h4 : sm_get lv 4 = some (.int (nI l))) (h5 : sm_get lv 5 = some (.int (nI bl))) (h6 : sm_get lv 6 = some (.int (nI p))) (h7 : sm_get lv 7 = some (.int (nI 45))) (h8 : sm_get lv 8 = some (.int (nI st))) (hd : sm_get lv 9 = some (.int dd)) (n61 : dd ≠ nI 61) (ht : sI S 6112 = nI t) (htM : t < 6002) (hB : ∀ lv1 : sm_L, sm_get lv1 0 = some (.ref 61) → sm_get lv1 1 = some (.ref 107) → sm_get lv1 3 = some (.int (nI e)) → sm_get lv1 4 = some (.int (nI l)) → sm_get lv1 5 = some (.int (nI bl)) → sm_get lv1 6 = some (.int (nI (p + 1))) → Bod (d + 8) 288 3 lv1 [] (wI 6112 (nI (t + 1)) (wA 70 t ((nI bl)) (wA 69 t ((nI l)) (wA 68 t ((nI 45)) (wA 67 t ((nI 5)) S))))) v Sf) : Bod (d + 8) 288 476 lv [] S v Sf := by
  refine Bod.ildG dc_288_476 (by repeat (first | exact hd | exact sm_get_p1 | exact sm_get_p2e | refine sm_get_p1m (by decide) (by decide) ?_ | refine sm_get_p1n (by decide) rfl ?_ | refine sm_get_p2n (by decide) (by decide) rfl ?_)) ?_
  refine Bod.bip 61 (by decide) dc_288_478 ?_
  refine Bod.icT dc_288_480 rfl (k2_ne_T n61) ?_
  refine Bod.ildG dc_288_532 (by repeat (first | exact h7 | exact sm_get_p1 | exact sm_get_p2e | refine sm_get_p1m (by decide) (by decide) ?_ | refine sm_get_p1n (by decide) rfl ?_ | refine sm_get_p2n (by decide) (by decide) rfl ?_)) ?_
  refine Bod.bip 47 (by decide) dc_288_534 ?_
  refine Bod.icT dc_288_536 rfl (k2_ne_T (k_ne 45 47 rfl rfl (by omega) (by omega) (by omega))) ?_
  refine Bod.ic 0 (by decide) dc_288_550 ?_
  refine Bod.ist dc_288_551 (by rw [ml_288]; exact Nat.le_of_ble_eq_true rfl) ?_
  refine Bod.ildG dc_288_553 (by repeat (first | exact h7 | exact sm_get_p1 | exact sm_get_p2e | refine sm_get_p1m (by decide) (by decide) ?_ | refine sm_get_p1n (by decide) rfl ?_ | refine sm_get_p2n (by decide) (by decide) rfl ?_)) ?_
  refine Bod.bip 40 (by decide) dc_288_555 ?_
  refine Bod.icF dc_288_557 rfl (k2_eq_F (k_ne 45 40 rfl rfl (by omega) (by omega) (by omega))) ?_
  refine Bod.ildG dc_288_560 (by repeat (first | exact h7 | exact sm_get_p1 | exact sm_get_p2e | refine sm_get_p1m (by decide) (by decide) ?_ | refine sm_get_p1n (by decide) rfl ?_ | refine sm_get_p2n (by decide) (by decide) rfl ?_)) ?_
  refine Bod.bip 41 (by decide) dc_288_562 ?_
  refine Bod.icF dc_288_564 rfl (k2_eq_F (k_ne 45 41 rfl rfl (by omega) (by omega) (by omega))) ?_
  refine Bod.ildG dc_288_567 (by repeat (first | exact h7 | exact sm_get_p1 | exact sm_get_p2e | refine sm_get_p1m (by decide) (by decide) ?_ | refine sm_get_p1n (by decide) rfl ?_ | refine sm_get_p2n (by decide) (by decide) rfl ?_)) ?_
  refine Bod.bip 91 (by decide) dc_288_569 ?_
  refine Bod.icF dc_288_571 rfl (k2_eq_F (k_ne 45 91 rfl rfl (by omega) (by omega) (by omega))) ?_
  refine Bod.ildG dc_288_574 (by repeat (first | exact h7 | exact sm_get_p1 | exact sm_get_p2e | refine sm_get_p1m (by decide) (by decide) ?_ | refine sm_get_p1n (by decide) rfl ?_ | refine sm_get_p2n (by decide) (by decide) rfl ?_)) ?_
  refine Bod.bip 93 (by decide) dc_288_576 ?_
  refine Bod.icF dc_288_578 rfl (k2_eq_F (k_ne 45 93 rfl rfl (by omega) (by omega) (by omega))) ?_
  refine Bod.ildG dc_288_581 (by repeat (first | exact h7 | exact sm_get_p1 | exact sm_get_p2e | refine sm_get_p1m (by decide) (by decide) ?_ | refine sm_get_p1n (by decide) rfl ?_ | refine sm_get_p2n (by decide) (by decide) rfl ?_)) ?_
  refine Bod.bip 123 (by decide) dc_288_583 ?_
  refine Bod.icF dc_288_585 rfl (k2_eq_F (k_ne 45 123 rfl rfl (by omega) (by omega) (by omega))) ?_
  refine Bod.ildG dc_288_588 (by repeat (first | exact h7 | exact sm_get_p1 | exact sm_get_p2e | refine sm_get_p1m (by decide) (by decide) ?_ | refine sm_get_p1n (by decide) rfl ?_ | refine sm_get_p2n (by decide) (by decide) rfl ?_)) ?_
  refine Bod.bip 125 (by decide) dc_288_590 ?_
  refine Bod.icF dc_288_592 rfl (k2_eq_F (k_ne 45 125 rfl rfl (by omega) (by omega) (by omega))) ?_
  refine Bod.ildG dc_288_595 (by repeat (first | exact h7 | exact sm_get_p1 | exact sm_get_p2e | refine sm_get_p1m (by decide) (by decide) ?_ | refine sm_get_p1n (by decide) rfl ?_ | refine sm_get_p2n (by decide) (by decide) rfl ?_)) ?_
  refine Bod.bip 44 (by decide) dc_288_597 ?_
  refine Bod.icF dc_288_599 rfl (k2_eq_F (k_ne 45 44 rfl rfl (by omega) (by omega) (by omega))) ?_
  refine Bod.ildG dc_288_602 (by repeat (first | exact h7 | exact sm_get_p1 | exact sm_get_p2e | refine sm_get_p1m (by decide) (by decide) ?_ | refine sm_get_p1n (by decide) rfl ?_ | refine sm_get_p2n (by decide) (by decide) rfl ?_)) ?_
  refine Bod.bip 58 (by decide) dc_288_604 ?_
  refine Bod.icF dc_288_606 rfl (k2_eq_F (k_ne 45 58 rfl rfl (by omega) (by omega) (by omega))) ?_
  refine Bod.ildG dc_288_609 (by repeat (first | exact h7 | exact sm_get_p1 | exact sm_get_p2e | refine sm_get_p1m (by decide) (by decide) ?_ | refine sm_get_p1n (by decide) rfl ?_ | refine sm_get_p2n (by decide) (by decide) rfl ?_)) ?_
  refine Bod.bip 46 (by decide) dc_288_611 ?_
  refine Bod.icF dc_288_613 rfl (k2_eq_F (k_ne 45 46 rfl rfl (by omega) (by omega) (by omega))) ?_
  refine Bod.ildG dc_288_616 (by repeat (first | exact h7 | exact sm_get_p1 | exact sm_get_p2e | refine sm_get_p1m (by decide) (by decide) ?_ | refine sm_get_p1n (by decide) rfl ?_ | refine sm_get_p2n (by decide) (by decide) rfl ?_)) ?_
  refine Bod.bip 43 (by decide) dc_288_618 ?_
  refine Bod.icF dc_288_620 rfl (k2_eq_F (k_ne 45 43 rfl rfl (by omega) (by omega) (by omega))) ?_
  refine Bod.ildG dc_288_623 (by repeat (first | exact h7 | exact sm_get_p1 | exact sm_get_p2e | refine sm_get_p1m (by decide) (by decide) ?_ | refine sm_get_p1n (by decide) rfl ?_ | refine sm_get_p2n (by decide) (by decide) rfl ?_)) ?_
  refine Bod.bip 45 (by decide) dc_288_625 ?_
  refine Bod.icT dc_288_627 rfl (k2_eq_T (k_eq 45 45 rfl rfl (by omega))) ?_
  refine Bod.ic 1 (by decide) dc_288_665 ?_
  refine Bod.go dc_288_666 rfl ?_
  refine Bod.ist dc_288_670 (by rw [ml_288]; exact Nat.le_of_ble_eq_true rfl) ?_
  refine Bod.aldnG dc_288_672 (by repeat (first | exact h0 | exact sm_get_p1 | exact sm_get_p2e | refine sm_get_p1m (by decide) (by decide) ?_ | refine sm_get_p1n (by decide) rfl ?_ | refine sm_get_p2n (by decide) (by decide) rfl ?_)) ?_
  refine Bod.go dc_288_673 rfl ?_
  refine Bod.ifF dc_288_675 rfl (k1_ne_F (k_eq 0 0 rfl rfl (by omega))) ?_
  refine Bod.go dc_288_678 rfl ?_
  refine Bod.ifF dc_288_680 rfl (k1_eq_F (k_ne 1 0 rfl rfl (by omega) (by omega) (by omega))) ?_
  refine Bod.ic 5 (by decide) dc_288_683 ?_
  refine Bod.go dc_288_684 rfl ?_
  refine Bod.go dc_288_689 rfl ?_
  refine Bod.ifT dc_288_691 rfl (k1_eq_T (k_eq 0 0 rfl rfl (by omega))) ?_
  refine Bod.ildG dc_288_706 (by repeat (first | exact h7 | exact sm_get_p1 | exact sm_get_p2e | refine sm_get_p1m (by decide) (by decide) ?_ | refine sm_get_p1n (by decide) rfl ?_ | refine sm_get_p2n (by decide) (by decide) rfl ?_)) ?_
  refine Bod.ildG dc_288_708 (by repeat (first | exact h4 | exact sm_get_p1 | exact sm_get_p2e | refine sm_get_p1m (by decide) (by decide) ?_ | refine sm_get_p1n (by decide) rfl ?_ | refine sm_get_p2n (by decide) (by decide) rfl ?_)) ?_
  refine Bod.ildG dc_288_710 (by repeat (first | exact h5 | exact sm_get_p1 | exact sm_get_p2e | refine sm_get_p1m (by decide) (by decide) ?_ | refine sm_get_p1n (by decide) rfl ?_ | refine sm_get_p2n (by decide) (by decide) rfl ?_)) ?_
  refine Bod.virt (r := []) dc_288_712 kr_288_151 ⟨Or.inl rfl, ow_293, cl_14⟩ (by rw [np_293]; rfl) (by rw [np_293]; rfl) (ob_of (mk_61 _)) (Nat.le_of_ble_eq_true rfl) (tok_ev (t := t) (kd := (nI 5)) (vl := (nI 45)) (ln := (nI l)) (bl := (nI bl)) (by first | assumption | rfl | exact congrArg nI (by omega) | (simp (disch := omega) only [rI, rIe, rA, rIA, rLA, rJA, rVI, rQI, rVA, rQA, upd_at,  rAI, rLI, rJI, nI_add, pk_sub, kc_0, kc_1, kc_2, kc_3, kc_4, kc_5, reduceIte, Nat.reduceEqDiff, Nat.add_zero, rI_hold, rI_hold, rL_hold, ht]; done)) (by omega)) ?_
  show Bod _ _ _ _ [] _ _ _
  refine Bod.ildG dc_288_715 (by repeat (first | exact h6 | exact sm_get_p1 | exact sm_get_p2e | refine sm_get_p1m (by decide) (by decide) ?_ | refine sm_get_p1n (by decide) rfl ?_ | refine sm_get_p2n (by decide) (by decide) rfl ?_)) ?_
  refine Bod.go dc_288_717 rfl ?_
  refine Bod.ifT dc_288_719 rfl (k1_eq_T (k_eq 0 0 rfl rfl (by omega))) ?_
  refine Bod.ic 1 (by decide) dc_288_726 ?_
  refine Bod.addN (p + 1) (by omega) dc_288_727 ?_
  refine Bod.ist dc_288_728 (by rw [ml_288]; exact Nat.le_of_ble_eq_true rfl) ?_
  refine Bod.go dc_288_730 rfl ?_
  exact hB _ (by repeat (first | exact h0 | exact sm_get_p1 | exact sm_get_p2e | refine sm_get_p1m (by decide) (by decide) ?_ | refine sm_get_p1n (by decide) rfl ?_ | refine sm_get_p2n (by decide) (by decide) rfl ?_)) (by repeat (first | exact h1 | exact sm_get_p1 | exact sm_get_p2e | refine sm_get_p1m (by decide) (by decide) ?_ | refine sm_get_p1n (by decide) rfl ?_ | refine sm_get_p2n (by decide) (by decide) rfl ?_)) (by repeat (first | exact h3 | exact sm_get_p1 | exact sm_get_p2e | refine sm_get_p1m (by decide) (by decide) ?_ | refine sm_get_p1n (by decide) rfl ?_ | refine sm_get_p2n (by decide) (by decide) rfl ?_)) (by repeat (first | exact h4 | exact sm_get_p1 | exact sm_get_p2e | refine sm_get_p1m (by decide) (by decide) ?_ | refine sm_get_p1n (by decide) rfl ?_ | refine sm_get_p2n (by decide) (by decide) rfl ?_)) (by repeat (first | exact h5 | exact sm_get_p1 | exact sm_get_p2e | refine sm_get_p1m (by decide) (by decide) ?_ | refine sm_get_p1n (by decide) rfl ?_ | refine sm_get_p2n (by decide) (by decide) rfl ?_)) (by repeat (first | exact h6 | exact sm_get_p1 | exact sm_get_p2e | refine sm_get_p1m (by decide) (by decide) ?_ | refine sm_get_p1n (by decide) rfl ?_ | refine sm_get_p2n (by decide) (by decide) rfl ?_))
theorem rs_46_61 {d : Nat} {S Sf : cS} {lv : sm_L} {v : Option Value} {e : Nat} {l : Nat} {bl : Nat} {p : Nat} {x : Int32} {st : Nat} {t : Nat} (heM : e ≤ 3000) (hp : p ≤ e) (h0 : sm_get lv 0 = some (.ref 61)) (h1 : sm_get lv 1 = some (.ref 107)) (h3 : sm_get lv 3 = some (.int (nI e))) (h4 : sm_get lv 4 = some (.int (nI l))) (h5 : sm_get lv 5 = some (.int (nI bl))) (h6 : sm_get lv 6 = some (.int (nI p))) (h7 : sm_get lv 7 = some (.int (nI 46))) (h8 : sm_get lv 8 = some (.int (nI st))) (hd : sm_get lv 9 = some (.int (nI 61))) (ht : sI S 6112 = nI t) (htM : t < 6002) (hB : ∀ lv1 : sm_L, sm_get lv1 0 = some (.ref 61) → sm_get lv1 1 = some (.ref 107) → sm_get lv1 3 = some (.int (nI e)) → sm_get lv1 4 = some (.int (nI l)) → sm_get lv1 5 = some (.int (nI bl)) → sm_get lv1 6 = some (.int (nI (p + 1))) → Bod (d + 8) 288 3 lv1 [] (wI 6112 (nI (t + 1)) (wA 70 t ((nI bl)) (wA 69 t ((nI l)) (wA 68 t ((nI 46)) (wA 67 t ((nI 5)) S))))) v Sf) : Bod (d + 8) 288 476 lv [] S v Sf := by
  refine Bod.ildG dc_288_476 (by repeat (first | exact hd | exact sm_get_p1 | exact sm_get_p2e | refine sm_get_p1m (by decide) (by decide) ?_ | refine sm_get_p1n (by decide) rfl ?_ | refine sm_get_p2n (by decide) (by decide) rfl ?_)) ?_
  refine Bod.bip 61 (by decide) dc_288_478 ?_
  refine Bod.icF dc_288_480 rfl (k2_ne_F (k_eq 61 61 rfl rfl (by omega))) ?_
  refine Bod.ildG dc_288_483 (by repeat (first | exact h7 | exact sm_get_p1 | exact sm_get_p2e | refine sm_get_p1m (by decide) (by decide) ?_ | refine sm_get_p1n (by decide) rfl ?_ | refine sm_get_p2n (by decide) (by decide) rfl ?_)) ?_
  refine Bod.bip 61 (by decide) dc_288_485 ?_
  refine Bod.icF dc_288_487 rfl (k2_eq_F (k_ne 46 61 rfl rfl (by omega) (by omega) (by omega))) ?_
  refine Bod.ildG dc_288_490 (by repeat (first | exact h7 | exact sm_get_p1 | exact sm_get_p2e | refine sm_get_p1m (by decide) (by decide) ?_ | refine sm_get_p1n (by decide) rfl ?_ | refine sm_get_p2n (by decide) (by decide) rfl ?_)) ?_
  refine Bod.bip 33 (by decide) dc_288_492 ?_
  refine Bod.icF dc_288_494 rfl (k2_eq_F (k_ne 46 33 rfl rfl (by omega) (by omega) (by omega))) ?_
  refine Bod.ildG dc_288_497 (by repeat (first | exact h7 | exact sm_get_p1 | exact sm_get_p2e | refine sm_get_p1m (by decide) (by decide) ?_ | refine sm_get_p1n (by decide) rfl ?_ | refine sm_get_p2n (by decide) (by decide) rfl ?_)) ?_
  refine Bod.bip 60 (by decide) dc_288_499 ?_
  refine Bod.icF dc_288_501 rfl (k2_eq_F (k_ne 46 60 rfl rfl (by omega) (by omega) (by omega))) ?_
  refine Bod.ildG dc_288_504 (by repeat (first | exact h7 | exact sm_get_p1 | exact sm_get_p2e | refine sm_get_p1m (by decide) (by decide) ?_ | refine sm_get_p1n (by decide) rfl ?_ | refine sm_get_p2n (by decide) (by decide) rfl ?_)) ?_
  refine Bod.bip 62 (by decide) dc_288_506 ?_
  refine Bod.icF dc_288_508 rfl (k2_eq_F (k_ne 46 62 rfl rfl (by omega) (by omega) (by omega))) ?_
  refine Bod.ildG dc_288_511 (by repeat (first | exact h7 | exact sm_get_p1 | exact sm_get_p2e | refine sm_get_p1m (by decide) (by decide) ?_ | refine sm_get_p1n (by decide) rfl ?_ | refine sm_get_p2n (by decide) (by decide) rfl ?_)) ?_
  refine Bod.bip 43 (by decide) dc_288_513 ?_
  refine Bod.icF dc_288_515 rfl (k2_eq_F (k_ne 46 43 rfl rfl (by omega) (by omega) (by omega))) ?_
  refine Bod.ildG dc_288_518 (by repeat (first | exact h7 | exact sm_get_p1 | exact sm_get_p2e | refine sm_get_p1m (by decide) (by decide) ?_ | refine sm_get_p1n (by decide) rfl ?_ | refine sm_get_p2n (by decide) (by decide) rfl ?_)) ?_
  refine Bod.bip 45 (by decide) dc_288_520 ?_
  refine Bod.icF dc_288_522 rfl (k2_eq_F (k_ne 46 45 rfl rfl (by omega) (by omega) (by omega))) ?_
  refine Bod.ildG dc_288_525 (by repeat (first | exact h7 | exact sm_get_p1 | exact sm_get_p2e | refine sm_get_p1m (by decide) (by decide) ?_ | refine sm_get_p1n (by decide) rfl ?_ | refine sm_get_p2n (by decide) (by decide) rfl ?_)) ?_
  refine Bod.bip 42 (by decide) dc_288_527 ?_
  refine Bod.icF dc_288_529 rfl (k2_eq_F (k_ne 46 42 rfl rfl (by omega) (by omega) (by omega))) ?_
  refine Bod.ildG dc_288_532 (by repeat (first | exact h7 | exact sm_get_p1 | exact sm_get_p2e | refine sm_get_p1m (by decide) (by decide) ?_ | refine sm_get_p1n (by decide) rfl ?_ | refine sm_get_p2n (by decide) (by decide) rfl ?_)) ?_
  refine Bod.bip 47 (by decide) dc_288_534 ?_
  refine Bod.icT dc_288_536 rfl (k2_ne_T (k_ne 46 47 rfl rfl (by omega) (by omega) (by omega))) ?_
  refine Bod.ic 0 (by decide) dc_288_550 ?_
  refine Bod.ist dc_288_551 (by rw [ml_288]; exact Nat.le_of_ble_eq_true rfl) ?_
  refine Bod.ildG dc_288_553 (by repeat (first | exact h7 | exact sm_get_p1 | exact sm_get_p2e | refine sm_get_p1m (by decide) (by decide) ?_ | refine sm_get_p1n (by decide) rfl ?_ | refine sm_get_p2n (by decide) (by decide) rfl ?_)) ?_
  refine Bod.bip 40 (by decide) dc_288_555 ?_
  refine Bod.icF dc_288_557 rfl (k2_eq_F (k_ne 46 40 rfl rfl (by omega) (by omega) (by omega))) ?_
  refine Bod.ildG dc_288_560 (by repeat (first | exact h7 | exact sm_get_p1 | exact sm_get_p2e | refine sm_get_p1m (by decide) (by decide) ?_ | refine sm_get_p1n (by decide) rfl ?_ | refine sm_get_p2n (by decide) (by decide) rfl ?_)) ?_
  refine Bod.bip 41 (by decide) dc_288_562 ?_
  refine Bod.icF dc_288_564 rfl (k2_eq_F (k_ne 46 41 rfl rfl (by omega) (by omega) (by omega))) ?_
  refine Bod.ildG dc_288_567 (by repeat (first | exact h7 | exact sm_get_p1 | exact sm_get_p2e | refine sm_get_p1m (by decide) (by decide) ?_ | refine sm_get_p1n (by decide) rfl ?_ | refine sm_get_p2n (by decide) (by decide) rfl ?_)) ?_
  refine Bod.bip 91 (by decide) dc_288_569 ?_
  refine Bod.icF dc_288_571 rfl (k2_eq_F (k_ne 46 91 rfl rfl (by omega) (by omega) (by omega))) ?_
  refine Bod.ildG dc_288_574 (by repeat (first | exact h7 | exact sm_get_p1 | exact sm_get_p2e | refine sm_get_p1m (by decide) (by decide) ?_ | refine sm_get_p1n (by decide) rfl ?_ | refine sm_get_p2n (by decide) (by decide) rfl ?_)) ?_
  refine Bod.bip 93 (by decide) dc_288_576 ?_
  refine Bod.icF dc_288_578 rfl (k2_eq_F (k_ne 46 93 rfl rfl (by omega) (by omega) (by omega))) ?_
  refine Bod.ildG dc_288_581 (by repeat (first | exact h7 | exact sm_get_p1 | exact sm_get_p2e | refine sm_get_p1m (by decide) (by decide) ?_ | refine sm_get_p1n (by decide) rfl ?_ | refine sm_get_p2n (by decide) (by decide) rfl ?_)) ?_
  refine Bod.bip 123 (by decide) dc_288_583 ?_
  refine Bod.icF dc_288_585 rfl (k2_eq_F (k_ne 46 123 rfl rfl (by omega) (by omega) (by omega))) ?_
  refine Bod.ildG dc_288_588 (by repeat (first | exact h7 | exact sm_get_p1 | exact sm_get_p2e | refine sm_get_p1m (by decide) (by decide) ?_ | refine sm_get_p1n (by decide) rfl ?_ | refine sm_get_p2n (by decide) (by decide) rfl ?_)) ?_
  refine Bod.bip 125 (by decide) dc_288_590 ?_
  refine Bod.icF dc_288_592 rfl (k2_eq_F (k_ne 46 125 rfl rfl (by omega) (by omega) (by omega))) ?_
  refine Bod.ildG dc_288_595 (by repeat (first | exact h7 | exact sm_get_p1 | exact sm_get_p2e | refine sm_get_p1m (by decide) (by decide) ?_ | refine sm_get_p1n (by decide) rfl ?_ | refine sm_get_p2n (by decide) (by decide) rfl ?_)) ?_
  refine Bod.bip 44 (by decide) dc_288_597 ?_
  refine Bod.icF dc_288_599 rfl (k2_eq_F (k_ne 46 44 rfl rfl (by omega) (by omega) (by omega))) ?_
  refine Bod.ildG dc_288_602 (by repeat (first | exact h7 | exact sm_get_p1 | exact sm_get_p2e | refine sm_get_p1m (by decide) (by decide) ?_ | refine sm_get_p1n (by decide) rfl ?_ | refine sm_get_p2n (by decide) (by decide) rfl ?_)) ?_
  refine Bod.bip 58 (by decide) dc_288_604 ?_
  refine Bod.icF dc_288_606 rfl (k2_eq_F (k_ne 46 58 rfl rfl (by omega) (by omega) (by omega))) ?_
  refine Bod.ildG dc_288_609 (by repeat (first | exact h7 | exact sm_get_p1 | exact sm_get_p2e | refine sm_get_p1m (by decide) (by decide) ?_ | refine sm_get_p1n (by decide) rfl ?_ | refine sm_get_p2n (by decide) (by decide) rfl ?_)) ?_
  refine Bod.bip 46 (by decide) dc_288_611 ?_
  refine Bod.icT dc_288_613 rfl (k2_eq_T (k_eq 46 46 rfl rfl (by omega))) ?_
  refine Bod.ic 1 (by decide) dc_288_665 ?_
  refine Bod.go dc_288_666 rfl ?_
  refine Bod.ist dc_288_670 (by rw [ml_288]; exact Nat.le_of_ble_eq_true rfl) ?_
  refine Bod.aldnG dc_288_672 (by repeat (first | exact h0 | exact sm_get_p1 | exact sm_get_p2e | refine sm_get_p1m (by decide) (by decide) ?_ | refine sm_get_p1n (by decide) rfl ?_ | refine sm_get_p2n (by decide) (by decide) rfl ?_)) ?_
  refine Bod.go dc_288_673 rfl ?_
  refine Bod.ifF dc_288_675 rfl (k1_ne_F (k_eq 0 0 rfl rfl (by omega))) ?_
  refine Bod.go dc_288_678 rfl ?_
  refine Bod.ifF dc_288_680 rfl (k1_eq_F (k_ne 1 0 rfl rfl (by omega) (by omega) (by omega))) ?_
  refine Bod.ic 5 (by decide) dc_288_683 ?_
  refine Bod.go dc_288_684 rfl ?_
  refine Bod.go dc_288_689 rfl ?_
  refine Bod.ifT dc_288_691 rfl (k1_eq_T (k_eq 0 0 rfl rfl (by omega))) ?_
  refine Bod.ildG dc_288_706 (by repeat (first | exact h7 | exact sm_get_p1 | exact sm_get_p2e | refine sm_get_p1m (by decide) (by decide) ?_ | refine sm_get_p1n (by decide) rfl ?_ | refine sm_get_p2n (by decide) (by decide) rfl ?_)) ?_
  refine Bod.ildG dc_288_708 (by repeat (first | exact h4 | exact sm_get_p1 | exact sm_get_p2e | refine sm_get_p1m (by decide) (by decide) ?_ | refine sm_get_p1n (by decide) rfl ?_ | refine sm_get_p2n (by decide) (by decide) rfl ?_)) ?_
  refine Bod.ildG dc_288_710 (by repeat (first | exact h5 | exact sm_get_p1 | exact sm_get_p2e | refine sm_get_p1m (by decide) (by decide) ?_ | refine sm_get_p1n (by decide) rfl ?_ | refine sm_get_p2n (by decide) (by decide) rfl ?_)) ?_
  refine Bod.virt (r := []) dc_288_712 kr_288_151 ⟨Or.inl rfl, ow_293, cl_14⟩ (by rw [np_293]; rfl) (by rw [np_293]; rfl) (ob_of (mk_61 _)) (Nat.le_of_ble_eq_true rfl) (tok_ev (t := t) (kd := (nI 5)) (vl := (nI 46)) (ln := (nI l)) (bl := (nI bl)) (by first | assumption | rfl | exact congrArg nI (by omega) | (simp (disch := omega) only [rI, rIe, rA, rIA, rLA, rJA, rVI, rQI, rVA, rQA, upd_at,  rAI, rLI, rJI, nI_add, pk_sub, kc_0, kc_1, kc_2, kc_3, kc_4, kc_5, reduceIte, Nat.reduceEqDiff, Nat.add_zero, rI_hold, rI_hold, rL_hold, ht]; done)) (by omega)) ?_
  show Bod _ _ _ _ [] _ _ _
  refine Bod.ildG dc_288_715 (by repeat (first | exact h6 | exact sm_get_p1 | exact sm_get_p2e | refine sm_get_p1m (by decide) (by decide) ?_ | refine sm_get_p1n (by decide) rfl ?_ | refine sm_get_p2n (by decide) (by decide) rfl ?_)) ?_
  refine Bod.go dc_288_717 rfl ?_
  refine Bod.ifT dc_288_719 rfl (k1_eq_T (k_eq 0 0 rfl rfl (by omega))) ?_
  refine Bod.ic 1 (by decide) dc_288_726 ?_
  refine Bod.addN (p + 1) (by omega) dc_288_727 ?_
  refine Bod.ist dc_288_728 (by rw [ml_288]; exact Nat.le_of_ble_eq_true rfl) ?_
  refine Bod.go dc_288_730 rfl ?_
  exact hB _ (by repeat (first | exact h0 | exact sm_get_p1 | exact sm_get_p2e | refine sm_get_p1m (by decide) (by decide) ?_ | refine sm_get_p1n (by decide) rfl ?_ | refine sm_get_p2n (by decide) (by decide) rfl ?_)) (by repeat (first | exact h1 | exact sm_get_p1 | exact sm_get_p2e | refine sm_get_p1m (by decide) (by decide) ?_ | refine sm_get_p1n (by decide) rfl ?_ | refine sm_get_p2n (by decide) (by decide) rfl ?_)) (by repeat (first | exact h3 | exact sm_get_p1 | exact sm_get_p2e | refine sm_get_p1m (by decide) (by decide) ?_ | refine sm_get_p1n (by decide) rfl ?_ | refine sm_get_p2n (by decide) (by decide) rfl ?_)) (by repeat (first | exact h4 | exact sm_get_p1 | exact sm_get_p2e | refine sm_get_p1m (by decide) (by decide) ?_ | refine sm_get_p1n (by decide) rfl ?_ | refine sm_get_p2n (by decide) (by decide) rfl ?_)) (by repeat (first | exact h5 | exact sm_get_p1 | exact sm_get_p2e | refine sm_get_p1m (by decide) (by decide) ?_ | refine sm_get_p1n (by decide) rfl ?_ | refine sm_get_p2n (by decide) (by decide) rfl ?_)) (by repeat (first | exact h6 | exact sm_get_p1 | exact sm_get_p2e | refine sm_get_p1m (by decide) (by decide) ?_ | refine sm_get_p1n (by decide) rfl ?_ | refine sm_get_p2n (by decide) (by decide) rfl ?_))
theorem rs_46_n {d : Nat} {S Sf : cS} {lv : sm_L} {v : Option Value} {e : Nat} {l : Nat} {bl : Nat} {p : Nat} {x : Int32} {st : Nat} {dd : Int32} {t : Nat} (heM : e ≤ 3000) (hp : p ≤ e) (h0 : sm_get lv 0 = some (.ref 61)) (h1 : sm_get lv 1 = some (.ref 107)) (h3 : sm_get lv 3 = some (.int (nI e))) (h4 : sm_get lv 4 = some (.int (nI l))) (h5 : sm_get lv 5 = some (.int (nI bl))) (h6 : sm_get lv 6 = some (.int (nI p))) (h7 : sm_get lv 7 = some (.int (nI 46))) (h8 : sm_get lv 8 = some (.int (nI st))) (hd : sm_get lv 9 = some (.int dd)) (n61 : dd ≠ nI 61) (ht : sI S 6112 = nI t) (htM : t < 6002) (hB : ∀ lv1 : sm_L, sm_get lv1 0 = some (.ref 61) → sm_get lv1 1 = some (.ref 107) → sm_get lv1 3 = some (.int (nI e)) → sm_get lv1 4 = some (.int (nI l)) → sm_get lv1 5 = some (.int (nI bl)) → sm_get lv1 6 = some (.int (nI (p + 1))) → Bod (d + 8) 288 3 lv1 [] (wI 6112 (nI (t + 1)) (wA 70 t ((nI bl)) (wA 69 t ((nI l)) (wA 68 t ((nI 46)) (wA 67 t ((nI 5)) S))))) v Sf) : Bod (d + 8) 288 476 lv [] S v Sf := by
  refine Bod.ildG dc_288_476 (by repeat (first | exact hd | exact sm_get_p1 | exact sm_get_p2e | refine sm_get_p1m (by decide) (by decide) ?_ | refine sm_get_p1n (by decide) rfl ?_ | refine sm_get_p2n (by decide) (by decide) rfl ?_)) ?_
  refine Bod.bip 61 (by decide) dc_288_478 ?_
  refine Bod.icT dc_288_480 rfl (k2_ne_T n61) ?_
  refine Bod.ildG dc_288_532 (by repeat (first | exact h7 | exact sm_get_p1 | exact sm_get_p2e | refine sm_get_p1m (by decide) (by decide) ?_ | refine sm_get_p1n (by decide) rfl ?_ | refine sm_get_p2n (by decide) (by decide) rfl ?_)) ?_
  refine Bod.bip 47 (by decide) dc_288_534 ?_
  refine Bod.icT dc_288_536 rfl (k2_ne_T (k_ne 46 47 rfl rfl (by omega) (by omega) (by omega))) ?_
  refine Bod.ic 0 (by decide) dc_288_550 ?_
  refine Bod.ist dc_288_551 (by rw [ml_288]; exact Nat.le_of_ble_eq_true rfl) ?_
  refine Bod.ildG dc_288_553 (by repeat (first | exact h7 | exact sm_get_p1 | exact sm_get_p2e | refine sm_get_p1m (by decide) (by decide) ?_ | refine sm_get_p1n (by decide) rfl ?_ | refine sm_get_p2n (by decide) (by decide) rfl ?_)) ?_
  refine Bod.bip 40 (by decide) dc_288_555 ?_
  refine Bod.icF dc_288_557 rfl (k2_eq_F (k_ne 46 40 rfl rfl (by omega) (by omega) (by omega))) ?_
  refine Bod.ildG dc_288_560 (by repeat (first | exact h7 | exact sm_get_p1 | exact sm_get_p2e | refine sm_get_p1m (by decide) (by decide) ?_ | refine sm_get_p1n (by decide) rfl ?_ | refine sm_get_p2n (by decide) (by decide) rfl ?_)) ?_
  refine Bod.bip 41 (by decide) dc_288_562 ?_
  refine Bod.icF dc_288_564 rfl (k2_eq_F (k_ne 46 41 rfl rfl (by omega) (by omega) (by omega))) ?_
  refine Bod.ildG dc_288_567 (by repeat (first | exact h7 | exact sm_get_p1 | exact sm_get_p2e | refine sm_get_p1m (by decide) (by decide) ?_ | refine sm_get_p1n (by decide) rfl ?_ | refine sm_get_p2n (by decide) (by decide) rfl ?_)) ?_
  refine Bod.bip 91 (by decide) dc_288_569 ?_
  refine Bod.icF dc_288_571 rfl (k2_eq_F (k_ne 46 91 rfl rfl (by omega) (by omega) (by omega))) ?_
  refine Bod.ildG dc_288_574 (by repeat (first | exact h7 | exact sm_get_p1 | exact sm_get_p2e | refine sm_get_p1m (by decide) (by decide) ?_ | refine sm_get_p1n (by decide) rfl ?_ | refine sm_get_p2n (by decide) (by decide) rfl ?_)) ?_
  refine Bod.bip 93 (by decide) dc_288_576 ?_
  refine Bod.icF dc_288_578 rfl (k2_eq_F (k_ne 46 93 rfl rfl (by omega) (by omega) (by omega))) ?_
  refine Bod.ildG dc_288_581 (by repeat (first | exact h7 | exact sm_get_p1 | exact sm_get_p2e | refine sm_get_p1m (by decide) (by decide) ?_ | refine sm_get_p1n (by decide) rfl ?_ | refine sm_get_p2n (by decide) (by decide) rfl ?_)) ?_
  refine Bod.bip 123 (by decide) dc_288_583 ?_
  refine Bod.icF dc_288_585 rfl (k2_eq_F (k_ne 46 123 rfl rfl (by omega) (by omega) (by omega))) ?_
  refine Bod.ildG dc_288_588 (by repeat (first | exact h7 | exact sm_get_p1 | exact sm_get_p2e | refine sm_get_p1m (by decide) (by decide) ?_ | refine sm_get_p1n (by decide) rfl ?_ | refine sm_get_p2n (by decide) (by decide) rfl ?_)) ?_
  refine Bod.bip 125 (by decide) dc_288_590 ?_
  refine Bod.icF dc_288_592 rfl (k2_eq_F (k_ne 46 125 rfl rfl (by omega) (by omega) (by omega))) ?_
  refine Bod.ildG dc_288_595 (by repeat (first | exact h7 | exact sm_get_p1 | exact sm_get_p2e | refine sm_get_p1m (by decide) (by decide) ?_ | refine sm_get_p1n (by decide) rfl ?_ | refine sm_get_p2n (by decide) (by decide) rfl ?_)) ?_
  refine Bod.bip 44 (by decide) dc_288_597 ?_
  refine Bod.icF dc_288_599 rfl (k2_eq_F (k_ne 46 44 rfl rfl (by omega) (by omega) (by omega))) ?_
  refine Bod.ildG dc_288_602 (by repeat (first | exact h7 | exact sm_get_p1 | exact sm_get_p2e | refine sm_get_p1m (by decide) (by decide) ?_ | refine sm_get_p1n (by decide) rfl ?_ | refine sm_get_p2n (by decide) (by decide) rfl ?_)) ?_
  refine Bod.bip 58 (by decide) dc_288_604 ?_
  refine Bod.icF dc_288_606 rfl (k2_eq_F (k_ne 46 58 rfl rfl (by omega) (by omega) (by omega))) ?_
  refine Bod.ildG dc_288_609 (by repeat (first | exact h7 | exact sm_get_p1 | exact sm_get_p2e | refine sm_get_p1m (by decide) (by decide) ?_ | refine sm_get_p1n (by decide) rfl ?_ | refine sm_get_p2n (by decide) (by decide) rfl ?_)) ?_
  refine Bod.bip 46 (by decide) dc_288_611 ?_
  refine Bod.icT dc_288_613 rfl (k2_eq_T (k_eq 46 46 rfl rfl (by omega))) ?_
  refine Bod.ic 1 (by decide) dc_288_665 ?_
  refine Bod.go dc_288_666 rfl ?_
  refine Bod.ist dc_288_670 (by rw [ml_288]; exact Nat.le_of_ble_eq_true rfl) ?_
  refine Bod.aldnG dc_288_672 (by repeat (first | exact h0 | exact sm_get_p1 | exact sm_get_p2e | refine sm_get_p1m (by decide) (by decide) ?_ | refine sm_get_p1n (by decide) rfl ?_ | refine sm_get_p2n (by decide) (by decide) rfl ?_)) ?_
  refine Bod.go dc_288_673 rfl ?_
  refine Bod.ifF dc_288_675 rfl (k1_ne_F (k_eq 0 0 rfl rfl (by omega))) ?_
  refine Bod.go dc_288_678 rfl ?_
  refine Bod.ifF dc_288_680 rfl (k1_eq_F (k_ne 1 0 rfl rfl (by omega) (by omega) (by omega))) ?_
  refine Bod.ic 5 (by decide) dc_288_683 ?_
  refine Bod.go dc_288_684 rfl ?_
  refine Bod.go dc_288_689 rfl ?_
  refine Bod.ifT dc_288_691 rfl (k1_eq_T (k_eq 0 0 rfl rfl (by omega))) ?_
  refine Bod.ildG dc_288_706 (by repeat (first | exact h7 | exact sm_get_p1 | exact sm_get_p2e | refine sm_get_p1m (by decide) (by decide) ?_ | refine sm_get_p1n (by decide) rfl ?_ | refine sm_get_p2n (by decide) (by decide) rfl ?_)) ?_
  refine Bod.ildG dc_288_708 (by repeat (first | exact h4 | exact sm_get_p1 | exact sm_get_p2e | refine sm_get_p1m (by decide) (by decide) ?_ | refine sm_get_p1n (by decide) rfl ?_ | refine sm_get_p2n (by decide) (by decide) rfl ?_)) ?_
  refine Bod.ildG dc_288_710 (by repeat (first | exact h5 | exact sm_get_p1 | exact sm_get_p2e | refine sm_get_p1m (by decide) (by decide) ?_ | refine sm_get_p1n (by decide) rfl ?_ | refine sm_get_p2n (by decide) (by decide) rfl ?_)) ?_
  refine Bod.virt (r := []) dc_288_712 kr_288_151 ⟨Or.inl rfl, ow_293, cl_14⟩ (by rw [np_293]; rfl) (by rw [np_293]; rfl) (ob_of (mk_61 _)) (Nat.le_of_ble_eq_true rfl) (tok_ev (t := t) (kd := (nI 5)) (vl := (nI 46)) (ln := (nI l)) (bl := (nI bl)) (by first | assumption | rfl | exact congrArg nI (by omega) | (simp (disch := omega) only [rI, rIe, rA, rIA, rLA, rJA, rVI, rQI, rVA, rQA, upd_at,  rAI, rLI, rJI, nI_add, pk_sub, kc_0, kc_1, kc_2, kc_3, kc_4, kc_5, reduceIte, Nat.reduceEqDiff, Nat.add_zero, rI_hold, rI_hold, rL_hold, ht]; done)) (by omega)) ?_
  show Bod _ _ _ _ [] _ _ _
  refine Bod.ildG dc_288_715 (by repeat (first | exact h6 | exact sm_get_p1 | exact sm_get_p2e | refine sm_get_p1m (by decide) (by decide) ?_ | refine sm_get_p1n (by decide) rfl ?_ | refine sm_get_p2n (by decide) (by decide) rfl ?_)) ?_
  refine Bod.go dc_288_717 rfl ?_
  refine Bod.ifT dc_288_719 rfl (k1_eq_T (k_eq 0 0 rfl rfl (by omega))) ?_
  refine Bod.ic 1 (by decide) dc_288_726 ?_
  refine Bod.addN (p + 1) (by omega) dc_288_727 ?_
  refine Bod.ist dc_288_728 (by rw [ml_288]; exact Nat.le_of_ble_eq_true rfl) ?_
  refine Bod.go dc_288_730 rfl ?_
  exact hB _ (by repeat (first | exact h0 | exact sm_get_p1 | exact sm_get_p2e | refine sm_get_p1m (by decide) (by decide) ?_ | refine sm_get_p1n (by decide) rfl ?_ | refine sm_get_p2n (by decide) (by decide) rfl ?_)) (by repeat (first | exact h1 | exact sm_get_p1 | exact sm_get_p2e | refine sm_get_p1m (by decide) (by decide) ?_ | refine sm_get_p1n (by decide) rfl ?_ | refine sm_get_p2n (by decide) (by decide) rfl ?_)) (by repeat (first | exact h3 | exact sm_get_p1 | exact sm_get_p2e | refine sm_get_p1m (by decide) (by decide) ?_ | refine sm_get_p1n (by decide) rfl ?_ | refine sm_get_p2n (by decide) (by decide) rfl ?_)) (by repeat (first | exact h4 | exact sm_get_p1 | exact sm_get_p2e | refine sm_get_p1m (by decide) (by decide) ?_ | refine sm_get_p1n (by decide) rfl ?_ | refine sm_get_p2n (by decide) (by decide) rfl ?_)) (by repeat (first | exact h5 | exact sm_get_p1 | exact sm_get_p2e | refine sm_get_p1m (by decide) (by decide) ?_ | refine sm_get_p1n (by decide) rfl ?_ | refine sm_get_p2n (by decide) (by decide) rfl ?_)) (by repeat (first | exact h6 | exact sm_get_p1 | exact sm_get_p2e | refine sm_get_p1m (by decide) (by decide) ?_ | refine sm_get_p1n (by decide) rfl ?_ | refine sm_get_p2n (by decide) (by decide) rfl ?_))
theorem rs_47_61 {d : Nat} {S Sf : cS} {lv : sm_L} {v : Option Value} {e : Nat} {l : Nat} {bl : Nat} {p : Nat} {x : Int32} {st : Nat} {t : Nat} (heM : e ≤ 3000) (hp : p ≤ e) (h0 : sm_get lv 0 = some (.ref 61)) (h1 : sm_get lv 1 = some (.ref 107)) (h3 : sm_get lv 3 = some (.int (nI e))) (h4 : sm_get lv 4 = some (.int (nI l))) (h5 : sm_get lv 5 = some (.int (nI bl))) (h6 : sm_get lv 6 = some (.int (nI p))) (h7 : sm_get lv 7 = some (.int (nI 47))) (h8 : sm_get lv 8 = some (.int (nI st))) (hd : sm_get lv 9 = some (.int (nI 61))) (ht : sI S 6112 = nI t) (htM : t < 6002) (hB : ∀ lv1 : sm_L, sm_get lv1 0 = some (.ref 61) → sm_get lv1 1 = some (.ref 107) → sm_get lv1 3 = some (.int (nI e)) → sm_get lv1 4 = some (.int (nI l)) → sm_get lv1 5 = some (.int (nI bl)) → sm_get lv1 6 = some (.int (nI (p + 1))) → Bod (d + 8) 288 3 lv1 [] (wI 6112 (nI (t + 1)) (wA 70 t ((nI bl)) (wA 69 t ((nI l)) (wA 68 t ((nI 47)) (wA 67 t ((nI 8)) S))))) v Sf) : Bod (d + 8) 288 476 lv [] S v Sf := by
  refine Bod.ildG dc_288_476 (by repeat (first | exact hd | exact sm_get_p1 | exact sm_get_p2e | refine sm_get_p1m (by decide) (by decide) ?_ | refine sm_get_p1n (by decide) rfl ?_ | refine sm_get_p2n (by decide) (by decide) rfl ?_)) ?_
  refine Bod.bip 61 (by decide) dc_288_478 ?_
  refine Bod.icF dc_288_480 rfl (k2_ne_F (k_eq 61 61 rfl rfl (by omega))) ?_
  refine Bod.ildG dc_288_483 (by repeat (first | exact h7 | exact sm_get_p1 | exact sm_get_p2e | refine sm_get_p1m (by decide) (by decide) ?_ | refine sm_get_p1n (by decide) rfl ?_ | refine sm_get_p2n (by decide) (by decide) rfl ?_)) ?_
  refine Bod.bip 61 (by decide) dc_288_485 ?_
  refine Bod.icF dc_288_487 rfl (k2_eq_F (k_ne 47 61 rfl rfl (by omega) (by omega) (by omega))) ?_
  refine Bod.ildG dc_288_490 (by repeat (first | exact h7 | exact sm_get_p1 | exact sm_get_p2e | refine sm_get_p1m (by decide) (by decide) ?_ | refine sm_get_p1n (by decide) rfl ?_ | refine sm_get_p2n (by decide) (by decide) rfl ?_)) ?_
  refine Bod.bip 33 (by decide) dc_288_492 ?_
  refine Bod.icF dc_288_494 rfl (k2_eq_F (k_ne 47 33 rfl rfl (by omega) (by omega) (by omega))) ?_
  refine Bod.ildG dc_288_497 (by repeat (first | exact h7 | exact sm_get_p1 | exact sm_get_p2e | refine sm_get_p1m (by decide) (by decide) ?_ | refine sm_get_p1n (by decide) rfl ?_ | refine sm_get_p2n (by decide) (by decide) rfl ?_)) ?_
  refine Bod.bip 60 (by decide) dc_288_499 ?_
  refine Bod.icF dc_288_501 rfl (k2_eq_F (k_ne 47 60 rfl rfl (by omega) (by omega) (by omega))) ?_
  refine Bod.ildG dc_288_504 (by repeat (first | exact h7 | exact sm_get_p1 | exact sm_get_p2e | refine sm_get_p1m (by decide) (by decide) ?_ | refine sm_get_p1n (by decide) rfl ?_ | refine sm_get_p2n (by decide) (by decide) rfl ?_)) ?_
  refine Bod.bip 62 (by decide) dc_288_506 ?_
  refine Bod.icF dc_288_508 rfl (k2_eq_F (k_ne 47 62 rfl rfl (by omega) (by omega) (by omega))) ?_
  refine Bod.ildG dc_288_511 (by repeat (first | exact h7 | exact sm_get_p1 | exact sm_get_p2e | refine sm_get_p1m (by decide) (by decide) ?_ | refine sm_get_p1n (by decide) rfl ?_ | refine sm_get_p2n (by decide) (by decide) rfl ?_)) ?_
  refine Bod.bip 43 (by decide) dc_288_513 ?_
  refine Bod.icF dc_288_515 rfl (k2_eq_F (k_ne 47 43 rfl rfl (by omega) (by omega) (by omega))) ?_
  refine Bod.ildG dc_288_518 (by repeat (first | exact h7 | exact sm_get_p1 | exact sm_get_p2e | refine sm_get_p1m (by decide) (by decide) ?_ | refine sm_get_p1n (by decide) rfl ?_ | refine sm_get_p2n (by decide) (by decide) rfl ?_)) ?_
  refine Bod.bip 45 (by decide) dc_288_520 ?_
  refine Bod.icF dc_288_522 rfl (k2_eq_F (k_ne 47 45 rfl rfl (by omega) (by omega) (by omega))) ?_
  refine Bod.ildG dc_288_525 (by repeat (first | exact h7 | exact sm_get_p1 | exact sm_get_p2e | refine sm_get_p1m (by decide) (by decide) ?_ | refine sm_get_p1n (by decide) rfl ?_ | refine sm_get_p2n (by decide) (by decide) rfl ?_)) ?_
  refine Bod.bip 42 (by decide) dc_288_527 ?_
  refine Bod.icF dc_288_529 rfl (k2_eq_F (k_ne 47 42 rfl rfl (by omega) (by omega) (by omega))) ?_
  refine Bod.ildG dc_288_532 (by repeat (first | exact h7 | exact sm_get_p1 | exact sm_get_p2e | refine sm_get_p1m (by decide) (by decide) ?_ | refine sm_get_p1n (by decide) rfl ?_ | refine sm_get_p2n (by decide) (by decide) rfl ?_)) ?_
  refine Bod.bip 47 (by decide) dc_288_534 ?_
  refine Bod.icF dc_288_536 rfl (k2_ne_F (k_eq 47 47 rfl rfl (by omega))) ?_
  refine Bod.ildG dc_288_539 (by repeat (first | exact hd | exact sm_get_p1 | exact sm_get_p2e | refine sm_get_p1m (by decide) (by decide) ?_ | refine sm_get_p1n (by decide) rfl ?_ | refine sm_get_p2n (by decide) (by decide) rfl ?_)) ?_
  refine Bod.bip 47 (by decide) dc_288_541 ?_
  refine Bod.icT dc_288_543 rfl (k2_ne_T (k_ne 61 47 rfl rfl (by omega) (by omega) (by omega))) ?_
  refine Bod.ic 0 (by decide) dc_288_550 ?_
  refine Bod.ist dc_288_551 (by rw [ml_288]; exact Nat.le_of_ble_eq_true rfl) ?_
  refine Bod.ildG dc_288_553 (by repeat (first | exact h7 | exact sm_get_p1 | exact sm_get_p2e | refine sm_get_p1m (by decide) (by decide) ?_ | refine sm_get_p1n (by decide) rfl ?_ | refine sm_get_p2n (by decide) (by decide) rfl ?_)) ?_
  refine Bod.bip 40 (by decide) dc_288_555 ?_
  refine Bod.icF dc_288_557 rfl (k2_eq_F (k_ne 47 40 rfl rfl (by omega) (by omega) (by omega))) ?_
  refine Bod.ildG dc_288_560 (by repeat (first | exact h7 | exact sm_get_p1 | exact sm_get_p2e | refine sm_get_p1m (by decide) (by decide) ?_ | refine sm_get_p1n (by decide) rfl ?_ | refine sm_get_p2n (by decide) (by decide) rfl ?_)) ?_
  refine Bod.bip 41 (by decide) dc_288_562 ?_
  refine Bod.icF dc_288_564 rfl (k2_eq_F (k_ne 47 41 rfl rfl (by omega) (by omega) (by omega))) ?_
  refine Bod.ildG dc_288_567 (by repeat (first | exact h7 | exact sm_get_p1 | exact sm_get_p2e | refine sm_get_p1m (by decide) (by decide) ?_ | refine sm_get_p1n (by decide) rfl ?_ | refine sm_get_p2n (by decide) (by decide) rfl ?_)) ?_
  refine Bod.bip 91 (by decide) dc_288_569 ?_
  refine Bod.icF dc_288_571 rfl (k2_eq_F (k_ne 47 91 rfl rfl (by omega) (by omega) (by omega))) ?_
  refine Bod.ildG dc_288_574 (by repeat (first | exact h7 | exact sm_get_p1 | exact sm_get_p2e | refine sm_get_p1m (by decide) (by decide) ?_ | refine sm_get_p1n (by decide) rfl ?_ | refine sm_get_p2n (by decide) (by decide) rfl ?_)) ?_
  refine Bod.bip 93 (by decide) dc_288_576 ?_
  refine Bod.icF dc_288_578 rfl (k2_eq_F (k_ne 47 93 rfl rfl (by omega) (by omega) (by omega))) ?_
  refine Bod.ildG dc_288_581 (by repeat (first | exact h7 | exact sm_get_p1 | exact sm_get_p2e | refine sm_get_p1m (by decide) (by decide) ?_ | refine sm_get_p1n (by decide) rfl ?_ | refine sm_get_p2n (by decide) (by decide) rfl ?_)) ?_
  refine Bod.bip 123 (by decide) dc_288_583 ?_
  refine Bod.icF dc_288_585 rfl (k2_eq_F (k_ne 47 123 rfl rfl (by omega) (by omega) (by omega))) ?_
  refine Bod.ildG dc_288_588 (by repeat (first | exact h7 | exact sm_get_p1 | exact sm_get_p2e | refine sm_get_p1m (by decide) (by decide) ?_ | refine sm_get_p1n (by decide) rfl ?_ | refine sm_get_p2n (by decide) (by decide) rfl ?_)) ?_
  refine Bod.bip 125 (by decide) dc_288_590 ?_
  refine Bod.icF dc_288_592 rfl (k2_eq_F (k_ne 47 125 rfl rfl (by omega) (by omega) (by omega))) ?_
  refine Bod.ildG dc_288_595 (by repeat (first | exact h7 | exact sm_get_p1 | exact sm_get_p2e | refine sm_get_p1m (by decide) (by decide) ?_ | refine sm_get_p1n (by decide) rfl ?_ | refine sm_get_p2n (by decide) (by decide) rfl ?_)) ?_
  refine Bod.bip 44 (by decide) dc_288_597 ?_
  refine Bod.icF dc_288_599 rfl (k2_eq_F (k_ne 47 44 rfl rfl (by omega) (by omega) (by omega))) ?_
  refine Bod.ildG dc_288_602 (by repeat (first | exact h7 | exact sm_get_p1 | exact sm_get_p2e | refine sm_get_p1m (by decide) (by decide) ?_ | refine sm_get_p1n (by decide) rfl ?_ | refine sm_get_p2n (by decide) (by decide) rfl ?_)) ?_
  refine Bod.bip 58 (by decide) dc_288_604 ?_
  refine Bod.icF dc_288_606 rfl (k2_eq_F (k_ne 47 58 rfl rfl (by omega) (by omega) (by omega))) ?_
  refine Bod.ildG dc_288_609 (by repeat (first | exact h7 | exact sm_get_p1 | exact sm_get_p2e | refine sm_get_p1m (by decide) (by decide) ?_ | refine sm_get_p1n (by decide) rfl ?_ | refine sm_get_p2n (by decide) (by decide) rfl ?_)) ?_
  refine Bod.bip 46 (by decide) dc_288_611 ?_
  refine Bod.icF dc_288_613 rfl (k2_eq_F (k_ne 47 46 rfl rfl (by omega) (by omega) (by omega))) ?_
  refine Bod.ildG dc_288_616 (by repeat (first | exact h7 | exact sm_get_p1 | exact sm_get_p2e | refine sm_get_p1m (by decide) (by decide) ?_ | refine sm_get_p1n (by decide) rfl ?_ | refine sm_get_p2n (by decide) (by decide) rfl ?_)) ?_
  refine Bod.bip 43 (by decide) dc_288_618 ?_
  refine Bod.icF dc_288_620 rfl (k2_eq_F (k_ne 47 43 rfl rfl (by omega) (by omega) (by omega))) ?_
  refine Bod.ildG dc_288_623 (by repeat (first | exact h7 | exact sm_get_p1 | exact sm_get_p2e | refine sm_get_p1m (by decide) (by decide) ?_ | refine sm_get_p1n (by decide) rfl ?_ | refine sm_get_p2n (by decide) (by decide) rfl ?_)) ?_
  refine Bod.bip 45 (by decide) dc_288_625 ?_
  refine Bod.icF dc_288_627 rfl (k2_eq_F (k_ne 47 45 rfl rfl (by omega) (by omega) (by omega))) ?_
  refine Bod.ildG dc_288_630 (by repeat (first | exact h7 | exact sm_get_p1 | exact sm_get_p2e | refine sm_get_p1m (by decide) (by decide) ?_ | refine sm_get_p1n (by decide) rfl ?_ | refine sm_get_p2n (by decide) (by decide) rfl ?_)) ?_
  refine Bod.bip 42 (by decide) dc_288_632 ?_
  refine Bod.icF dc_288_634 rfl (k2_eq_F (k_ne 47 42 rfl rfl (by omega) (by omega) (by omega))) ?_
  refine Bod.ildG dc_288_637 (by repeat (first | exact h7 | exact sm_get_p1 | exact sm_get_p2e | refine sm_get_p1m (by decide) (by decide) ?_ | refine sm_get_p1n (by decide) rfl ?_ | refine sm_get_p2n (by decide) (by decide) rfl ?_)) ?_
  refine Bod.bip 37 (by decide) dc_288_639 ?_
  refine Bod.icF dc_288_641 rfl (k2_eq_F (k_ne 47 37 rfl rfl (by omega) (by omega) (by omega))) ?_
  refine Bod.ildG dc_288_644 (by repeat (first | exact h7 | exact sm_get_p1 | exact sm_get_p2e | refine sm_get_p1m (by decide) (by decide) ?_ | refine sm_get_p1n (by decide) rfl ?_ | refine sm_get_p2n (by decide) (by decide) rfl ?_)) ?_
  refine Bod.bip 61 (by decide) dc_288_646 ?_
  refine Bod.icF dc_288_648 rfl (k2_eq_F (k_ne 47 61 rfl rfl (by omega) (by omega) (by omega))) ?_
  refine Bod.ildG dc_288_651 (by repeat (first | exact h7 | exact sm_get_p1 | exact sm_get_p2e | refine sm_get_p1m (by decide) (by decide) ?_ | refine sm_get_p1n (by decide) rfl ?_ | refine sm_get_p2n (by decide) (by decide) rfl ?_)) ?_
  refine Bod.bip 60 (by decide) dc_288_653 ?_
  refine Bod.icF dc_288_655 rfl (k2_eq_F (k_ne 47 60 rfl rfl (by omega) (by omega) (by omega))) ?_
  refine Bod.ildG dc_288_658 (by repeat (first | exact h7 | exact sm_get_p1 | exact sm_get_p2e | refine sm_get_p1m (by decide) (by decide) ?_ | refine sm_get_p1n (by decide) rfl ?_ | refine sm_get_p2n (by decide) (by decide) rfl ?_)) ?_
  refine Bod.bip 62 (by decide) dc_288_660 ?_
  refine Bod.icT dc_288_662 rfl (k2_ne_T (k_ne 47 62 rfl rfl (by omega) (by omega) (by omega))) ?_
  refine Bod.ic 0 (by decide) dc_288_669 ?_
  refine Bod.ist dc_288_670 (by rw [ml_288]; exact Nat.le_of_ble_eq_true rfl) ?_
  refine Bod.aldnG dc_288_672 (by repeat (first | exact h0 | exact sm_get_p1 | exact sm_get_p2e | refine sm_get_p1m (by decide) (by decide) ?_ | refine sm_get_p1n (by decide) rfl ?_ | refine sm_get_p2n (by decide) (by decide) rfl ?_)) ?_
  refine Bod.go dc_288_673 rfl ?_
  refine Bod.ifF dc_288_675 rfl (k1_ne_F (k_eq 0 0 rfl rfl (by omega))) ?_
  refine Bod.go dc_288_678 rfl ?_
  refine Bod.ifT dc_288_680 rfl (k1_eq_T (k_eq 0 0 rfl rfl (by omega))) ?_
  refine Bod.bip 8 (by decide) dc_288_687 ?_
  refine Bod.go dc_288_689 rfl ?_
  refine Bod.ifT dc_288_691 rfl (k1_eq_T (k_eq 0 0 rfl rfl (by omega))) ?_
  refine Bod.ildG dc_288_706 (by repeat (first | exact h7 | exact sm_get_p1 | exact sm_get_p2e | refine sm_get_p1m (by decide) (by decide) ?_ | refine sm_get_p1n (by decide) rfl ?_ | refine sm_get_p2n (by decide) (by decide) rfl ?_)) ?_
  refine Bod.ildG dc_288_708 (by repeat (first | exact h4 | exact sm_get_p1 | exact sm_get_p2e | refine sm_get_p1m (by decide) (by decide) ?_ | refine sm_get_p1n (by decide) rfl ?_ | refine sm_get_p2n (by decide) (by decide) rfl ?_)) ?_
  refine Bod.ildG dc_288_710 (by repeat (first | exact h5 | exact sm_get_p1 | exact sm_get_p2e | refine sm_get_p1m (by decide) (by decide) ?_ | refine sm_get_p1n (by decide) rfl ?_ | refine sm_get_p2n (by decide) (by decide) rfl ?_)) ?_
  refine Bod.virt (r := []) dc_288_712 kr_288_151 ⟨Or.inl rfl, ow_293, cl_14⟩ (by rw [np_293]; rfl) (by rw [np_293]; rfl) (ob_of (mk_61 _)) (Nat.le_of_ble_eq_true rfl) (tok_ev (t := t) (kd := (nI 8)) (vl := (nI 47)) (ln := (nI l)) (bl := (nI bl)) (by first | assumption | rfl | exact congrArg nI (by omega) | (simp (disch := omega) only [rI, rIe, rA, rIA, rLA, rJA, rVI, rQI, rVA, rQA, upd_at,  rAI, rLI, rJI, nI_add, pk_sub, kc_0, kc_1, kc_2, kc_3, kc_4, kc_5, reduceIte, Nat.reduceEqDiff, Nat.add_zero, rI_hold, rI_hold, rL_hold, ht]; done)) (by omega)) ?_
  show Bod _ _ _ _ [] _ _ _
  refine Bod.ildG dc_288_715 (by repeat (first | exact h6 | exact sm_get_p1 | exact sm_get_p2e | refine sm_get_p1m (by decide) (by decide) ?_ | refine sm_get_p1n (by decide) rfl ?_ | refine sm_get_p2n (by decide) (by decide) rfl ?_)) ?_
  refine Bod.go dc_288_717 rfl ?_
  refine Bod.ifT dc_288_719 rfl (k1_eq_T (k_eq 0 0 rfl rfl (by omega))) ?_
  refine Bod.ic 1 (by decide) dc_288_726 ?_
  refine Bod.addN (p + 1) (by omega) dc_288_727 ?_
  refine Bod.ist dc_288_728 (by rw [ml_288]; exact Nat.le_of_ble_eq_true rfl) ?_
  refine Bod.go dc_288_730 rfl ?_
  exact hB _ (by repeat (first | exact h0 | exact sm_get_p1 | exact sm_get_p2e | refine sm_get_p1m (by decide) (by decide) ?_ | refine sm_get_p1n (by decide) rfl ?_ | refine sm_get_p2n (by decide) (by decide) rfl ?_)) (by repeat (first | exact h1 | exact sm_get_p1 | exact sm_get_p2e | refine sm_get_p1m (by decide) (by decide) ?_ | refine sm_get_p1n (by decide) rfl ?_ | refine sm_get_p2n (by decide) (by decide) rfl ?_)) (by repeat (first | exact h3 | exact sm_get_p1 | exact sm_get_p2e | refine sm_get_p1m (by decide) (by decide) ?_ | refine sm_get_p1n (by decide) rfl ?_ | refine sm_get_p2n (by decide) (by decide) rfl ?_)) (by repeat (first | exact h4 | exact sm_get_p1 | exact sm_get_p2e | refine sm_get_p1m (by decide) (by decide) ?_ | refine sm_get_p1n (by decide) rfl ?_ | refine sm_get_p2n (by decide) (by decide) rfl ?_)) (by repeat (first | exact h5 | exact sm_get_p1 | exact sm_get_p2e | refine sm_get_p1m (by decide) (by decide) ?_ | refine sm_get_p1n (by decide) rfl ?_ | refine sm_get_p2n (by decide) (by decide) rfl ?_)) (by repeat (first | exact h6 | exact sm_get_p1 | exact sm_get_p2e | refine sm_get_p1m (by decide) (by decide) ?_ | refine sm_get_p1n (by decide) rfl ?_ | refine sm_get_p2n (by decide) (by decide) rfl ?_))
theorem rs_47_47 {d : Nat} {S Sf : cS} {lv : sm_L} {v : Option Value} {e : Nat} {l : Nat} {bl : Nat} {p : Nat} {x : Int32} {st : Nat} {t : Nat} (heM : e ≤ 3000) (hp : p ≤ e) (h0 : sm_get lv 0 = some (.ref 61)) (h1 : sm_get lv 1 = some (.ref 107)) (h3 : sm_get lv 3 = some (.int (nI e))) (h4 : sm_get lv 4 = some (.int (nI l))) (h5 : sm_get lv 5 = some (.int (nI bl))) (h6 : sm_get lv 6 = some (.int (nI p))) (h7 : sm_get lv 7 = some (.int (nI 47))) (h8 : sm_get lv 8 = some (.int (nI st))) (hd : sm_get lv 9 = some (.int (nI 47))) (ht : sI S 6112 = nI t) (htM : t < 6002) (hB : ∀ lv1 : sm_L, sm_get lv1 0 = some (.ref 61) → sm_get lv1 1 = some (.ref 107) → sm_get lv1 3 = some (.int (nI e)) → sm_get lv1 4 = some (.int (nI l)) → sm_get lv1 5 = some (.int (nI bl)) → sm_get lv1 6 = some (.int (nI (p + 2))) → Bod (d + 8) 288 3 lv1 [] (wI 6112 (nI (t + 1)) (wA 70 t ((nI bl)) (wA 69 t ((nI l)) (wA 68 t ((nI 12079)) (wA 67 t ((nI 5)) S))))) v Sf) : Bod (d + 8) 288 476 lv [] S v Sf := by
  refine Bod.ildG dc_288_476 (by repeat (first | exact hd | exact sm_get_p1 | exact sm_get_p2e | refine sm_get_p1m (by decide) (by decide) ?_ | refine sm_get_p1n (by decide) rfl ?_ | refine sm_get_p2n (by decide) (by decide) rfl ?_)) ?_
  refine Bod.bip 61 (by decide) dc_288_478 ?_
  refine Bod.icT dc_288_480 rfl (k2_ne_T (k_ne 47 61 rfl rfl (by omega) (by omega) (by omega))) ?_
  refine Bod.ildG dc_288_532 (by repeat (first | exact h7 | exact sm_get_p1 | exact sm_get_p2e | refine sm_get_p1m (by decide) (by decide) ?_ | refine sm_get_p1n (by decide) rfl ?_ | refine sm_get_p2n (by decide) (by decide) rfl ?_)) ?_
  refine Bod.bip 47 (by decide) dc_288_534 ?_
  refine Bod.icF dc_288_536 rfl (k2_ne_F (k_eq 47 47 rfl rfl (by omega))) ?_
  refine Bod.ildG dc_288_539 (by repeat (first | exact hd | exact sm_get_p1 | exact sm_get_p2e | refine sm_get_p1m (by decide) (by decide) ?_ | refine sm_get_p1n (by decide) rfl ?_ | refine sm_get_p2n (by decide) (by decide) rfl ?_)) ?_
  refine Bod.bip 47 (by decide) dc_288_541 ?_
  refine Bod.icF dc_288_543 rfl (k2_ne_F (k_eq 47 47 rfl rfl (by omega))) ?_
  refine Bod.ic 1 (by decide) dc_288_546 ?_
  refine Bod.go dc_288_547 rfl ?_
  refine Bod.ist dc_288_551 (by rw [ml_288]; exact Nat.le_of_ble_eq_true rfl) ?_
  refine Bod.ildG dc_288_553 (by repeat (first | exact h7 | exact sm_get_p1 | exact sm_get_p2e | refine sm_get_p1m (by decide) (by decide) ?_ | refine sm_get_p1n (by decide) rfl ?_ | refine sm_get_p2n (by decide) (by decide) rfl ?_)) ?_
  refine Bod.bip 40 (by decide) dc_288_555 ?_
  refine Bod.icF dc_288_557 rfl (k2_eq_F (k_ne 47 40 rfl rfl (by omega) (by omega) (by omega))) ?_
  refine Bod.ildG dc_288_560 (by repeat (first | exact h7 | exact sm_get_p1 | exact sm_get_p2e | refine sm_get_p1m (by decide) (by decide) ?_ | refine sm_get_p1n (by decide) rfl ?_ | refine sm_get_p2n (by decide) (by decide) rfl ?_)) ?_
  refine Bod.bip 41 (by decide) dc_288_562 ?_
  refine Bod.icF dc_288_564 rfl (k2_eq_F (k_ne 47 41 rfl rfl (by omega) (by omega) (by omega))) ?_
  refine Bod.ildG dc_288_567 (by repeat (first | exact h7 | exact sm_get_p1 | exact sm_get_p2e | refine sm_get_p1m (by decide) (by decide) ?_ | refine sm_get_p1n (by decide) rfl ?_ | refine sm_get_p2n (by decide) (by decide) rfl ?_)) ?_
  refine Bod.bip 91 (by decide) dc_288_569 ?_
  refine Bod.icF dc_288_571 rfl (k2_eq_F (k_ne 47 91 rfl rfl (by omega) (by omega) (by omega))) ?_
  refine Bod.ildG dc_288_574 (by repeat (first | exact h7 | exact sm_get_p1 | exact sm_get_p2e | refine sm_get_p1m (by decide) (by decide) ?_ | refine sm_get_p1n (by decide) rfl ?_ | refine sm_get_p2n (by decide) (by decide) rfl ?_)) ?_
  refine Bod.bip 93 (by decide) dc_288_576 ?_
  refine Bod.icF dc_288_578 rfl (k2_eq_F (k_ne 47 93 rfl rfl (by omega) (by omega) (by omega))) ?_
  refine Bod.ildG dc_288_581 (by repeat (first | exact h7 | exact sm_get_p1 | exact sm_get_p2e | refine sm_get_p1m (by decide) (by decide) ?_ | refine sm_get_p1n (by decide) rfl ?_ | refine sm_get_p2n (by decide) (by decide) rfl ?_)) ?_
  refine Bod.bip 123 (by decide) dc_288_583 ?_
  refine Bod.icF dc_288_585 rfl (k2_eq_F (k_ne 47 123 rfl rfl (by omega) (by omega) (by omega))) ?_
  refine Bod.ildG dc_288_588 (by repeat (first | exact h7 | exact sm_get_p1 | exact sm_get_p2e | refine sm_get_p1m (by decide) (by decide) ?_ | refine sm_get_p1n (by decide) rfl ?_ | refine sm_get_p2n (by decide) (by decide) rfl ?_)) ?_
  refine Bod.bip 125 (by decide) dc_288_590 ?_
  refine Bod.icF dc_288_592 rfl (k2_eq_F (k_ne 47 125 rfl rfl (by omega) (by omega) (by omega))) ?_
  refine Bod.ildG dc_288_595 (by repeat (first | exact h7 | exact sm_get_p1 | exact sm_get_p2e | refine sm_get_p1m (by decide) (by decide) ?_ | refine sm_get_p1n (by decide) rfl ?_ | refine sm_get_p2n (by decide) (by decide) rfl ?_)) ?_
  refine Bod.bip 44 (by decide) dc_288_597 ?_
  refine Bod.icF dc_288_599 rfl (k2_eq_F (k_ne 47 44 rfl rfl (by omega) (by omega) (by omega))) ?_
  refine Bod.ildG dc_288_602 (by repeat (first | exact h7 | exact sm_get_p1 | exact sm_get_p2e | refine sm_get_p1m (by decide) (by decide) ?_ | refine sm_get_p1n (by decide) rfl ?_ | refine sm_get_p2n (by decide) (by decide) rfl ?_)) ?_
  refine Bod.bip 58 (by decide) dc_288_604 ?_
  refine Bod.icF dc_288_606 rfl (k2_eq_F (k_ne 47 58 rfl rfl (by omega) (by omega) (by omega))) ?_
  refine Bod.ildG dc_288_609 (by repeat (first | exact h7 | exact sm_get_p1 | exact sm_get_p2e | refine sm_get_p1m (by decide) (by decide) ?_ | refine sm_get_p1n (by decide) rfl ?_ | refine sm_get_p2n (by decide) (by decide) rfl ?_)) ?_
  refine Bod.bip 46 (by decide) dc_288_611 ?_
  refine Bod.icF dc_288_613 rfl (k2_eq_F (k_ne 47 46 rfl rfl (by omega) (by omega) (by omega))) ?_
  refine Bod.ildG dc_288_616 (by repeat (first | exact h7 | exact sm_get_p1 | exact sm_get_p2e | refine sm_get_p1m (by decide) (by decide) ?_ | refine sm_get_p1n (by decide) rfl ?_ | refine sm_get_p2n (by decide) (by decide) rfl ?_)) ?_
  refine Bod.bip 43 (by decide) dc_288_618 ?_
  refine Bod.icF dc_288_620 rfl (k2_eq_F (k_ne 47 43 rfl rfl (by omega) (by omega) (by omega))) ?_
  refine Bod.ildG dc_288_623 (by repeat (first | exact h7 | exact sm_get_p1 | exact sm_get_p2e | refine sm_get_p1m (by decide) (by decide) ?_ | refine sm_get_p1n (by decide) rfl ?_ | refine sm_get_p2n (by decide) (by decide) rfl ?_)) ?_
  refine Bod.bip 45 (by decide) dc_288_625 ?_
  refine Bod.icF dc_288_627 rfl (k2_eq_F (k_ne 47 45 rfl rfl (by omega) (by omega) (by omega))) ?_
  refine Bod.ildG dc_288_630 (by repeat (first | exact h7 | exact sm_get_p1 | exact sm_get_p2e | refine sm_get_p1m (by decide) (by decide) ?_ | refine sm_get_p1n (by decide) rfl ?_ | refine sm_get_p2n (by decide) (by decide) rfl ?_)) ?_
  refine Bod.bip 42 (by decide) dc_288_632 ?_
  refine Bod.icF dc_288_634 rfl (k2_eq_F (k_ne 47 42 rfl rfl (by omega) (by omega) (by omega))) ?_
  refine Bod.ildG dc_288_637 (by repeat (first | exact h7 | exact sm_get_p1 | exact sm_get_p2e | refine sm_get_p1m (by decide) (by decide) ?_ | refine sm_get_p1n (by decide) rfl ?_ | refine sm_get_p2n (by decide) (by decide) rfl ?_)) ?_
  refine Bod.bip 37 (by decide) dc_288_639 ?_
  refine Bod.icF dc_288_641 rfl (k2_eq_F (k_ne 47 37 rfl rfl (by omega) (by omega) (by omega))) ?_
  refine Bod.ildG dc_288_644 (by repeat (first | exact h7 | exact sm_get_p1 | exact sm_get_p2e | refine sm_get_p1m (by decide) (by decide) ?_ | refine sm_get_p1n (by decide) rfl ?_ | refine sm_get_p2n (by decide) (by decide) rfl ?_)) ?_
  refine Bod.bip 61 (by decide) dc_288_646 ?_
  refine Bod.icF dc_288_648 rfl (k2_eq_F (k_ne 47 61 rfl rfl (by omega) (by omega) (by omega))) ?_
  refine Bod.ildG dc_288_651 (by repeat (first | exact h7 | exact sm_get_p1 | exact sm_get_p2e | refine sm_get_p1m (by decide) (by decide) ?_ | refine sm_get_p1n (by decide) rfl ?_ | refine sm_get_p2n (by decide) (by decide) rfl ?_)) ?_
  refine Bod.bip 60 (by decide) dc_288_653 ?_
  refine Bod.icF dc_288_655 rfl (k2_eq_F (k_ne 47 60 rfl rfl (by omega) (by omega) (by omega))) ?_
  refine Bod.ildG dc_288_658 (by repeat (first | exact h7 | exact sm_get_p1 | exact sm_get_p2e | refine sm_get_p1m (by decide) (by decide) ?_ | refine sm_get_p1n (by decide) rfl ?_ | refine sm_get_p2n (by decide) (by decide) rfl ?_)) ?_
  refine Bod.bip 62 (by decide) dc_288_660 ?_
  refine Bod.icT dc_288_662 rfl (k2_ne_T (k_ne 47 62 rfl rfl (by omega) (by omega) (by omega))) ?_
  refine Bod.ic 0 (by decide) dc_288_669 ?_
  refine Bod.ist dc_288_670 (by rw [ml_288]; exact Nat.le_of_ble_eq_true rfl) ?_
  refine Bod.aldnG dc_288_672 (by repeat (first | exact h0 | exact sm_get_p1 | exact sm_get_p2e | refine sm_get_p1m (by decide) (by decide) ?_ | refine sm_get_p1n (by decide) rfl ?_ | refine sm_get_p2n (by decide) (by decide) rfl ?_)) ?_
  refine Bod.go dc_288_673 rfl ?_
  refine Bod.ifT dc_288_675 rfl (k1_ne_T (k_ne 1 0 rfl rfl (by omega) (by omega) (by omega))) ?_
  refine Bod.ic 5 (by decide) dc_288_683 ?_
  refine Bod.go dc_288_684 rfl ?_
  refine Bod.go dc_288_689 rfl ?_
  refine Bod.ifF dc_288_691 rfl (k1_eq_F (k_ne 1 0 rfl rfl (by omega) (by omega) (by omega))) ?_
  refine Bod.sip 256 (by decide) dc_288_694 ?_
  refine Bod.ildG dc_288_697 (by repeat (first | exact h7 | exact sm_get_p1 | exact sm_get_p2e | refine sm_get_p1m (by decide) (by decide) ?_ | refine sm_get_p1n (by decide) rfl ?_ | refine sm_get_p2n (by decide) (by decide) rfl ?_)) ?_
  refine Bod.mulN 12032 (by omega) dc_288_699 ?_
  refine Bod.ildG dc_288_700 (by repeat (first | exact hd | exact sm_get_p1 | exact sm_get_p2e | refine sm_get_p1m (by decide) (by decide) ?_ | refine sm_get_p1n (by decide) rfl ?_ | refine sm_get_p2n (by decide) (by decide) rfl ?_)) ?_
  refine Bod.addN 12079 (by omega) dc_288_702 ?_
  refine Bod.go dc_288_703 rfl ?_
  refine Bod.ildG dc_288_708 (by repeat (first | exact h4 | exact sm_get_p1 | exact sm_get_p2e | refine sm_get_p1m (by decide) (by decide) ?_ | refine sm_get_p1n (by decide) rfl ?_ | refine sm_get_p2n (by decide) (by decide) rfl ?_)) ?_
  refine Bod.ildG dc_288_710 (by repeat (first | exact h5 | exact sm_get_p1 | exact sm_get_p2e | refine sm_get_p1m (by decide) (by decide) ?_ | refine sm_get_p1n (by decide) rfl ?_ | refine sm_get_p2n (by decide) (by decide) rfl ?_)) ?_
  refine Bod.virt (r := []) dc_288_712 kr_288_151 ⟨Or.inl rfl, ow_293, cl_14⟩ (by rw [np_293]; rfl) (by rw [np_293]; rfl) (ob_of (mk_61 _)) (Nat.le_of_ble_eq_true rfl) (tok_ev (t := t) (kd := (nI 5)) (vl := (nI 12079)) (ln := (nI l)) (bl := (nI bl)) (by first | assumption | rfl | exact congrArg nI (by omega) | (simp (disch := omega) only [rI, rIe, rA, rIA, rLA, rJA, rVI, rQI, rVA, rQA, upd_at,  rAI, rLI, rJI, nI_add, pk_sub, kc_0, kc_1, kc_2, kc_3, kc_4, kc_5, reduceIte, Nat.reduceEqDiff, Nat.add_zero, rI_hold, rI_hold, rL_hold, ht]; done)) (by omega)) ?_
  show Bod _ _ _ _ [] _ _ _
  refine Bod.ildG dc_288_715 (by repeat (first | exact h6 | exact sm_get_p1 | exact sm_get_p2e | refine sm_get_p1m (by decide) (by decide) ?_ | refine sm_get_p1n (by decide) rfl ?_ | refine sm_get_p2n (by decide) (by decide) rfl ?_)) ?_
  refine Bod.go dc_288_717 rfl ?_
  refine Bod.ifF dc_288_719 rfl (k1_eq_F (k_ne 1 0 rfl rfl (by omega) (by omega) (by omega))) ?_
  refine Bod.ic 2 (by decide) dc_288_722 ?_
  refine Bod.go dc_288_723 rfl ?_
  refine Bod.addN (p + 2) (by omega) dc_288_727 ?_
  refine Bod.ist dc_288_728 (by rw [ml_288]; exact Nat.le_of_ble_eq_true rfl) ?_
  refine Bod.go dc_288_730 rfl ?_
  exact hB _ (by repeat (first | exact h0 | exact sm_get_p1 | exact sm_get_p2e | refine sm_get_p1m (by decide) (by decide) ?_ | refine sm_get_p1n (by decide) rfl ?_ | refine sm_get_p2n (by decide) (by decide) rfl ?_)) (by repeat (first | exact h1 | exact sm_get_p1 | exact sm_get_p2e | refine sm_get_p1m (by decide) (by decide) ?_ | refine sm_get_p1n (by decide) rfl ?_ | refine sm_get_p2n (by decide) (by decide) rfl ?_)) (by repeat (first | exact h3 | exact sm_get_p1 | exact sm_get_p2e | refine sm_get_p1m (by decide) (by decide) ?_ | refine sm_get_p1n (by decide) rfl ?_ | refine sm_get_p2n (by decide) (by decide) rfl ?_)) (by repeat (first | exact h4 | exact sm_get_p1 | exact sm_get_p2e | refine sm_get_p1m (by decide) (by decide) ?_ | refine sm_get_p1n (by decide) rfl ?_ | refine sm_get_p2n (by decide) (by decide) rfl ?_)) (by repeat (first | exact h5 | exact sm_get_p1 | exact sm_get_p2e | refine sm_get_p1m (by decide) (by decide) ?_ | refine sm_get_p1n (by decide) rfl ?_ | refine sm_get_p2n (by decide) (by decide) rfl ?_)) (by repeat (first | exact h6 | exact sm_get_p1 | exact sm_get_p2e | refine sm_get_p1m (by decide) (by decide) ?_ | refine sm_get_p1n (by decide) rfl ?_ | refine sm_get_p2n (by decide) (by decide) rfl ?_))
theorem rs_47_n {d : Nat} {S Sf : cS} {lv : sm_L} {v : Option Value} {e : Nat} {l : Nat} {bl : Nat} {p : Nat} {x : Int32} {st : Nat} {dd : Int32} {t : Nat} (heM : e ≤ 3000) (hp : p ≤ e) (h0 : sm_get lv 0 = some (.ref 61)) (h1 : sm_get lv 1 = some (.ref 107)) (h3 : sm_get lv 3 = some (.int (nI e))) (h4 : sm_get lv 4 = some (.int (nI l))) (h5 : sm_get lv 5 = some (.int (nI bl))) (h6 : sm_get lv 6 = some (.int (nI p))) (h7 : sm_get lv 7 = some (.int (nI 47))) (h8 : sm_get lv 8 = some (.int (nI st))) (hd : sm_get lv 9 = some (.int dd)) (n61 : dd ≠ nI 61) (n47 : dd ≠ nI 47) (ht : sI S 6112 = nI t) (htM : t < 6002) (hB : ∀ lv1 : sm_L, sm_get lv1 0 = some (.ref 61) → sm_get lv1 1 = some (.ref 107) → sm_get lv1 3 = some (.int (nI e)) → sm_get lv1 4 = some (.int (nI l)) → sm_get lv1 5 = some (.int (nI bl)) → sm_get lv1 6 = some (.int (nI (p + 1))) → Bod (d + 8) 288 3 lv1 [] (wI 6112 (nI (t + 1)) (wA 70 t ((nI bl)) (wA 69 t ((nI l)) (wA 68 t ((nI 47)) (wA 67 t ((nI 8)) S))))) v Sf) : Bod (d + 8) 288 476 lv [] S v Sf := by
  refine Bod.ildG dc_288_476 (by repeat (first | exact hd | exact sm_get_p1 | exact sm_get_p2e | refine sm_get_p1m (by decide) (by decide) ?_ | refine sm_get_p1n (by decide) rfl ?_ | refine sm_get_p2n (by decide) (by decide) rfl ?_)) ?_
  refine Bod.bip 61 (by decide) dc_288_478 ?_
  refine Bod.icT dc_288_480 rfl (k2_ne_T n61) ?_
  refine Bod.ildG dc_288_532 (by repeat (first | exact h7 | exact sm_get_p1 | exact sm_get_p2e | refine sm_get_p1m (by decide) (by decide) ?_ | refine sm_get_p1n (by decide) rfl ?_ | refine sm_get_p2n (by decide) (by decide) rfl ?_)) ?_
  refine Bod.bip 47 (by decide) dc_288_534 ?_
  refine Bod.icF dc_288_536 rfl (k2_ne_F (k_eq 47 47 rfl rfl (by omega))) ?_
  refine Bod.ildG dc_288_539 (by repeat (first | exact hd | exact sm_get_p1 | exact sm_get_p2e | refine sm_get_p1m (by decide) (by decide) ?_ | refine sm_get_p1n (by decide) rfl ?_ | refine sm_get_p2n (by decide) (by decide) rfl ?_)) ?_
  refine Bod.bip 47 (by decide) dc_288_541 ?_
  refine Bod.icT dc_288_543 rfl (k2_ne_T n47) ?_
  refine Bod.ic 0 (by decide) dc_288_550 ?_
  refine Bod.ist dc_288_551 (by rw [ml_288]; exact Nat.le_of_ble_eq_true rfl) ?_
  refine Bod.ildG dc_288_553 (by repeat (first | exact h7 | exact sm_get_p1 | exact sm_get_p2e | refine sm_get_p1m (by decide) (by decide) ?_ | refine sm_get_p1n (by decide) rfl ?_ | refine sm_get_p2n (by decide) (by decide) rfl ?_)) ?_
  refine Bod.bip 40 (by decide) dc_288_555 ?_
  refine Bod.icF dc_288_557 rfl (k2_eq_F (k_ne 47 40 rfl rfl (by omega) (by omega) (by omega))) ?_
  refine Bod.ildG dc_288_560 (by repeat (first | exact h7 | exact sm_get_p1 | exact sm_get_p2e | refine sm_get_p1m (by decide) (by decide) ?_ | refine sm_get_p1n (by decide) rfl ?_ | refine sm_get_p2n (by decide) (by decide) rfl ?_)) ?_
  refine Bod.bip 41 (by decide) dc_288_562 ?_
  refine Bod.icF dc_288_564 rfl (k2_eq_F (k_ne 47 41 rfl rfl (by omega) (by omega) (by omega))) ?_
  refine Bod.ildG dc_288_567 (by repeat (first | exact h7 | exact sm_get_p1 | exact sm_get_p2e | refine sm_get_p1m (by decide) (by decide) ?_ | refine sm_get_p1n (by decide) rfl ?_ | refine sm_get_p2n (by decide) (by decide) rfl ?_)) ?_
  refine Bod.bip 91 (by decide) dc_288_569 ?_
  refine Bod.icF dc_288_571 rfl (k2_eq_F (k_ne 47 91 rfl rfl (by omega) (by omega) (by omega))) ?_
  refine Bod.ildG dc_288_574 (by repeat (first | exact h7 | exact sm_get_p1 | exact sm_get_p2e | refine sm_get_p1m (by decide) (by decide) ?_ | refine sm_get_p1n (by decide) rfl ?_ | refine sm_get_p2n (by decide) (by decide) rfl ?_)) ?_
  refine Bod.bip 93 (by decide) dc_288_576 ?_
  refine Bod.icF dc_288_578 rfl (k2_eq_F (k_ne 47 93 rfl rfl (by omega) (by omega) (by omega))) ?_
  refine Bod.ildG dc_288_581 (by repeat (first | exact h7 | exact sm_get_p1 | exact sm_get_p2e | refine sm_get_p1m (by decide) (by decide) ?_ | refine sm_get_p1n (by decide) rfl ?_ | refine sm_get_p2n (by decide) (by decide) rfl ?_)) ?_
  refine Bod.bip 123 (by decide) dc_288_583 ?_
  refine Bod.icF dc_288_585 rfl (k2_eq_F (k_ne 47 123 rfl rfl (by omega) (by omega) (by omega))) ?_
  refine Bod.ildG dc_288_588 (by repeat (first | exact h7 | exact sm_get_p1 | exact sm_get_p2e | refine sm_get_p1m (by decide) (by decide) ?_ | refine sm_get_p1n (by decide) rfl ?_ | refine sm_get_p2n (by decide) (by decide) rfl ?_)) ?_
  refine Bod.bip 125 (by decide) dc_288_590 ?_
  refine Bod.icF dc_288_592 rfl (k2_eq_F (k_ne 47 125 rfl rfl (by omega) (by omega) (by omega))) ?_
  refine Bod.ildG dc_288_595 (by repeat (first | exact h7 | exact sm_get_p1 | exact sm_get_p2e | refine sm_get_p1m (by decide) (by decide) ?_ | refine sm_get_p1n (by decide) rfl ?_ | refine sm_get_p2n (by decide) (by decide) rfl ?_)) ?_
  refine Bod.bip 44 (by decide) dc_288_597 ?_
  refine Bod.icF dc_288_599 rfl (k2_eq_F (k_ne 47 44 rfl rfl (by omega) (by omega) (by omega))) ?_
  refine Bod.ildG dc_288_602 (by repeat (first | exact h7 | exact sm_get_p1 | exact sm_get_p2e | refine sm_get_p1m (by decide) (by decide) ?_ | refine sm_get_p1n (by decide) rfl ?_ | refine sm_get_p2n (by decide) (by decide) rfl ?_)) ?_
  refine Bod.bip 58 (by decide) dc_288_604 ?_
  refine Bod.icF dc_288_606 rfl (k2_eq_F (k_ne 47 58 rfl rfl (by omega) (by omega) (by omega))) ?_
  refine Bod.ildG dc_288_609 (by repeat (first | exact h7 | exact sm_get_p1 | exact sm_get_p2e | refine sm_get_p1m (by decide) (by decide) ?_ | refine sm_get_p1n (by decide) rfl ?_ | refine sm_get_p2n (by decide) (by decide) rfl ?_)) ?_
  refine Bod.bip 46 (by decide) dc_288_611 ?_
  refine Bod.icF dc_288_613 rfl (k2_eq_F (k_ne 47 46 rfl rfl (by omega) (by omega) (by omega))) ?_
  refine Bod.ildG dc_288_616 (by repeat (first | exact h7 | exact sm_get_p1 | exact sm_get_p2e | refine sm_get_p1m (by decide) (by decide) ?_ | refine sm_get_p1n (by decide) rfl ?_ | refine sm_get_p2n (by decide) (by decide) rfl ?_)) ?_
  refine Bod.bip 43 (by decide) dc_288_618 ?_
  refine Bod.icF dc_288_620 rfl (k2_eq_F (k_ne 47 43 rfl rfl (by omega) (by omega) (by omega))) ?_
  refine Bod.ildG dc_288_623 (by repeat (first | exact h7 | exact sm_get_p1 | exact sm_get_p2e | refine sm_get_p1m (by decide) (by decide) ?_ | refine sm_get_p1n (by decide) rfl ?_ | refine sm_get_p2n (by decide) (by decide) rfl ?_)) ?_
  refine Bod.bip 45 (by decide) dc_288_625 ?_
  refine Bod.icF dc_288_627 rfl (k2_eq_F (k_ne 47 45 rfl rfl (by omega) (by omega) (by omega))) ?_
  refine Bod.ildG dc_288_630 (by repeat (first | exact h7 | exact sm_get_p1 | exact sm_get_p2e | refine sm_get_p1m (by decide) (by decide) ?_ | refine sm_get_p1n (by decide) rfl ?_ | refine sm_get_p2n (by decide) (by decide) rfl ?_)) ?_
  refine Bod.bip 42 (by decide) dc_288_632 ?_
  refine Bod.icF dc_288_634 rfl (k2_eq_F (k_ne 47 42 rfl rfl (by omega) (by omega) (by omega))) ?_
  refine Bod.ildG dc_288_637 (by repeat (first | exact h7 | exact sm_get_p1 | exact sm_get_p2e | refine sm_get_p1m (by decide) (by decide) ?_ | refine sm_get_p1n (by decide) rfl ?_ | refine sm_get_p2n (by decide) (by decide) rfl ?_)) ?_
  refine Bod.bip 37 (by decide) dc_288_639 ?_
  refine Bod.icF dc_288_641 rfl (k2_eq_F (k_ne 47 37 rfl rfl (by omega) (by omega) (by omega))) ?_
  refine Bod.ildG dc_288_644 (by repeat (first | exact h7 | exact sm_get_p1 | exact sm_get_p2e | refine sm_get_p1m (by decide) (by decide) ?_ | refine sm_get_p1n (by decide) rfl ?_ | refine sm_get_p2n (by decide) (by decide) rfl ?_)) ?_
  refine Bod.bip 61 (by decide) dc_288_646 ?_
  refine Bod.icF dc_288_648 rfl (k2_eq_F (k_ne 47 61 rfl rfl (by omega) (by omega) (by omega))) ?_
  refine Bod.ildG dc_288_651 (by repeat (first | exact h7 | exact sm_get_p1 | exact sm_get_p2e | refine sm_get_p1m (by decide) (by decide) ?_ | refine sm_get_p1n (by decide) rfl ?_ | refine sm_get_p2n (by decide) (by decide) rfl ?_)) ?_
  refine Bod.bip 60 (by decide) dc_288_653 ?_
  refine Bod.icF dc_288_655 rfl (k2_eq_F (k_ne 47 60 rfl rfl (by omega) (by omega) (by omega))) ?_
  refine Bod.ildG dc_288_658 (by repeat (first | exact h7 | exact sm_get_p1 | exact sm_get_p2e | refine sm_get_p1m (by decide) (by decide) ?_ | refine sm_get_p1n (by decide) rfl ?_ | refine sm_get_p2n (by decide) (by decide) rfl ?_)) ?_
  refine Bod.bip 62 (by decide) dc_288_660 ?_
  refine Bod.icT dc_288_662 rfl (k2_ne_T (k_ne 47 62 rfl rfl (by omega) (by omega) (by omega))) ?_
  refine Bod.ic 0 (by decide) dc_288_669 ?_
  refine Bod.ist dc_288_670 (by rw [ml_288]; exact Nat.le_of_ble_eq_true rfl) ?_
  refine Bod.aldnG dc_288_672 (by repeat (first | exact h0 | exact sm_get_p1 | exact sm_get_p2e | refine sm_get_p1m (by decide) (by decide) ?_ | refine sm_get_p1n (by decide) rfl ?_ | refine sm_get_p2n (by decide) (by decide) rfl ?_)) ?_
  refine Bod.go dc_288_673 rfl ?_
  refine Bod.ifF dc_288_675 rfl (k1_ne_F (k_eq 0 0 rfl rfl (by omega))) ?_
  refine Bod.go dc_288_678 rfl ?_
  refine Bod.ifT dc_288_680 rfl (k1_eq_T (k_eq 0 0 rfl rfl (by omega))) ?_
  refine Bod.bip 8 (by decide) dc_288_687 ?_
  refine Bod.go dc_288_689 rfl ?_
  refine Bod.ifT dc_288_691 rfl (k1_eq_T (k_eq 0 0 rfl rfl (by omega))) ?_
  refine Bod.ildG dc_288_706 (by repeat (first | exact h7 | exact sm_get_p1 | exact sm_get_p2e | refine sm_get_p1m (by decide) (by decide) ?_ | refine sm_get_p1n (by decide) rfl ?_ | refine sm_get_p2n (by decide) (by decide) rfl ?_)) ?_
  refine Bod.ildG dc_288_708 (by repeat (first | exact h4 | exact sm_get_p1 | exact sm_get_p2e | refine sm_get_p1m (by decide) (by decide) ?_ | refine sm_get_p1n (by decide) rfl ?_ | refine sm_get_p2n (by decide) (by decide) rfl ?_)) ?_
  refine Bod.ildG dc_288_710 (by repeat (first | exact h5 | exact sm_get_p1 | exact sm_get_p2e | refine sm_get_p1m (by decide) (by decide) ?_ | refine sm_get_p1n (by decide) rfl ?_ | refine sm_get_p2n (by decide) (by decide) rfl ?_)) ?_
  refine Bod.virt (r := []) dc_288_712 kr_288_151 ⟨Or.inl rfl, ow_293, cl_14⟩ (by rw [np_293]; rfl) (by rw [np_293]; rfl) (ob_of (mk_61 _)) (Nat.le_of_ble_eq_true rfl) (tok_ev (t := t) (kd := (nI 8)) (vl := (nI 47)) (ln := (nI l)) (bl := (nI bl)) (by first | assumption | rfl | exact congrArg nI (by omega) | (simp (disch := omega) only [rI, rIe, rA, rIA, rLA, rJA, rVI, rQI, rVA, rQA, upd_at,  rAI, rLI, rJI, nI_add, pk_sub, kc_0, kc_1, kc_2, kc_3, kc_4, kc_5, reduceIte, Nat.reduceEqDiff, Nat.add_zero, rI_hold, rI_hold, rL_hold, ht]; done)) (by omega)) ?_
  show Bod _ _ _ _ [] _ _ _
  refine Bod.ildG dc_288_715 (by repeat (first | exact h6 | exact sm_get_p1 | exact sm_get_p2e | refine sm_get_p1m (by decide) (by decide) ?_ | refine sm_get_p1n (by decide) rfl ?_ | refine sm_get_p2n (by decide) (by decide) rfl ?_)) ?_
  refine Bod.go dc_288_717 rfl ?_
  refine Bod.ifT dc_288_719 rfl (k1_eq_T (k_eq 0 0 rfl rfl (by omega))) ?_
  refine Bod.ic 1 (by decide) dc_288_726 ?_
  refine Bod.addN (p + 1) (by omega) dc_288_727 ?_
  refine Bod.ist dc_288_728 (by rw [ml_288]; exact Nat.le_of_ble_eq_true rfl) ?_
  refine Bod.go dc_288_730 rfl ?_
  exact hB _ (by repeat (first | exact h0 | exact sm_get_p1 | exact sm_get_p2e | refine sm_get_p1m (by decide) (by decide) ?_ | refine sm_get_p1n (by decide) rfl ?_ | refine sm_get_p2n (by decide) (by decide) rfl ?_)) (by repeat (first | exact h1 | exact sm_get_p1 | exact sm_get_p2e | refine sm_get_p1m (by decide) (by decide) ?_ | refine sm_get_p1n (by decide) rfl ?_ | refine sm_get_p2n (by decide) (by decide) rfl ?_)) (by repeat (first | exact h3 | exact sm_get_p1 | exact sm_get_p2e | refine sm_get_p1m (by decide) (by decide) ?_ | refine sm_get_p1n (by decide) rfl ?_ | refine sm_get_p2n (by decide) (by decide) rfl ?_)) (by repeat (first | exact h4 | exact sm_get_p1 | exact sm_get_p2e | refine sm_get_p1m (by decide) (by decide) ?_ | refine sm_get_p1n (by decide) rfl ?_ | refine sm_get_p2n (by decide) (by decide) rfl ?_)) (by repeat (first | exact h5 | exact sm_get_p1 | exact sm_get_p2e | refine sm_get_p1m (by decide) (by decide) ?_ | refine sm_get_p1n (by decide) rfl ?_ | refine sm_get_p2n (by decide) (by decide) rfl ?_)) (by repeat (first | exact h6 | exact sm_get_p1 | exact sm_get_p2e | refine sm_get_p1m (by decide) (by decide) ?_ | refine sm_get_p1n (by decide) rfl ?_ | refine sm_get_p2n (by decide) (by decide) rfl ?_))
theorem rs_58_61 {d : Nat} {S Sf : cS} {lv : sm_L} {v : Option Value} {e : Nat} {l : Nat} {bl : Nat} {p : Nat} {x : Int32} {st : Nat} {t : Nat} (heM : e ≤ 3000) (hp : p ≤ e) (h0 : sm_get lv 0 = some (.ref 61)) (h1 : sm_get lv 1 = some (.ref 107)) (h3 : sm_get lv 3 = some (.int (nI e))) (h4 : sm_get lv 4 = some (.int (nI l))) (h5 : sm_get lv 5 = some (.int (nI bl))) (h6 : sm_get lv 6 = some (.int (nI p))) (h7 : sm_get lv 7 = some (.int (nI 58))) (h8 : sm_get lv 8 = some (.int (nI st))) (hd : sm_get lv 9 = some (.int (nI 61))) (ht : sI S 6112 = nI t) (htM : t < 6002) (hB : ∀ lv1 : sm_L, sm_get lv1 0 = some (.ref 61) → sm_get lv1 1 = some (.ref 107) → sm_get lv1 3 = some (.int (nI e)) → sm_get lv1 4 = some (.int (nI l)) → sm_get lv1 5 = some (.int (nI bl)) → sm_get lv1 6 = some (.int (nI (p + 1))) → Bod (d + 8) 288 3 lv1 [] (wI 6112 (nI (t + 1)) (wA 70 t ((nI bl)) (wA 69 t ((nI l)) (wA 68 t ((nI 58)) (wA 67 t ((nI 5)) S))))) v Sf) : Bod (d + 8) 288 476 lv [] S v Sf := by
  refine Bod.ildG dc_288_476 (by repeat (first | exact hd | exact sm_get_p1 | exact sm_get_p2e | refine sm_get_p1m (by decide) (by decide) ?_ | refine sm_get_p1n (by decide) rfl ?_ | refine sm_get_p2n (by decide) (by decide) rfl ?_)) ?_
  refine Bod.bip 61 (by decide) dc_288_478 ?_
  refine Bod.icF dc_288_480 rfl (k2_ne_F (k_eq 61 61 rfl rfl (by omega))) ?_
  refine Bod.ildG dc_288_483 (by repeat (first | exact h7 | exact sm_get_p1 | exact sm_get_p2e | refine sm_get_p1m (by decide) (by decide) ?_ | refine sm_get_p1n (by decide) rfl ?_ | refine sm_get_p2n (by decide) (by decide) rfl ?_)) ?_
  refine Bod.bip 61 (by decide) dc_288_485 ?_
  refine Bod.icF dc_288_487 rfl (k2_eq_F (k_ne 58 61 rfl rfl (by omega) (by omega) (by omega))) ?_
  refine Bod.ildG dc_288_490 (by repeat (first | exact h7 | exact sm_get_p1 | exact sm_get_p2e | refine sm_get_p1m (by decide) (by decide) ?_ | refine sm_get_p1n (by decide) rfl ?_ | refine sm_get_p2n (by decide) (by decide) rfl ?_)) ?_
  refine Bod.bip 33 (by decide) dc_288_492 ?_
  refine Bod.icF dc_288_494 rfl (k2_eq_F (k_ne 58 33 rfl rfl (by omega) (by omega) (by omega))) ?_
  refine Bod.ildG dc_288_497 (by repeat (first | exact h7 | exact sm_get_p1 | exact sm_get_p2e | refine sm_get_p1m (by decide) (by decide) ?_ | refine sm_get_p1n (by decide) rfl ?_ | refine sm_get_p2n (by decide) (by decide) rfl ?_)) ?_
  refine Bod.bip 60 (by decide) dc_288_499 ?_
  refine Bod.icF dc_288_501 rfl (k2_eq_F (k_ne 58 60 rfl rfl (by omega) (by omega) (by omega))) ?_
  refine Bod.ildG dc_288_504 (by repeat (first | exact h7 | exact sm_get_p1 | exact sm_get_p2e | refine sm_get_p1m (by decide) (by decide) ?_ | refine sm_get_p1n (by decide) rfl ?_ | refine sm_get_p2n (by decide) (by decide) rfl ?_)) ?_
  refine Bod.bip 62 (by decide) dc_288_506 ?_
  refine Bod.icF dc_288_508 rfl (k2_eq_F (k_ne 58 62 rfl rfl (by omega) (by omega) (by omega))) ?_
  refine Bod.ildG dc_288_511 (by repeat (first | exact h7 | exact sm_get_p1 | exact sm_get_p2e | refine sm_get_p1m (by decide) (by decide) ?_ | refine sm_get_p1n (by decide) rfl ?_ | refine sm_get_p2n (by decide) (by decide) rfl ?_)) ?_
  refine Bod.bip 43 (by decide) dc_288_513 ?_
  refine Bod.icF dc_288_515 rfl (k2_eq_F (k_ne 58 43 rfl rfl (by omega) (by omega) (by omega))) ?_
  refine Bod.ildG dc_288_518 (by repeat (first | exact h7 | exact sm_get_p1 | exact sm_get_p2e | refine sm_get_p1m (by decide) (by decide) ?_ | refine sm_get_p1n (by decide) rfl ?_ | refine sm_get_p2n (by decide) (by decide) rfl ?_)) ?_
  refine Bod.bip 45 (by decide) dc_288_520 ?_
  refine Bod.icF dc_288_522 rfl (k2_eq_F (k_ne 58 45 rfl rfl (by omega) (by omega) (by omega))) ?_
  refine Bod.ildG dc_288_525 (by repeat (first | exact h7 | exact sm_get_p1 | exact sm_get_p2e | refine sm_get_p1m (by decide) (by decide) ?_ | refine sm_get_p1n (by decide) rfl ?_ | refine sm_get_p2n (by decide) (by decide) rfl ?_)) ?_
  refine Bod.bip 42 (by decide) dc_288_527 ?_
  refine Bod.icF dc_288_529 rfl (k2_eq_F (k_ne 58 42 rfl rfl (by omega) (by omega) (by omega))) ?_
  refine Bod.ildG dc_288_532 (by repeat (first | exact h7 | exact sm_get_p1 | exact sm_get_p2e | refine sm_get_p1m (by decide) (by decide) ?_ | refine sm_get_p1n (by decide) rfl ?_ | refine sm_get_p2n (by decide) (by decide) rfl ?_)) ?_
  refine Bod.bip 47 (by decide) dc_288_534 ?_
  refine Bod.icT dc_288_536 rfl (k2_ne_T (k_ne 58 47 rfl rfl (by omega) (by omega) (by omega))) ?_
  refine Bod.ic 0 (by decide) dc_288_550 ?_
  refine Bod.ist dc_288_551 (by rw [ml_288]; exact Nat.le_of_ble_eq_true rfl) ?_
  refine Bod.ildG dc_288_553 (by repeat (first | exact h7 | exact sm_get_p1 | exact sm_get_p2e | refine sm_get_p1m (by decide) (by decide) ?_ | refine sm_get_p1n (by decide) rfl ?_ | refine sm_get_p2n (by decide) (by decide) rfl ?_)) ?_
  refine Bod.bip 40 (by decide) dc_288_555 ?_
  refine Bod.icF dc_288_557 rfl (k2_eq_F (k_ne 58 40 rfl rfl (by omega) (by omega) (by omega))) ?_
  refine Bod.ildG dc_288_560 (by repeat (first | exact h7 | exact sm_get_p1 | exact sm_get_p2e | refine sm_get_p1m (by decide) (by decide) ?_ | refine sm_get_p1n (by decide) rfl ?_ | refine sm_get_p2n (by decide) (by decide) rfl ?_)) ?_
  refine Bod.bip 41 (by decide) dc_288_562 ?_
  refine Bod.icF dc_288_564 rfl (k2_eq_F (k_ne 58 41 rfl rfl (by omega) (by omega) (by omega))) ?_
  refine Bod.ildG dc_288_567 (by repeat (first | exact h7 | exact sm_get_p1 | exact sm_get_p2e | refine sm_get_p1m (by decide) (by decide) ?_ | refine sm_get_p1n (by decide) rfl ?_ | refine sm_get_p2n (by decide) (by decide) rfl ?_)) ?_
  refine Bod.bip 91 (by decide) dc_288_569 ?_
  refine Bod.icF dc_288_571 rfl (k2_eq_F (k_ne 58 91 rfl rfl (by omega) (by omega) (by omega))) ?_
  refine Bod.ildG dc_288_574 (by repeat (first | exact h7 | exact sm_get_p1 | exact sm_get_p2e | refine sm_get_p1m (by decide) (by decide) ?_ | refine sm_get_p1n (by decide) rfl ?_ | refine sm_get_p2n (by decide) (by decide) rfl ?_)) ?_
  refine Bod.bip 93 (by decide) dc_288_576 ?_
  refine Bod.icF dc_288_578 rfl (k2_eq_F (k_ne 58 93 rfl rfl (by omega) (by omega) (by omega))) ?_
  refine Bod.ildG dc_288_581 (by repeat (first | exact h7 | exact sm_get_p1 | exact sm_get_p2e | refine sm_get_p1m (by decide) (by decide) ?_ | refine sm_get_p1n (by decide) rfl ?_ | refine sm_get_p2n (by decide) (by decide) rfl ?_)) ?_
  refine Bod.bip 123 (by decide) dc_288_583 ?_
  refine Bod.icF dc_288_585 rfl (k2_eq_F (k_ne 58 123 rfl rfl (by omega) (by omega) (by omega))) ?_
  refine Bod.ildG dc_288_588 (by repeat (first | exact h7 | exact sm_get_p1 | exact sm_get_p2e | refine sm_get_p1m (by decide) (by decide) ?_ | refine sm_get_p1n (by decide) rfl ?_ | refine sm_get_p2n (by decide) (by decide) rfl ?_)) ?_
  refine Bod.bip 125 (by decide) dc_288_590 ?_
  refine Bod.icF dc_288_592 rfl (k2_eq_F (k_ne 58 125 rfl rfl (by omega) (by omega) (by omega))) ?_
  refine Bod.ildG dc_288_595 (by repeat (first | exact h7 | exact sm_get_p1 | exact sm_get_p2e | refine sm_get_p1m (by decide) (by decide) ?_ | refine sm_get_p1n (by decide) rfl ?_ | refine sm_get_p2n (by decide) (by decide) rfl ?_)) ?_
  refine Bod.bip 44 (by decide) dc_288_597 ?_
  refine Bod.icF dc_288_599 rfl (k2_eq_F (k_ne 58 44 rfl rfl (by omega) (by omega) (by omega))) ?_
  refine Bod.ildG dc_288_602 (by repeat (first | exact h7 | exact sm_get_p1 | exact sm_get_p2e | refine sm_get_p1m (by decide) (by decide) ?_ | refine sm_get_p1n (by decide) rfl ?_ | refine sm_get_p2n (by decide) (by decide) rfl ?_)) ?_
  refine Bod.bip 58 (by decide) dc_288_604 ?_
  refine Bod.icT dc_288_606 rfl (k2_eq_T (k_eq 58 58 rfl rfl (by omega))) ?_
  refine Bod.ic 1 (by decide) dc_288_665 ?_
  refine Bod.go dc_288_666 rfl ?_
  refine Bod.ist dc_288_670 (by rw [ml_288]; exact Nat.le_of_ble_eq_true rfl) ?_
  refine Bod.aldnG dc_288_672 (by repeat (first | exact h0 | exact sm_get_p1 | exact sm_get_p2e | refine sm_get_p1m (by decide) (by decide) ?_ | refine sm_get_p1n (by decide) rfl ?_ | refine sm_get_p2n (by decide) (by decide) rfl ?_)) ?_
  refine Bod.go dc_288_673 rfl ?_
  refine Bod.ifF dc_288_675 rfl (k1_ne_F (k_eq 0 0 rfl rfl (by omega))) ?_
  refine Bod.go dc_288_678 rfl ?_
  refine Bod.ifF dc_288_680 rfl (k1_eq_F (k_ne 1 0 rfl rfl (by omega) (by omega) (by omega))) ?_
  refine Bod.ic 5 (by decide) dc_288_683 ?_
  refine Bod.go dc_288_684 rfl ?_
  refine Bod.go dc_288_689 rfl ?_
  refine Bod.ifT dc_288_691 rfl (k1_eq_T (k_eq 0 0 rfl rfl (by omega))) ?_
  refine Bod.ildG dc_288_706 (by repeat (first | exact h7 | exact sm_get_p1 | exact sm_get_p2e | refine sm_get_p1m (by decide) (by decide) ?_ | refine sm_get_p1n (by decide) rfl ?_ | refine sm_get_p2n (by decide) (by decide) rfl ?_)) ?_
  refine Bod.ildG dc_288_708 (by repeat (first | exact h4 | exact sm_get_p1 | exact sm_get_p2e | refine sm_get_p1m (by decide) (by decide) ?_ | refine sm_get_p1n (by decide) rfl ?_ | refine sm_get_p2n (by decide) (by decide) rfl ?_)) ?_
  refine Bod.ildG dc_288_710 (by repeat (first | exact h5 | exact sm_get_p1 | exact sm_get_p2e | refine sm_get_p1m (by decide) (by decide) ?_ | refine sm_get_p1n (by decide) rfl ?_ | refine sm_get_p2n (by decide) (by decide) rfl ?_)) ?_
  refine Bod.virt (r := []) dc_288_712 kr_288_151 ⟨Or.inl rfl, ow_293, cl_14⟩ (by rw [np_293]; rfl) (by rw [np_293]; rfl) (ob_of (mk_61 _)) (Nat.le_of_ble_eq_true rfl) (tok_ev (t := t) (kd := (nI 5)) (vl := (nI 58)) (ln := (nI l)) (bl := (nI bl)) (by first | assumption | rfl | exact congrArg nI (by omega) | (simp (disch := omega) only [rI, rIe, rA, rIA, rLA, rJA, rVI, rQI, rVA, rQA, upd_at,  rAI, rLI, rJI, nI_add, pk_sub, kc_0, kc_1, kc_2, kc_3, kc_4, kc_5, reduceIte, Nat.reduceEqDiff, Nat.add_zero, rI_hold, rI_hold, rL_hold, ht]; done)) (by omega)) ?_
  show Bod _ _ _ _ [] _ _ _
  refine Bod.ildG dc_288_715 (by repeat (first | exact h6 | exact sm_get_p1 | exact sm_get_p2e | refine sm_get_p1m (by decide) (by decide) ?_ | refine sm_get_p1n (by decide) rfl ?_ | refine sm_get_p2n (by decide) (by decide) rfl ?_)) ?_
  refine Bod.go dc_288_717 rfl ?_
  refine Bod.ifT dc_288_719 rfl (k1_eq_T (k_eq 0 0 rfl rfl (by omega))) ?_
  refine Bod.ic 1 (by decide) dc_288_726 ?_
  refine Bod.addN (p + 1) (by omega) dc_288_727 ?_
  refine Bod.ist dc_288_728 (by rw [ml_288]; exact Nat.le_of_ble_eq_true rfl) ?_
  refine Bod.go dc_288_730 rfl ?_
  exact hB _ (by repeat (first | exact h0 | exact sm_get_p1 | exact sm_get_p2e | refine sm_get_p1m (by decide) (by decide) ?_ | refine sm_get_p1n (by decide) rfl ?_ | refine sm_get_p2n (by decide) (by decide) rfl ?_)) (by repeat (first | exact h1 | exact sm_get_p1 | exact sm_get_p2e | refine sm_get_p1m (by decide) (by decide) ?_ | refine sm_get_p1n (by decide) rfl ?_ | refine sm_get_p2n (by decide) (by decide) rfl ?_)) (by repeat (first | exact h3 | exact sm_get_p1 | exact sm_get_p2e | refine sm_get_p1m (by decide) (by decide) ?_ | refine sm_get_p1n (by decide) rfl ?_ | refine sm_get_p2n (by decide) (by decide) rfl ?_)) (by repeat (first | exact h4 | exact sm_get_p1 | exact sm_get_p2e | refine sm_get_p1m (by decide) (by decide) ?_ | refine sm_get_p1n (by decide) rfl ?_ | refine sm_get_p2n (by decide) (by decide) rfl ?_)) (by repeat (first | exact h5 | exact sm_get_p1 | exact sm_get_p2e | refine sm_get_p1m (by decide) (by decide) ?_ | refine sm_get_p1n (by decide) rfl ?_ | refine sm_get_p2n (by decide) (by decide) rfl ?_)) (by repeat (first | exact h6 | exact sm_get_p1 | exact sm_get_p2e | refine sm_get_p1m (by decide) (by decide) ?_ | refine sm_get_p1n (by decide) rfl ?_ | refine sm_get_p2n (by decide) (by decide) rfl ?_))
theorem rs_58_n {d : Nat} {S Sf : cS} {lv : sm_L} {v : Option Value} {e : Nat} {l : Nat} {bl : Nat} {p : Nat} {x : Int32} {st : Nat} {dd : Int32} {t : Nat} (heM : e ≤ 3000) (hp : p ≤ e) (h0 : sm_get lv 0 = some (.ref 61)) (h1 : sm_get lv 1 = some (.ref 107)) (h3 : sm_get lv 3 = some (.int (nI e))) (h4 : sm_get lv 4 = some (.int (nI l))) (h5 : sm_get lv 5 = some (.int (nI bl))) (h6 : sm_get lv 6 = some (.int (nI p))) (h7 : sm_get lv 7 = some (.int (nI 58))) (h8 : sm_get lv 8 = some (.int (nI st))) (hd : sm_get lv 9 = some (.int dd)) (n61 : dd ≠ nI 61) (ht : sI S 6112 = nI t) (htM : t < 6002) (hB : ∀ lv1 : sm_L, sm_get lv1 0 = some (.ref 61) → sm_get lv1 1 = some (.ref 107) → sm_get lv1 3 = some (.int (nI e)) → sm_get lv1 4 = some (.int (nI l)) → sm_get lv1 5 = some (.int (nI bl)) → sm_get lv1 6 = some (.int (nI (p + 1))) → Bod (d + 8) 288 3 lv1 [] (wI 6112 (nI (t + 1)) (wA 70 t ((nI bl)) (wA 69 t ((nI l)) (wA 68 t ((nI 58)) (wA 67 t ((nI 5)) S))))) v Sf) : Bod (d + 8) 288 476 lv [] S v Sf := by
  refine Bod.ildG dc_288_476 (by repeat (first | exact hd | exact sm_get_p1 | exact sm_get_p2e | refine sm_get_p1m (by decide) (by decide) ?_ | refine sm_get_p1n (by decide) rfl ?_ | refine sm_get_p2n (by decide) (by decide) rfl ?_)) ?_
  refine Bod.bip 61 (by decide) dc_288_478 ?_
  refine Bod.icT dc_288_480 rfl (k2_ne_T n61) ?_
  refine Bod.ildG dc_288_532 (by repeat (first | exact h7 | exact sm_get_p1 | exact sm_get_p2e | refine sm_get_p1m (by decide) (by decide) ?_ | refine sm_get_p1n (by decide) rfl ?_ | refine sm_get_p2n (by decide) (by decide) rfl ?_)) ?_
  refine Bod.bip 47 (by decide) dc_288_534 ?_
  refine Bod.icT dc_288_536 rfl (k2_ne_T (k_ne 58 47 rfl rfl (by omega) (by omega) (by omega))) ?_
  refine Bod.ic 0 (by decide) dc_288_550 ?_
  refine Bod.ist dc_288_551 (by rw [ml_288]; exact Nat.le_of_ble_eq_true rfl) ?_
  refine Bod.ildG dc_288_553 (by repeat (first | exact h7 | exact sm_get_p1 | exact sm_get_p2e | refine sm_get_p1m (by decide) (by decide) ?_ | refine sm_get_p1n (by decide) rfl ?_ | refine sm_get_p2n (by decide) (by decide) rfl ?_)) ?_
  refine Bod.bip 40 (by decide) dc_288_555 ?_
  refine Bod.icF dc_288_557 rfl (k2_eq_F (k_ne 58 40 rfl rfl (by omega) (by omega) (by omega))) ?_
  refine Bod.ildG dc_288_560 (by repeat (first | exact h7 | exact sm_get_p1 | exact sm_get_p2e | refine sm_get_p1m (by decide) (by decide) ?_ | refine sm_get_p1n (by decide) rfl ?_ | refine sm_get_p2n (by decide) (by decide) rfl ?_)) ?_
  refine Bod.bip 41 (by decide) dc_288_562 ?_
  refine Bod.icF dc_288_564 rfl (k2_eq_F (k_ne 58 41 rfl rfl (by omega) (by omega) (by omega))) ?_
  refine Bod.ildG dc_288_567 (by repeat (first | exact h7 | exact sm_get_p1 | exact sm_get_p2e | refine sm_get_p1m (by decide) (by decide) ?_ | refine sm_get_p1n (by decide) rfl ?_ | refine sm_get_p2n (by decide) (by decide) rfl ?_)) ?_
  refine Bod.bip 91 (by decide) dc_288_569 ?_
  refine Bod.icF dc_288_571 rfl (k2_eq_F (k_ne 58 91 rfl rfl (by omega) (by omega) (by omega))) ?_
  refine Bod.ildG dc_288_574 (by repeat (first | exact h7 | exact sm_get_p1 | exact sm_get_p2e | refine sm_get_p1m (by decide) (by decide) ?_ | refine sm_get_p1n (by decide) rfl ?_ | refine sm_get_p2n (by decide) (by decide) rfl ?_)) ?_
  refine Bod.bip 93 (by decide) dc_288_576 ?_
  refine Bod.icF dc_288_578 rfl (k2_eq_F (k_ne 58 93 rfl rfl (by omega) (by omega) (by omega))) ?_
  refine Bod.ildG dc_288_581 (by repeat (first | exact h7 | exact sm_get_p1 | exact sm_get_p2e | refine sm_get_p1m (by decide) (by decide) ?_ | refine sm_get_p1n (by decide) rfl ?_ | refine sm_get_p2n (by decide) (by decide) rfl ?_)) ?_
  refine Bod.bip 123 (by decide) dc_288_583 ?_
  refine Bod.icF dc_288_585 rfl (k2_eq_F (k_ne 58 123 rfl rfl (by omega) (by omega) (by omega))) ?_
  refine Bod.ildG dc_288_588 (by repeat (first | exact h7 | exact sm_get_p1 | exact sm_get_p2e | refine sm_get_p1m (by decide) (by decide) ?_ | refine sm_get_p1n (by decide) rfl ?_ | refine sm_get_p2n (by decide) (by decide) rfl ?_)) ?_
  refine Bod.bip 125 (by decide) dc_288_590 ?_
  refine Bod.icF dc_288_592 rfl (k2_eq_F (k_ne 58 125 rfl rfl (by omega) (by omega) (by omega))) ?_
  refine Bod.ildG dc_288_595 (by repeat (first | exact h7 | exact sm_get_p1 | exact sm_get_p2e | refine sm_get_p1m (by decide) (by decide) ?_ | refine sm_get_p1n (by decide) rfl ?_ | refine sm_get_p2n (by decide) (by decide) rfl ?_)) ?_
  refine Bod.bip 44 (by decide) dc_288_597 ?_
  refine Bod.icF dc_288_599 rfl (k2_eq_F (k_ne 58 44 rfl rfl (by omega) (by omega) (by omega))) ?_
  refine Bod.ildG dc_288_602 (by repeat (first | exact h7 | exact sm_get_p1 | exact sm_get_p2e | refine sm_get_p1m (by decide) (by decide) ?_ | refine sm_get_p1n (by decide) rfl ?_ | refine sm_get_p2n (by decide) (by decide) rfl ?_)) ?_
  refine Bod.bip 58 (by decide) dc_288_604 ?_
  refine Bod.icT dc_288_606 rfl (k2_eq_T (k_eq 58 58 rfl rfl (by omega))) ?_
  refine Bod.ic 1 (by decide) dc_288_665 ?_
  refine Bod.go dc_288_666 rfl ?_
  refine Bod.ist dc_288_670 (by rw [ml_288]; exact Nat.le_of_ble_eq_true rfl) ?_
  refine Bod.aldnG dc_288_672 (by repeat (first | exact h0 | exact sm_get_p1 | exact sm_get_p2e | refine sm_get_p1m (by decide) (by decide) ?_ | refine sm_get_p1n (by decide) rfl ?_ | refine sm_get_p2n (by decide) (by decide) rfl ?_)) ?_
  refine Bod.go dc_288_673 rfl ?_
  refine Bod.ifF dc_288_675 rfl (k1_ne_F (k_eq 0 0 rfl rfl (by omega))) ?_
  refine Bod.go dc_288_678 rfl ?_
  refine Bod.ifF dc_288_680 rfl (k1_eq_F (k_ne 1 0 rfl rfl (by omega) (by omega) (by omega))) ?_
  refine Bod.ic 5 (by decide) dc_288_683 ?_
  refine Bod.go dc_288_684 rfl ?_
  refine Bod.go dc_288_689 rfl ?_
  refine Bod.ifT dc_288_691 rfl (k1_eq_T (k_eq 0 0 rfl rfl (by omega))) ?_
  refine Bod.ildG dc_288_706 (by repeat (first | exact h7 | exact sm_get_p1 | exact sm_get_p2e | refine sm_get_p1m (by decide) (by decide) ?_ | refine sm_get_p1n (by decide) rfl ?_ | refine sm_get_p2n (by decide) (by decide) rfl ?_)) ?_
  refine Bod.ildG dc_288_708 (by repeat (first | exact h4 | exact sm_get_p1 | exact sm_get_p2e | refine sm_get_p1m (by decide) (by decide) ?_ | refine sm_get_p1n (by decide) rfl ?_ | refine sm_get_p2n (by decide) (by decide) rfl ?_)) ?_
  refine Bod.ildG dc_288_710 (by repeat (first | exact h5 | exact sm_get_p1 | exact sm_get_p2e | refine sm_get_p1m (by decide) (by decide) ?_ | refine sm_get_p1n (by decide) rfl ?_ | refine sm_get_p2n (by decide) (by decide) rfl ?_)) ?_
  refine Bod.virt (r := []) dc_288_712 kr_288_151 ⟨Or.inl rfl, ow_293, cl_14⟩ (by rw [np_293]; rfl) (by rw [np_293]; rfl) (ob_of (mk_61 _)) (Nat.le_of_ble_eq_true rfl) (tok_ev (t := t) (kd := (nI 5)) (vl := (nI 58)) (ln := (nI l)) (bl := (nI bl)) (by first | assumption | rfl | exact congrArg nI (by omega) | (simp (disch := omega) only [rI, rIe, rA, rIA, rLA, rJA, rVI, rQI, rVA, rQA, upd_at,  rAI, rLI, rJI, nI_add, pk_sub, kc_0, kc_1, kc_2, kc_3, kc_4, kc_5, reduceIte, Nat.reduceEqDiff, Nat.add_zero, rI_hold, rI_hold, rL_hold, ht]; done)) (by omega)) ?_
  show Bod _ _ _ _ [] _ _ _
  refine Bod.ildG dc_288_715 (by repeat (first | exact h6 | exact sm_get_p1 | exact sm_get_p2e | refine sm_get_p1m (by decide) (by decide) ?_ | refine sm_get_p1n (by decide) rfl ?_ | refine sm_get_p2n (by decide) (by decide) rfl ?_)) ?_
  refine Bod.go dc_288_717 rfl ?_
  refine Bod.ifT dc_288_719 rfl (k1_eq_T (k_eq 0 0 rfl rfl (by omega))) ?_
  refine Bod.ic 1 (by decide) dc_288_726 ?_
  refine Bod.addN (p + 1) (by omega) dc_288_727 ?_
  refine Bod.ist dc_288_728 (by rw [ml_288]; exact Nat.le_of_ble_eq_true rfl) ?_
  refine Bod.go dc_288_730 rfl ?_
  exact hB _ (by repeat (first | exact h0 | exact sm_get_p1 | exact sm_get_p2e | refine sm_get_p1m (by decide) (by decide) ?_ | refine sm_get_p1n (by decide) rfl ?_ | refine sm_get_p2n (by decide) (by decide) rfl ?_)) (by repeat (first | exact h1 | exact sm_get_p1 | exact sm_get_p2e | refine sm_get_p1m (by decide) (by decide) ?_ | refine sm_get_p1n (by decide) rfl ?_ | refine sm_get_p2n (by decide) (by decide) rfl ?_)) (by repeat (first | exact h3 | exact sm_get_p1 | exact sm_get_p2e | refine sm_get_p1m (by decide) (by decide) ?_ | refine sm_get_p1n (by decide) rfl ?_ | refine sm_get_p2n (by decide) (by decide) rfl ?_)) (by repeat (first | exact h4 | exact sm_get_p1 | exact sm_get_p2e | refine sm_get_p1m (by decide) (by decide) ?_ | refine sm_get_p1n (by decide) rfl ?_ | refine sm_get_p2n (by decide) (by decide) rfl ?_)) (by repeat (first | exact h5 | exact sm_get_p1 | exact sm_get_p2e | refine sm_get_p1m (by decide) (by decide) ?_ | refine sm_get_p1n (by decide) rfl ?_ | refine sm_get_p2n (by decide) (by decide) rfl ?_)) (by repeat (first | exact h6 | exact sm_get_p1 | exact sm_get_p2e | refine sm_get_p1m (by decide) (by decide) ?_ | refine sm_get_p1n (by decide) rfl ?_ | refine sm_get_p2n (by decide) (by decide) rfl ?_))
theorem rs_60_61 {d : Nat} {S Sf : cS} {lv : sm_L} {v : Option Value} {e : Nat} {l : Nat} {bl : Nat} {p : Nat} {x : Int32} {st : Nat} {t : Nat} (heM : e ≤ 3000) (hp : p ≤ e) (h0 : sm_get lv 0 = some (.ref 61)) (h1 : sm_get lv 1 = some (.ref 107)) (h3 : sm_get lv 3 = some (.int (nI e))) (h4 : sm_get lv 4 = some (.int (nI l))) (h5 : sm_get lv 5 = some (.int (nI bl))) (h6 : sm_get lv 6 = some (.int (nI p))) (h7 : sm_get lv 7 = some (.int (nI 60))) (h8 : sm_get lv 8 = some (.int (nI st))) (hd : sm_get lv 9 = some (.int (nI 61))) (ht : sI S 6112 = nI t) (htM : t < 6002) (hB : ∀ lv1 : sm_L, sm_get lv1 0 = some (.ref 61) → sm_get lv1 1 = some (.ref 107) → sm_get lv1 3 = some (.int (nI e)) → sm_get lv1 4 = some (.int (nI l)) → sm_get lv1 5 = some (.int (nI bl)) → sm_get lv1 6 = some (.int (nI (p + 2))) → Bod (d + 8) 288 3 lv1 [] (wI 6112 (nI (t + 1)) (wA 70 t ((nI bl)) (wA 69 t ((nI l)) (wA 68 t ((nI 15421)) (wA 67 t ((nI 5)) S))))) v Sf) : Bod (d + 8) 288 476 lv [] S v Sf := by
  refine Bod.ildG dc_288_476 (by repeat (first | exact hd | exact sm_get_p1 | exact sm_get_p2e | refine sm_get_p1m (by decide) (by decide) ?_ | refine sm_get_p1n (by decide) rfl ?_ | refine sm_get_p2n (by decide) (by decide) rfl ?_)) ?_
  refine Bod.bip 61 (by decide) dc_288_478 ?_
  refine Bod.icF dc_288_480 rfl (k2_ne_F (k_eq 61 61 rfl rfl (by omega))) ?_
  refine Bod.ildG dc_288_483 (by repeat (first | exact h7 | exact sm_get_p1 | exact sm_get_p2e | refine sm_get_p1m (by decide) (by decide) ?_ | refine sm_get_p1n (by decide) rfl ?_ | refine sm_get_p2n (by decide) (by decide) rfl ?_)) ?_
  refine Bod.bip 61 (by decide) dc_288_485 ?_
  refine Bod.icF dc_288_487 rfl (k2_eq_F (k_ne 60 61 rfl rfl (by omega) (by omega) (by omega))) ?_
  refine Bod.ildG dc_288_490 (by repeat (first | exact h7 | exact sm_get_p1 | exact sm_get_p2e | refine sm_get_p1m (by decide) (by decide) ?_ | refine sm_get_p1n (by decide) rfl ?_ | refine sm_get_p2n (by decide) (by decide) rfl ?_)) ?_
  refine Bod.bip 33 (by decide) dc_288_492 ?_
  refine Bod.icF dc_288_494 rfl (k2_eq_F (k_ne 60 33 rfl rfl (by omega) (by omega) (by omega))) ?_
  refine Bod.ildG dc_288_497 (by repeat (first | exact h7 | exact sm_get_p1 | exact sm_get_p2e | refine sm_get_p1m (by decide) (by decide) ?_ | refine sm_get_p1n (by decide) rfl ?_ | refine sm_get_p2n (by decide) (by decide) rfl ?_)) ?_
  refine Bod.bip 60 (by decide) dc_288_499 ?_
  refine Bod.icT dc_288_501 rfl (k2_eq_T (k_eq 60 60 rfl rfl (by omega))) ?_
  refine Bod.ic 1 (by decide) dc_288_546 ?_
  refine Bod.go dc_288_547 rfl ?_
  refine Bod.ist dc_288_551 (by rw [ml_288]; exact Nat.le_of_ble_eq_true rfl) ?_
  refine Bod.ildG dc_288_553 (by repeat (first | exact h7 | exact sm_get_p1 | exact sm_get_p2e | refine sm_get_p1m (by decide) (by decide) ?_ | refine sm_get_p1n (by decide) rfl ?_ | refine sm_get_p2n (by decide) (by decide) rfl ?_)) ?_
  refine Bod.bip 40 (by decide) dc_288_555 ?_
  refine Bod.icF dc_288_557 rfl (k2_eq_F (k_ne 60 40 rfl rfl (by omega) (by omega) (by omega))) ?_
  refine Bod.ildG dc_288_560 (by repeat (first | exact h7 | exact sm_get_p1 | exact sm_get_p2e | refine sm_get_p1m (by decide) (by decide) ?_ | refine sm_get_p1n (by decide) rfl ?_ | refine sm_get_p2n (by decide) (by decide) rfl ?_)) ?_
  refine Bod.bip 41 (by decide) dc_288_562 ?_
  refine Bod.icF dc_288_564 rfl (k2_eq_F (k_ne 60 41 rfl rfl (by omega) (by omega) (by omega))) ?_
  refine Bod.ildG dc_288_567 (by repeat (first | exact h7 | exact sm_get_p1 | exact sm_get_p2e | refine sm_get_p1m (by decide) (by decide) ?_ | refine sm_get_p1n (by decide) rfl ?_ | refine sm_get_p2n (by decide) (by decide) rfl ?_)) ?_
  refine Bod.bip 91 (by decide) dc_288_569 ?_
  refine Bod.icF dc_288_571 rfl (k2_eq_F (k_ne 60 91 rfl rfl (by omega) (by omega) (by omega))) ?_
  refine Bod.ildG dc_288_574 (by repeat (first | exact h7 | exact sm_get_p1 | exact sm_get_p2e | refine sm_get_p1m (by decide) (by decide) ?_ | refine sm_get_p1n (by decide) rfl ?_ | refine sm_get_p2n (by decide) (by decide) rfl ?_)) ?_
  refine Bod.bip 93 (by decide) dc_288_576 ?_
  refine Bod.icF dc_288_578 rfl (k2_eq_F (k_ne 60 93 rfl rfl (by omega) (by omega) (by omega))) ?_
  refine Bod.ildG dc_288_581 (by repeat (first | exact h7 | exact sm_get_p1 | exact sm_get_p2e | refine sm_get_p1m (by decide) (by decide) ?_ | refine sm_get_p1n (by decide) rfl ?_ | refine sm_get_p2n (by decide) (by decide) rfl ?_)) ?_
  refine Bod.bip 123 (by decide) dc_288_583 ?_
  refine Bod.icF dc_288_585 rfl (k2_eq_F (k_ne 60 123 rfl rfl (by omega) (by omega) (by omega))) ?_
  refine Bod.ildG dc_288_588 (by repeat (first | exact h7 | exact sm_get_p1 | exact sm_get_p2e | refine sm_get_p1m (by decide) (by decide) ?_ | refine sm_get_p1n (by decide) rfl ?_ | refine sm_get_p2n (by decide) (by decide) rfl ?_)) ?_
  refine Bod.bip 125 (by decide) dc_288_590 ?_
  refine Bod.icF dc_288_592 rfl (k2_eq_F (k_ne 60 125 rfl rfl (by omega) (by omega) (by omega))) ?_
  refine Bod.ildG dc_288_595 (by repeat (first | exact h7 | exact sm_get_p1 | exact sm_get_p2e | refine sm_get_p1m (by decide) (by decide) ?_ | refine sm_get_p1n (by decide) rfl ?_ | refine sm_get_p2n (by decide) (by decide) rfl ?_)) ?_
  refine Bod.bip 44 (by decide) dc_288_597 ?_
  refine Bod.icF dc_288_599 rfl (k2_eq_F (k_ne 60 44 rfl rfl (by omega) (by omega) (by omega))) ?_
  refine Bod.ildG dc_288_602 (by repeat (first | exact h7 | exact sm_get_p1 | exact sm_get_p2e | refine sm_get_p1m (by decide) (by decide) ?_ | refine sm_get_p1n (by decide) rfl ?_ | refine sm_get_p2n (by decide) (by decide) rfl ?_)) ?_
  refine Bod.bip 58 (by decide) dc_288_604 ?_
  refine Bod.icF dc_288_606 rfl (k2_eq_F (k_ne 60 58 rfl rfl (by omega) (by omega) (by omega))) ?_
  refine Bod.ildG dc_288_609 (by repeat (first | exact h7 | exact sm_get_p1 | exact sm_get_p2e | refine sm_get_p1m (by decide) (by decide) ?_ | refine sm_get_p1n (by decide) rfl ?_ | refine sm_get_p2n (by decide) (by decide) rfl ?_)) ?_
  refine Bod.bip 46 (by decide) dc_288_611 ?_
  refine Bod.icF dc_288_613 rfl (k2_eq_F (k_ne 60 46 rfl rfl (by omega) (by omega) (by omega))) ?_
  refine Bod.ildG dc_288_616 (by repeat (first | exact h7 | exact sm_get_p1 | exact sm_get_p2e | refine sm_get_p1m (by decide) (by decide) ?_ | refine sm_get_p1n (by decide) rfl ?_ | refine sm_get_p2n (by decide) (by decide) rfl ?_)) ?_
  refine Bod.bip 43 (by decide) dc_288_618 ?_
  refine Bod.icF dc_288_620 rfl (k2_eq_F (k_ne 60 43 rfl rfl (by omega) (by omega) (by omega))) ?_
  refine Bod.ildG dc_288_623 (by repeat (first | exact h7 | exact sm_get_p1 | exact sm_get_p2e | refine sm_get_p1m (by decide) (by decide) ?_ | refine sm_get_p1n (by decide) rfl ?_ | refine sm_get_p2n (by decide) (by decide) rfl ?_)) ?_
  refine Bod.bip 45 (by decide) dc_288_625 ?_
  refine Bod.icF dc_288_627 rfl (k2_eq_F (k_ne 60 45 rfl rfl (by omega) (by omega) (by omega))) ?_
  refine Bod.ildG dc_288_630 (by repeat (first | exact h7 | exact sm_get_p1 | exact sm_get_p2e | refine sm_get_p1m (by decide) (by decide) ?_ | refine sm_get_p1n (by decide) rfl ?_ | refine sm_get_p2n (by decide) (by decide) rfl ?_)) ?_
  refine Bod.bip 42 (by decide) dc_288_632 ?_
  refine Bod.icF dc_288_634 rfl (k2_eq_F (k_ne 60 42 rfl rfl (by omega) (by omega) (by omega))) ?_
  refine Bod.ildG dc_288_637 (by repeat (first | exact h7 | exact sm_get_p1 | exact sm_get_p2e | refine sm_get_p1m (by decide) (by decide) ?_ | refine sm_get_p1n (by decide) rfl ?_ | refine sm_get_p2n (by decide) (by decide) rfl ?_)) ?_
  refine Bod.bip 37 (by decide) dc_288_639 ?_
  refine Bod.icF dc_288_641 rfl (k2_eq_F (k_ne 60 37 rfl rfl (by omega) (by omega) (by omega))) ?_
  refine Bod.ildG dc_288_644 (by repeat (first | exact h7 | exact sm_get_p1 | exact sm_get_p2e | refine sm_get_p1m (by decide) (by decide) ?_ | refine sm_get_p1n (by decide) rfl ?_ | refine sm_get_p2n (by decide) (by decide) rfl ?_)) ?_
  refine Bod.bip 61 (by decide) dc_288_646 ?_
  refine Bod.icF dc_288_648 rfl (k2_eq_F (k_ne 60 61 rfl rfl (by omega) (by omega) (by omega))) ?_
  refine Bod.ildG dc_288_651 (by repeat (first | exact h7 | exact sm_get_p1 | exact sm_get_p2e | refine sm_get_p1m (by decide) (by decide) ?_ | refine sm_get_p1n (by decide) rfl ?_ | refine sm_get_p2n (by decide) (by decide) rfl ?_)) ?_
  refine Bod.bip 60 (by decide) dc_288_653 ?_
  refine Bod.icT dc_288_655 rfl (k2_eq_T (k_eq 60 60 rfl rfl (by omega))) ?_
  refine Bod.ic 1 (by decide) dc_288_665 ?_
  refine Bod.go dc_288_666 rfl ?_
  refine Bod.ist dc_288_670 (by rw [ml_288]; exact Nat.le_of_ble_eq_true rfl) ?_
  refine Bod.aldnG dc_288_672 (by repeat (first | exact h0 | exact sm_get_p1 | exact sm_get_p2e | refine sm_get_p1m (by decide) (by decide) ?_ | refine sm_get_p1n (by decide) rfl ?_ | refine sm_get_p2n (by decide) (by decide) rfl ?_)) ?_
  refine Bod.go dc_288_673 rfl ?_
  refine Bod.ifT dc_288_675 rfl (k1_ne_T (k_ne 1 0 rfl rfl (by omega) (by omega) (by omega))) ?_
  refine Bod.ic 5 (by decide) dc_288_683 ?_
  refine Bod.go dc_288_684 rfl ?_
  refine Bod.go dc_288_689 rfl ?_
  refine Bod.ifF dc_288_691 rfl (k1_eq_F (k_ne 1 0 rfl rfl (by omega) (by omega) (by omega))) ?_
  refine Bod.sip 256 (by decide) dc_288_694 ?_
  refine Bod.ildG dc_288_697 (by repeat (first | exact h7 | exact sm_get_p1 | exact sm_get_p2e | refine sm_get_p1m (by decide) (by decide) ?_ | refine sm_get_p1n (by decide) rfl ?_ | refine sm_get_p2n (by decide) (by decide) rfl ?_)) ?_
  refine Bod.mulN 15360 (by omega) dc_288_699 ?_
  refine Bod.ildG dc_288_700 (by repeat (first | exact hd | exact sm_get_p1 | exact sm_get_p2e | refine sm_get_p1m (by decide) (by decide) ?_ | refine sm_get_p1n (by decide) rfl ?_ | refine sm_get_p2n (by decide) (by decide) rfl ?_)) ?_
  refine Bod.addN 15421 (by omega) dc_288_702 ?_
  refine Bod.go dc_288_703 rfl ?_
  refine Bod.ildG dc_288_708 (by repeat (first | exact h4 | exact sm_get_p1 | exact sm_get_p2e | refine sm_get_p1m (by decide) (by decide) ?_ | refine sm_get_p1n (by decide) rfl ?_ | refine sm_get_p2n (by decide) (by decide) rfl ?_)) ?_
  refine Bod.ildG dc_288_710 (by repeat (first | exact h5 | exact sm_get_p1 | exact sm_get_p2e | refine sm_get_p1m (by decide) (by decide) ?_ | refine sm_get_p1n (by decide) rfl ?_ | refine sm_get_p2n (by decide) (by decide) rfl ?_)) ?_
  refine Bod.virt (r := []) dc_288_712 kr_288_151 ⟨Or.inl rfl, ow_293, cl_14⟩ (by rw [np_293]; rfl) (by rw [np_293]; rfl) (ob_of (mk_61 _)) (Nat.le_of_ble_eq_true rfl) (tok_ev (t := t) (kd := (nI 5)) (vl := (nI 15421)) (ln := (nI l)) (bl := (nI bl)) (by first | assumption | rfl | exact congrArg nI (by omega) | (simp (disch := omega) only [rI, rIe, rA, rIA, rLA, rJA, rVI, rQI, rVA, rQA, upd_at,  rAI, rLI, rJI, nI_add, pk_sub, kc_0, kc_1, kc_2, kc_3, kc_4, kc_5, reduceIte, Nat.reduceEqDiff, Nat.add_zero, rI_hold, rI_hold, rL_hold, ht]; done)) (by omega)) ?_
  show Bod _ _ _ _ [] _ _ _
  refine Bod.ildG dc_288_715 (by repeat (first | exact h6 | exact sm_get_p1 | exact sm_get_p2e | refine sm_get_p1m (by decide) (by decide) ?_ | refine sm_get_p1n (by decide) rfl ?_ | refine sm_get_p2n (by decide) (by decide) rfl ?_)) ?_
  refine Bod.go dc_288_717 rfl ?_
  refine Bod.ifF dc_288_719 rfl (k1_eq_F (k_ne 1 0 rfl rfl (by omega) (by omega) (by omega))) ?_
  refine Bod.ic 2 (by decide) dc_288_722 ?_
  refine Bod.go dc_288_723 rfl ?_
  refine Bod.addN (p + 2) (by omega) dc_288_727 ?_
  refine Bod.ist dc_288_728 (by rw [ml_288]; exact Nat.le_of_ble_eq_true rfl) ?_
  refine Bod.go dc_288_730 rfl ?_
  exact hB _ (by repeat (first | exact h0 | exact sm_get_p1 | exact sm_get_p2e | refine sm_get_p1m (by decide) (by decide) ?_ | refine sm_get_p1n (by decide) rfl ?_ | refine sm_get_p2n (by decide) (by decide) rfl ?_)) (by repeat (first | exact h1 | exact sm_get_p1 | exact sm_get_p2e | refine sm_get_p1m (by decide) (by decide) ?_ | refine sm_get_p1n (by decide) rfl ?_ | refine sm_get_p2n (by decide) (by decide) rfl ?_)) (by repeat (first | exact h3 | exact sm_get_p1 | exact sm_get_p2e | refine sm_get_p1m (by decide) (by decide) ?_ | refine sm_get_p1n (by decide) rfl ?_ | refine sm_get_p2n (by decide) (by decide) rfl ?_)) (by repeat (first | exact h4 | exact sm_get_p1 | exact sm_get_p2e | refine sm_get_p1m (by decide) (by decide) ?_ | refine sm_get_p1n (by decide) rfl ?_ | refine sm_get_p2n (by decide) (by decide) rfl ?_)) (by repeat (first | exact h5 | exact sm_get_p1 | exact sm_get_p2e | refine sm_get_p1m (by decide) (by decide) ?_ | refine sm_get_p1n (by decide) rfl ?_ | refine sm_get_p2n (by decide) (by decide) rfl ?_)) (by repeat (first | exact h6 | exact sm_get_p1 | exact sm_get_p2e | refine sm_get_p1m (by decide) (by decide) ?_ | refine sm_get_p1n (by decide) rfl ?_ | refine sm_get_p2n (by decide) (by decide) rfl ?_))
theorem rs_60_n {d : Nat} {S Sf : cS} {lv : sm_L} {v : Option Value} {e : Nat} {l : Nat} {bl : Nat} {p : Nat} {x : Int32} {st : Nat} {dd : Int32} {t : Nat} (heM : e ≤ 3000) (hp : p ≤ e) (h0 : sm_get lv 0 = some (.ref 61)) (h1 : sm_get lv 1 = some (.ref 107)) (h3 : sm_get lv 3 = some (.int (nI e))) (h4 : sm_get lv 4 = some (.int (nI l))) (h5 : sm_get lv 5 = some (.int (nI bl))) (h6 : sm_get lv 6 = some (.int (nI p))) (h7 : sm_get lv 7 = some (.int (nI 60))) (h8 : sm_get lv 8 = some (.int (nI st))) (hd : sm_get lv 9 = some (.int dd)) (n61 : dd ≠ nI 61) (ht : sI S 6112 = nI t) (htM : t < 6002) (hB : ∀ lv1 : sm_L, sm_get lv1 0 = some (.ref 61) → sm_get lv1 1 = some (.ref 107) → sm_get lv1 3 = some (.int (nI e)) → sm_get lv1 4 = some (.int (nI l)) → sm_get lv1 5 = some (.int (nI bl)) → sm_get lv1 6 = some (.int (nI (p + 1))) → Bod (d + 8) 288 3 lv1 [] (wI 6112 (nI (t + 1)) (wA 70 t ((nI bl)) (wA 69 t ((nI l)) (wA 68 t ((nI 60)) (wA 67 t ((nI 5)) S))))) v Sf) : Bod (d + 8) 288 476 lv [] S v Sf := by
  refine Bod.ildG dc_288_476 (by repeat (first | exact hd | exact sm_get_p1 | exact sm_get_p2e | refine sm_get_p1m (by decide) (by decide) ?_ | refine sm_get_p1n (by decide) rfl ?_ | refine sm_get_p2n (by decide) (by decide) rfl ?_)) ?_
  refine Bod.bip 61 (by decide) dc_288_478 ?_
  refine Bod.icT dc_288_480 rfl (k2_ne_T n61) ?_
  refine Bod.ildG dc_288_532 (by repeat (first | exact h7 | exact sm_get_p1 | exact sm_get_p2e | refine sm_get_p1m (by decide) (by decide) ?_ | refine sm_get_p1n (by decide) rfl ?_ | refine sm_get_p2n (by decide) (by decide) rfl ?_)) ?_
  refine Bod.bip 47 (by decide) dc_288_534 ?_
  refine Bod.icT dc_288_536 rfl (k2_ne_T (k_ne 60 47 rfl rfl (by omega) (by omega) (by omega))) ?_
  refine Bod.ic 0 (by decide) dc_288_550 ?_
  refine Bod.ist dc_288_551 (by rw [ml_288]; exact Nat.le_of_ble_eq_true rfl) ?_
  refine Bod.ildG dc_288_553 (by repeat (first | exact h7 | exact sm_get_p1 | exact sm_get_p2e | refine sm_get_p1m (by decide) (by decide) ?_ | refine sm_get_p1n (by decide) rfl ?_ | refine sm_get_p2n (by decide) (by decide) rfl ?_)) ?_
  refine Bod.bip 40 (by decide) dc_288_555 ?_
  refine Bod.icF dc_288_557 rfl (k2_eq_F (k_ne 60 40 rfl rfl (by omega) (by omega) (by omega))) ?_
  refine Bod.ildG dc_288_560 (by repeat (first | exact h7 | exact sm_get_p1 | exact sm_get_p2e | refine sm_get_p1m (by decide) (by decide) ?_ | refine sm_get_p1n (by decide) rfl ?_ | refine sm_get_p2n (by decide) (by decide) rfl ?_)) ?_
  refine Bod.bip 41 (by decide) dc_288_562 ?_
  refine Bod.icF dc_288_564 rfl (k2_eq_F (k_ne 60 41 rfl rfl (by omega) (by omega) (by omega))) ?_
  refine Bod.ildG dc_288_567 (by repeat (first | exact h7 | exact sm_get_p1 | exact sm_get_p2e | refine sm_get_p1m (by decide) (by decide) ?_ | refine sm_get_p1n (by decide) rfl ?_ | refine sm_get_p2n (by decide) (by decide) rfl ?_)) ?_
  refine Bod.bip 91 (by decide) dc_288_569 ?_
  refine Bod.icF dc_288_571 rfl (k2_eq_F (k_ne 60 91 rfl rfl (by omega) (by omega) (by omega))) ?_
  refine Bod.ildG dc_288_574 (by repeat (first | exact h7 | exact sm_get_p1 | exact sm_get_p2e | refine sm_get_p1m (by decide) (by decide) ?_ | refine sm_get_p1n (by decide) rfl ?_ | refine sm_get_p2n (by decide) (by decide) rfl ?_)) ?_
  refine Bod.bip 93 (by decide) dc_288_576 ?_
  refine Bod.icF dc_288_578 rfl (k2_eq_F (k_ne 60 93 rfl rfl (by omega) (by omega) (by omega))) ?_
  refine Bod.ildG dc_288_581 (by repeat (first | exact h7 | exact sm_get_p1 | exact sm_get_p2e | refine sm_get_p1m (by decide) (by decide) ?_ | refine sm_get_p1n (by decide) rfl ?_ | refine sm_get_p2n (by decide) (by decide) rfl ?_)) ?_
  refine Bod.bip 123 (by decide) dc_288_583 ?_
  refine Bod.icF dc_288_585 rfl (k2_eq_F (k_ne 60 123 rfl rfl (by omega) (by omega) (by omega))) ?_
  refine Bod.ildG dc_288_588 (by repeat (first | exact h7 | exact sm_get_p1 | exact sm_get_p2e | refine sm_get_p1m (by decide) (by decide) ?_ | refine sm_get_p1n (by decide) rfl ?_ | refine sm_get_p2n (by decide) (by decide) rfl ?_)) ?_
  refine Bod.bip 125 (by decide) dc_288_590 ?_
  refine Bod.icF dc_288_592 rfl (k2_eq_F (k_ne 60 125 rfl rfl (by omega) (by omega) (by omega))) ?_
  refine Bod.ildG dc_288_595 (by repeat (first | exact h7 | exact sm_get_p1 | exact sm_get_p2e | refine sm_get_p1m (by decide) (by decide) ?_ | refine sm_get_p1n (by decide) rfl ?_ | refine sm_get_p2n (by decide) (by decide) rfl ?_)) ?_
  refine Bod.bip 44 (by decide) dc_288_597 ?_
  refine Bod.icF dc_288_599 rfl (k2_eq_F (k_ne 60 44 rfl rfl (by omega) (by omega) (by omega))) ?_
  refine Bod.ildG dc_288_602 (by repeat (first | exact h7 | exact sm_get_p1 | exact sm_get_p2e | refine sm_get_p1m (by decide) (by decide) ?_ | refine sm_get_p1n (by decide) rfl ?_ | refine sm_get_p2n (by decide) (by decide) rfl ?_)) ?_
  refine Bod.bip 58 (by decide) dc_288_604 ?_
  refine Bod.icF dc_288_606 rfl (k2_eq_F (k_ne 60 58 rfl rfl (by omega) (by omega) (by omega))) ?_
  refine Bod.ildG dc_288_609 (by repeat (first | exact h7 | exact sm_get_p1 | exact sm_get_p2e | refine sm_get_p1m (by decide) (by decide) ?_ | refine sm_get_p1n (by decide) rfl ?_ | refine sm_get_p2n (by decide) (by decide) rfl ?_)) ?_
  refine Bod.bip 46 (by decide) dc_288_611 ?_
  refine Bod.icF dc_288_613 rfl (k2_eq_F (k_ne 60 46 rfl rfl (by omega) (by omega) (by omega))) ?_
  refine Bod.ildG dc_288_616 (by repeat (first | exact h7 | exact sm_get_p1 | exact sm_get_p2e | refine sm_get_p1m (by decide) (by decide) ?_ | refine sm_get_p1n (by decide) rfl ?_ | refine sm_get_p2n (by decide) (by decide) rfl ?_)) ?_
  refine Bod.bip 43 (by decide) dc_288_618 ?_
  refine Bod.icF dc_288_620 rfl (k2_eq_F (k_ne 60 43 rfl rfl (by omega) (by omega) (by omega))) ?_
  refine Bod.ildG dc_288_623 (by repeat (first | exact h7 | exact sm_get_p1 | exact sm_get_p2e | refine sm_get_p1m (by decide) (by decide) ?_ | refine sm_get_p1n (by decide) rfl ?_ | refine sm_get_p2n (by decide) (by decide) rfl ?_)) ?_
  refine Bod.bip 45 (by decide) dc_288_625 ?_
  refine Bod.icF dc_288_627 rfl (k2_eq_F (k_ne 60 45 rfl rfl (by omega) (by omega) (by omega))) ?_
  refine Bod.ildG dc_288_630 (by repeat (first | exact h7 | exact sm_get_p1 | exact sm_get_p2e | refine sm_get_p1m (by decide) (by decide) ?_ | refine sm_get_p1n (by decide) rfl ?_ | refine sm_get_p2n (by decide) (by decide) rfl ?_)) ?_
  refine Bod.bip 42 (by decide) dc_288_632 ?_
  refine Bod.icF dc_288_634 rfl (k2_eq_F (k_ne 60 42 rfl rfl (by omega) (by omega) (by omega))) ?_
  refine Bod.ildG dc_288_637 (by repeat (first | exact h7 | exact sm_get_p1 | exact sm_get_p2e | refine sm_get_p1m (by decide) (by decide) ?_ | refine sm_get_p1n (by decide) rfl ?_ | refine sm_get_p2n (by decide) (by decide) rfl ?_)) ?_
  refine Bod.bip 37 (by decide) dc_288_639 ?_
  refine Bod.icF dc_288_641 rfl (k2_eq_F (k_ne 60 37 rfl rfl (by omega) (by omega) (by omega))) ?_
  refine Bod.ildG dc_288_644 (by repeat (first | exact h7 | exact sm_get_p1 | exact sm_get_p2e | refine sm_get_p1m (by decide) (by decide) ?_ | refine sm_get_p1n (by decide) rfl ?_ | refine sm_get_p2n (by decide) (by decide) rfl ?_)) ?_
  refine Bod.bip 61 (by decide) dc_288_646 ?_
  refine Bod.icF dc_288_648 rfl (k2_eq_F (k_ne 60 61 rfl rfl (by omega) (by omega) (by omega))) ?_
  refine Bod.ildG dc_288_651 (by repeat (first | exact h7 | exact sm_get_p1 | exact sm_get_p2e | refine sm_get_p1m (by decide) (by decide) ?_ | refine sm_get_p1n (by decide) rfl ?_ | refine sm_get_p2n (by decide) (by decide) rfl ?_)) ?_
  refine Bod.bip 60 (by decide) dc_288_653 ?_
  refine Bod.icT dc_288_655 rfl (k2_eq_T (k_eq 60 60 rfl rfl (by omega))) ?_
  refine Bod.ic 1 (by decide) dc_288_665 ?_
  refine Bod.go dc_288_666 rfl ?_
  refine Bod.ist dc_288_670 (by rw [ml_288]; exact Nat.le_of_ble_eq_true rfl) ?_
  refine Bod.aldnG dc_288_672 (by repeat (first | exact h0 | exact sm_get_p1 | exact sm_get_p2e | refine sm_get_p1m (by decide) (by decide) ?_ | refine sm_get_p1n (by decide) rfl ?_ | refine sm_get_p2n (by decide) (by decide) rfl ?_)) ?_
  refine Bod.go dc_288_673 rfl ?_
  refine Bod.ifF dc_288_675 rfl (k1_ne_F (k_eq 0 0 rfl rfl (by omega))) ?_
  refine Bod.go dc_288_678 rfl ?_
  refine Bod.ifF dc_288_680 rfl (k1_eq_F (k_ne 1 0 rfl rfl (by omega) (by omega) (by omega))) ?_
  refine Bod.ic 5 (by decide) dc_288_683 ?_
  refine Bod.go dc_288_684 rfl ?_
  refine Bod.go dc_288_689 rfl ?_
  refine Bod.ifT dc_288_691 rfl (k1_eq_T (k_eq 0 0 rfl rfl (by omega))) ?_
  refine Bod.ildG dc_288_706 (by repeat (first | exact h7 | exact sm_get_p1 | exact sm_get_p2e | refine sm_get_p1m (by decide) (by decide) ?_ | refine sm_get_p1n (by decide) rfl ?_ | refine sm_get_p2n (by decide) (by decide) rfl ?_)) ?_
  refine Bod.ildG dc_288_708 (by repeat (first | exact h4 | exact sm_get_p1 | exact sm_get_p2e | refine sm_get_p1m (by decide) (by decide) ?_ | refine sm_get_p1n (by decide) rfl ?_ | refine sm_get_p2n (by decide) (by decide) rfl ?_)) ?_
  refine Bod.ildG dc_288_710 (by repeat (first | exact h5 | exact sm_get_p1 | exact sm_get_p2e | refine sm_get_p1m (by decide) (by decide) ?_ | refine sm_get_p1n (by decide) rfl ?_ | refine sm_get_p2n (by decide) (by decide) rfl ?_)) ?_
  refine Bod.virt (r := []) dc_288_712 kr_288_151 ⟨Or.inl rfl, ow_293, cl_14⟩ (by rw [np_293]; rfl) (by rw [np_293]; rfl) (ob_of (mk_61 _)) (Nat.le_of_ble_eq_true rfl) (tok_ev (t := t) (kd := (nI 5)) (vl := (nI 60)) (ln := (nI l)) (bl := (nI bl)) (by first | assumption | rfl | exact congrArg nI (by omega) | (simp (disch := omega) only [rI, rIe, rA, rIA, rLA, rJA, rVI, rQI, rVA, rQA, upd_at,  rAI, rLI, rJI, nI_add, pk_sub, kc_0, kc_1, kc_2, kc_3, kc_4, kc_5, reduceIte, Nat.reduceEqDiff, Nat.add_zero, rI_hold, rI_hold, rL_hold, ht]; done)) (by omega)) ?_
  show Bod _ _ _ _ [] _ _ _
  refine Bod.ildG dc_288_715 (by repeat (first | exact h6 | exact sm_get_p1 | exact sm_get_p2e | refine sm_get_p1m (by decide) (by decide) ?_ | refine sm_get_p1n (by decide) rfl ?_ | refine sm_get_p2n (by decide) (by decide) rfl ?_)) ?_
  refine Bod.go dc_288_717 rfl ?_
  refine Bod.ifT dc_288_719 rfl (k1_eq_T (k_eq 0 0 rfl rfl (by omega))) ?_
  refine Bod.ic 1 (by decide) dc_288_726 ?_
  refine Bod.addN (p + 1) (by omega) dc_288_727 ?_
  refine Bod.ist dc_288_728 (by rw [ml_288]; exact Nat.le_of_ble_eq_true rfl) ?_
  refine Bod.go dc_288_730 rfl ?_
  exact hB _ (by repeat (first | exact h0 | exact sm_get_p1 | exact sm_get_p2e | refine sm_get_p1m (by decide) (by decide) ?_ | refine sm_get_p1n (by decide) rfl ?_ | refine sm_get_p2n (by decide) (by decide) rfl ?_)) (by repeat (first | exact h1 | exact sm_get_p1 | exact sm_get_p2e | refine sm_get_p1m (by decide) (by decide) ?_ | refine sm_get_p1n (by decide) rfl ?_ | refine sm_get_p2n (by decide) (by decide) rfl ?_)) (by repeat (first | exact h3 | exact sm_get_p1 | exact sm_get_p2e | refine sm_get_p1m (by decide) (by decide) ?_ | refine sm_get_p1n (by decide) rfl ?_ | refine sm_get_p2n (by decide) (by decide) rfl ?_)) (by repeat (first | exact h4 | exact sm_get_p1 | exact sm_get_p2e | refine sm_get_p1m (by decide) (by decide) ?_ | refine sm_get_p1n (by decide) rfl ?_ | refine sm_get_p2n (by decide) (by decide) rfl ?_)) (by repeat (first | exact h5 | exact sm_get_p1 | exact sm_get_p2e | refine sm_get_p1m (by decide) (by decide) ?_ | refine sm_get_p1n (by decide) rfl ?_ | refine sm_get_p2n (by decide) (by decide) rfl ?_)) (by repeat (first | exact h6 | exact sm_get_p1 | exact sm_get_p2e | refine sm_get_p1m (by decide) (by decide) ?_ | refine sm_get_p1n (by decide) rfl ?_ | refine sm_get_p2n (by decide) (by decide) rfl ?_))
theorem rs_61_61 {d : Nat} {S Sf : cS} {lv : sm_L} {v : Option Value} {e : Nat} {l : Nat} {bl : Nat} {p : Nat} {x : Int32} {st : Nat} {t : Nat} (heM : e ≤ 3000) (hp : p ≤ e) (h0 : sm_get lv 0 = some (.ref 61)) (h1 : sm_get lv 1 = some (.ref 107)) (h3 : sm_get lv 3 = some (.int (nI e))) (h4 : sm_get lv 4 = some (.int (nI l))) (h5 : sm_get lv 5 = some (.int (nI bl))) (h6 : sm_get lv 6 = some (.int (nI p))) (h7 : sm_get lv 7 = some (.int (nI 61))) (h8 : sm_get lv 8 = some (.int (nI st))) (hd : sm_get lv 9 = some (.int (nI 61))) (ht : sI S 6112 = nI t) (htM : t < 6002) (hB : ∀ lv1 : sm_L, sm_get lv1 0 = some (.ref 61) → sm_get lv1 1 = some (.ref 107) → sm_get lv1 3 = some (.int (nI e)) → sm_get lv1 4 = some (.int (nI l)) → sm_get lv1 5 = some (.int (nI bl)) → sm_get lv1 6 = some (.int (nI (p + 2))) → Bod (d + 8) 288 3 lv1 [] (wI 6112 (nI (t + 1)) (wA 70 t ((nI bl)) (wA 69 t ((nI l)) (wA 68 t ((nI 15677)) (wA 67 t ((nI 5)) S))))) v Sf) : Bod (d + 8) 288 476 lv [] S v Sf := by
  refine Bod.ildG dc_288_476 (by repeat (first | exact hd | exact sm_get_p1 | exact sm_get_p2e | refine sm_get_p1m (by decide) (by decide) ?_ | refine sm_get_p1n (by decide) rfl ?_ | refine sm_get_p2n (by decide) (by decide) rfl ?_)) ?_
  refine Bod.bip 61 (by decide) dc_288_478 ?_
  refine Bod.icF dc_288_480 rfl (k2_ne_F (k_eq 61 61 rfl rfl (by omega))) ?_
  refine Bod.ildG dc_288_483 (by repeat (first | exact h7 | exact sm_get_p1 | exact sm_get_p2e | refine sm_get_p1m (by decide) (by decide) ?_ | refine sm_get_p1n (by decide) rfl ?_ | refine sm_get_p2n (by decide) (by decide) rfl ?_)) ?_
  refine Bod.bip 61 (by decide) dc_288_485 ?_
  refine Bod.icT dc_288_487 rfl (k2_eq_T (k_eq 61 61 rfl rfl (by omega))) ?_
  refine Bod.ic 1 (by decide) dc_288_546 ?_
  refine Bod.go dc_288_547 rfl ?_
  refine Bod.ist dc_288_551 (by rw [ml_288]; exact Nat.le_of_ble_eq_true rfl) ?_
  refine Bod.ildG dc_288_553 (by repeat (first | exact h7 | exact sm_get_p1 | exact sm_get_p2e | refine sm_get_p1m (by decide) (by decide) ?_ | refine sm_get_p1n (by decide) rfl ?_ | refine sm_get_p2n (by decide) (by decide) rfl ?_)) ?_
  refine Bod.bip 40 (by decide) dc_288_555 ?_
  refine Bod.icF dc_288_557 rfl (k2_eq_F (k_ne 61 40 rfl rfl (by omega) (by omega) (by omega))) ?_
  refine Bod.ildG dc_288_560 (by repeat (first | exact h7 | exact sm_get_p1 | exact sm_get_p2e | refine sm_get_p1m (by decide) (by decide) ?_ | refine sm_get_p1n (by decide) rfl ?_ | refine sm_get_p2n (by decide) (by decide) rfl ?_)) ?_
  refine Bod.bip 41 (by decide) dc_288_562 ?_
  refine Bod.icF dc_288_564 rfl (k2_eq_F (k_ne 61 41 rfl rfl (by omega) (by omega) (by omega))) ?_
  refine Bod.ildG dc_288_567 (by repeat (first | exact h7 | exact sm_get_p1 | exact sm_get_p2e | refine sm_get_p1m (by decide) (by decide) ?_ | refine sm_get_p1n (by decide) rfl ?_ | refine sm_get_p2n (by decide) (by decide) rfl ?_)) ?_
  refine Bod.bip 91 (by decide) dc_288_569 ?_
  refine Bod.icF dc_288_571 rfl (k2_eq_F (k_ne 61 91 rfl rfl (by omega) (by omega) (by omega))) ?_
  refine Bod.ildG dc_288_574 (by repeat (first | exact h7 | exact sm_get_p1 | exact sm_get_p2e | refine sm_get_p1m (by decide) (by decide) ?_ | refine sm_get_p1n (by decide) rfl ?_ | refine sm_get_p2n (by decide) (by decide) rfl ?_)) ?_
  refine Bod.bip 93 (by decide) dc_288_576 ?_
  refine Bod.icF dc_288_578 rfl (k2_eq_F (k_ne 61 93 rfl rfl (by omega) (by omega) (by omega))) ?_
  refine Bod.ildG dc_288_581 (by repeat (first | exact h7 | exact sm_get_p1 | exact sm_get_p2e | refine sm_get_p1m (by decide) (by decide) ?_ | refine sm_get_p1n (by decide) rfl ?_ | refine sm_get_p2n (by decide) (by decide) rfl ?_)) ?_
  refine Bod.bip 123 (by decide) dc_288_583 ?_
  refine Bod.icF dc_288_585 rfl (k2_eq_F (k_ne 61 123 rfl rfl (by omega) (by omega) (by omega))) ?_
  refine Bod.ildG dc_288_588 (by repeat (first | exact h7 | exact sm_get_p1 | exact sm_get_p2e | refine sm_get_p1m (by decide) (by decide) ?_ | refine sm_get_p1n (by decide) rfl ?_ | refine sm_get_p2n (by decide) (by decide) rfl ?_)) ?_
  refine Bod.bip 125 (by decide) dc_288_590 ?_
  refine Bod.icF dc_288_592 rfl (k2_eq_F (k_ne 61 125 rfl rfl (by omega) (by omega) (by omega))) ?_
  refine Bod.ildG dc_288_595 (by repeat (first | exact h7 | exact sm_get_p1 | exact sm_get_p2e | refine sm_get_p1m (by decide) (by decide) ?_ | refine sm_get_p1n (by decide) rfl ?_ | refine sm_get_p2n (by decide) (by decide) rfl ?_)) ?_
  refine Bod.bip 44 (by decide) dc_288_597 ?_
  refine Bod.icF dc_288_599 rfl (k2_eq_F (k_ne 61 44 rfl rfl (by omega) (by omega) (by omega))) ?_
  refine Bod.ildG dc_288_602 (by repeat (first | exact h7 | exact sm_get_p1 | exact sm_get_p2e | refine sm_get_p1m (by decide) (by decide) ?_ | refine sm_get_p1n (by decide) rfl ?_ | refine sm_get_p2n (by decide) (by decide) rfl ?_)) ?_
  refine Bod.bip 58 (by decide) dc_288_604 ?_
  refine Bod.icF dc_288_606 rfl (k2_eq_F (k_ne 61 58 rfl rfl (by omega) (by omega) (by omega))) ?_
  refine Bod.ildG dc_288_609 (by repeat (first | exact h7 | exact sm_get_p1 | exact sm_get_p2e | refine sm_get_p1m (by decide) (by decide) ?_ | refine sm_get_p1n (by decide) rfl ?_ | refine sm_get_p2n (by decide) (by decide) rfl ?_)) ?_
  refine Bod.bip 46 (by decide) dc_288_611 ?_
  refine Bod.icF dc_288_613 rfl (k2_eq_F (k_ne 61 46 rfl rfl (by omega) (by omega) (by omega))) ?_
  refine Bod.ildG dc_288_616 (by repeat (first | exact h7 | exact sm_get_p1 | exact sm_get_p2e | refine sm_get_p1m (by decide) (by decide) ?_ | refine sm_get_p1n (by decide) rfl ?_ | refine sm_get_p2n (by decide) (by decide) rfl ?_)) ?_
  refine Bod.bip 43 (by decide) dc_288_618 ?_
  refine Bod.icF dc_288_620 rfl (k2_eq_F (k_ne 61 43 rfl rfl (by omega) (by omega) (by omega))) ?_
  refine Bod.ildG dc_288_623 (by repeat (first | exact h7 | exact sm_get_p1 | exact sm_get_p2e | refine sm_get_p1m (by decide) (by decide) ?_ | refine sm_get_p1n (by decide) rfl ?_ | refine sm_get_p2n (by decide) (by decide) rfl ?_)) ?_
  refine Bod.bip 45 (by decide) dc_288_625 ?_
  refine Bod.icF dc_288_627 rfl (k2_eq_F (k_ne 61 45 rfl rfl (by omega) (by omega) (by omega))) ?_
  refine Bod.ildG dc_288_630 (by repeat (first | exact h7 | exact sm_get_p1 | exact sm_get_p2e | refine sm_get_p1m (by decide) (by decide) ?_ | refine sm_get_p1n (by decide) rfl ?_ | refine sm_get_p2n (by decide) (by decide) rfl ?_)) ?_
  refine Bod.bip 42 (by decide) dc_288_632 ?_
  refine Bod.icF dc_288_634 rfl (k2_eq_F (k_ne 61 42 rfl rfl (by omega) (by omega) (by omega))) ?_
  refine Bod.ildG dc_288_637 (by repeat (first | exact h7 | exact sm_get_p1 | exact sm_get_p2e | refine sm_get_p1m (by decide) (by decide) ?_ | refine sm_get_p1n (by decide) rfl ?_ | refine sm_get_p2n (by decide) (by decide) rfl ?_)) ?_
  refine Bod.bip 37 (by decide) dc_288_639 ?_
  refine Bod.icF dc_288_641 rfl (k2_eq_F (k_ne 61 37 rfl rfl (by omega) (by omega) (by omega))) ?_
  refine Bod.ildG dc_288_644 (by repeat (first | exact h7 | exact sm_get_p1 | exact sm_get_p2e | refine sm_get_p1m (by decide) (by decide) ?_ | refine sm_get_p1n (by decide) rfl ?_ | refine sm_get_p2n (by decide) (by decide) rfl ?_)) ?_
  refine Bod.bip 61 (by decide) dc_288_646 ?_
  refine Bod.icT dc_288_648 rfl (k2_eq_T (k_eq 61 61 rfl rfl (by omega))) ?_
  refine Bod.ic 1 (by decide) dc_288_665 ?_
  refine Bod.go dc_288_666 rfl ?_
  refine Bod.ist dc_288_670 (by rw [ml_288]; exact Nat.le_of_ble_eq_true rfl) ?_
  refine Bod.aldnG dc_288_672 (by repeat (first | exact h0 | exact sm_get_p1 | exact sm_get_p2e | refine sm_get_p1m (by decide) (by decide) ?_ | refine sm_get_p1n (by decide) rfl ?_ | refine sm_get_p2n (by decide) (by decide) rfl ?_)) ?_
  refine Bod.go dc_288_673 rfl ?_
  refine Bod.ifT dc_288_675 rfl (k1_ne_T (k_ne 1 0 rfl rfl (by omega) (by omega) (by omega))) ?_
  refine Bod.ic 5 (by decide) dc_288_683 ?_
  refine Bod.go dc_288_684 rfl ?_
  refine Bod.go dc_288_689 rfl ?_
  refine Bod.ifF dc_288_691 rfl (k1_eq_F (k_ne 1 0 rfl rfl (by omega) (by omega) (by omega))) ?_
  refine Bod.sip 256 (by decide) dc_288_694 ?_
  refine Bod.ildG dc_288_697 (by repeat (first | exact h7 | exact sm_get_p1 | exact sm_get_p2e | refine sm_get_p1m (by decide) (by decide) ?_ | refine sm_get_p1n (by decide) rfl ?_ | refine sm_get_p2n (by decide) (by decide) rfl ?_)) ?_
  refine Bod.mulN 15616 (by omega) dc_288_699 ?_
  refine Bod.ildG dc_288_700 (by repeat (first | exact hd | exact sm_get_p1 | exact sm_get_p2e | refine sm_get_p1m (by decide) (by decide) ?_ | refine sm_get_p1n (by decide) rfl ?_ | refine sm_get_p2n (by decide) (by decide) rfl ?_)) ?_
  refine Bod.addN 15677 (by omega) dc_288_702 ?_
  refine Bod.go dc_288_703 rfl ?_
  refine Bod.ildG dc_288_708 (by repeat (first | exact h4 | exact sm_get_p1 | exact sm_get_p2e | refine sm_get_p1m (by decide) (by decide) ?_ | refine sm_get_p1n (by decide) rfl ?_ | refine sm_get_p2n (by decide) (by decide) rfl ?_)) ?_
  refine Bod.ildG dc_288_710 (by repeat (first | exact h5 | exact sm_get_p1 | exact sm_get_p2e | refine sm_get_p1m (by decide) (by decide) ?_ | refine sm_get_p1n (by decide) rfl ?_ | refine sm_get_p2n (by decide) (by decide) rfl ?_)) ?_
  refine Bod.virt (r := []) dc_288_712 kr_288_151 ⟨Or.inl rfl, ow_293, cl_14⟩ (by rw [np_293]; rfl) (by rw [np_293]; rfl) (ob_of (mk_61 _)) (Nat.le_of_ble_eq_true rfl) (tok_ev (t := t) (kd := (nI 5)) (vl := (nI 15677)) (ln := (nI l)) (bl := (nI bl)) (by first | assumption | rfl | exact congrArg nI (by omega) | (simp (disch := omega) only [rI, rIe, rA, rIA, rLA, rJA, rVI, rQI, rVA, rQA, upd_at,  rAI, rLI, rJI, nI_add, pk_sub, kc_0, kc_1, kc_2, kc_3, kc_4, kc_5, reduceIte, Nat.reduceEqDiff, Nat.add_zero, rI_hold, rI_hold, rL_hold, ht]; done)) (by omega)) ?_
  show Bod _ _ _ _ [] _ _ _
  refine Bod.ildG dc_288_715 (by repeat (first | exact h6 | exact sm_get_p1 | exact sm_get_p2e | refine sm_get_p1m (by decide) (by decide) ?_ | refine sm_get_p1n (by decide) rfl ?_ | refine sm_get_p2n (by decide) (by decide) rfl ?_)) ?_
  refine Bod.go dc_288_717 rfl ?_
  refine Bod.ifF dc_288_719 rfl (k1_eq_F (k_ne 1 0 rfl rfl (by omega) (by omega) (by omega))) ?_
  refine Bod.ic 2 (by decide) dc_288_722 ?_
  refine Bod.go dc_288_723 rfl ?_
  refine Bod.addN (p + 2) (by omega) dc_288_727 ?_
  refine Bod.ist dc_288_728 (by rw [ml_288]; exact Nat.le_of_ble_eq_true rfl) ?_
  refine Bod.go dc_288_730 rfl ?_
  exact hB _ (by repeat (first | exact h0 | exact sm_get_p1 | exact sm_get_p2e | refine sm_get_p1m (by decide) (by decide) ?_ | refine sm_get_p1n (by decide) rfl ?_ | refine sm_get_p2n (by decide) (by decide) rfl ?_)) (by repeat (first | exact h1 | exact sm_get_p1 | exact sm_get_p2e | refine sm_get_p1m (by decide) (by decide) ?_ | refine sm_get_p1n (by decide) rfl ?_ | refine sm_get_p2n (by decide) (by decide) rfl ?_)) (by repeat (first | exact h3 | exact sm_get_p1 | exact sm_get_p2e | refine sm_get_p1m (by decide) (by decide) ?_ | refine sm_get_p1n (by decide) rfl ?_ | refine sm_get_p2n (by decide) (by decide) rfl ?_)) (by repeat (first | exact h4 | exact sm_get_p1 | exact sm_get_p2e | refine sm_get_p1m (by decide) (by decide) ?_ | refine sm_get_p1n (by decide) rfl ?_ | refine sm_get_p2n (by decide) (by decide) rfl ?_)) (by repeat (first | exact h5 | exact sm_get_p1 | exact sm_get_p2e | refine sm_get_p1m (by decide) (by decide) ?_ | refine sm_get_p1n (by decide) rfl ?_ | refine sm_get_p2n (by decide) (by decide) rfl ?_)) (by repeat (first | exact h6 | exact sm_get_p1 | exact sm_get_p2e | refine sm_get_p1m (by decide) (by decide) ?_ | refine sm_get_p1n (by decide) rfl ?_ | refine sm_get_p2n (by decide) (by decide) rfl ?_))
theorem rs_61_n {d : Nat} {S Sf : cS} {lv : sm_L} {v : Option Value} {e : Nat} {l : Nat} {bl : Nat} {p : Nat} {x : Int32} {st : Nat} {dd : Int32} {t : Nat} (heM : e ≤ 3000) (hp : p ≤ e) (h0 : sm_get lv 0 = some (.ref 61)) (h1 : sm_get lv 1 = some (.ref 107)) (h3 : sm_get lv 3 = some (.int (nI e))) (h4 : sm_get lv 4 = some (.int (nI l))) (h5 : sm_get lv 5 = some (.int (nI bl))) (h6 : sm_get lv 6 = some (.int (nI p))) (h7 : sm_get lv 7 = some (.int (nI 61))) (h8 : sm_get lv 8 = some (.int (nI st))) (hd : sm_get lv 9 = some (.int dd)) (n61 : dd ≠ nI 61) (ht : sI S 6112 = nI t) (htM : t < 6002) (hB : ∀ lv1 : sm_L, sm_get lv1 0 = some (.ref 61) → sm_get lv1 1 = some (.ref 107) → sm_get lv1 3 = some (.int (nI e)) → sm_get lv1 4 = some (.int (nI l)) → sm_get lv1 5 = some (.int (nI bl)) → sm_get lv1 6 = some (.int (nI (p + 1))) → Bod (d + 8) 288 3 lv1 [] (wI 6112 (nI (t + 1)) (wA 70 t ((nI bl)) (wA 69 t ((nI l)) (wA 68 t ((nI 61)) (wA 67 t ((nI 5)) S))))) v Sf) : Bod (d + 8) 288 476 lv [] S v Sf := by
  refine Bod.ildG dc_288_476 (by repeat (first | exact hd | exact sm_get_p1 | exact sm_get_p2e | refine sm_get_p1m (by decide) (by decide) ?_ | refine sm_get_p1n (by decide) rfl ?_ | refine sm_get_p2n (by decide) (by decide) rfl ?_)) ?_
  refine Bod.bip 61 (by decide) dc_288_478 ?_
  refine Bod.icT dc_288_480 rfl (k2_ne_T n61) ?_
  refine Bod.ildG dc_288_532 (by repeat (first | exact h7 | exact sm_get_p1 | exact sm_get_p2e | refine sm_get_p1m (by decide) (by decide) ?_ | refine sm_get_p1n (by decide) rfl ?_ | refine sm_get_p2n (by decide) (by decide) rfl ?_)) ?_
  refine Bod.bip 47 (by decide) dc_288_534 ?_
  refine Bod.icT dc_288_536 rfl (k2_ne_T (k_ne 61 47 rfl rfl (by omega) (by omega) (by omega))) ?_
  refine Bod.ic 0 (by decide) dc_288_550 ?_
  refine Bod.ist dc_288_551 (by rw [ml_288]; exact Nat.le_of_ble_eq_true rfl) ?_
  refine Bod.ildG dc_288_553 (by repeat (first | exact h7 | exact sm_get_p1 | exact sm_get_p2e | refine sm_get_p1m (by decide) (by decide) ?_ | refine sm_get_p1n (by decide) rfl ?_ | refine sm_get_p2n (by decide) (by decide) rfl ?_)) ?_
  refine Bod.bip 40 (by decide) dc_288_555 ?_
  refine Bod.icF dc_288_557 rfl (k2_eq_F (k_ne 61 40 rfl rfl (by omega) (by omega) (by omega))) ?_
  refine Bod.ildG dc_288_560 (by repeat (first | exact h7 | exact sm_get_p1 | exact sm_get_p2e | refine sm_get_p1m (by decide) (by decide) ?_ | refine sm_get_p1n (by decide) rfl ?_ | refine sm_get_p2n (by decide) (by decide) rfl ?_)) ?_
  refine Bod.bip 41 (by decide) dc_288_562 ?_
  refine Bod.icF dc_288_564 rfl (k2_eq_F (k_ne 61 41 rfl rfl (by omega) (by omega) (by omega))) ?_
  refine Bod.ildG dc_288_567 (by repeat (first | exact h7 | exact sm_get_p1 | exact sm_get_p2e | refine sm_get_p1m (by decide) (by decide) ?_ | refine sm_get_p1n (by decide) rfl ?_ | refine sm_get_p2n (by decide) (by decide) rfl ?_)) ?_
  refine Bod.bip 91 (by decide) dc_288_569 ?_
  refine Bod.icF dc_288_571 rfl (k2_eq_F (k_ne 61 91 rfl rfl (by omega) (by omega) (by omega))) ?_
  refine Bod.ildG dc_288_574 (by repeat (first | exact h7 | exact sm_get_p1 | exact sm_get_p2e | refine sm_get_p1m (by decide) (by decide) ?_ | refine sm_get_p1n (by decide) rfl ?_ | refine sm_get_p2n (by decide) (by decide) rfl ?_)) ?_
  refine Bod.bip 93 (by decide) dc_288_576 ?_
  refine Bod.icF dc_288_578 rfl (k2_eq_F (k_ne 61 93 rfl rfl (by omega) (by omega) (by omega))) ?_
  refine Bod.ildG dc_288_581 (by repeat (first | exact h7 | exact sm_get_p1 | exact sm_get_p2e | refine sm_get_p1m (by decide) (by decide) ?_ | refine sm_get_p1n (by decide) rfl ?_ | refine sm_get_p2n (by decide) (by decide) rfl ?_)) ?_
  refine Bod.bip 123 (by decide) dc_288_583 ?_
  refine Bod.icF dc_288_585 rfl (k2_eq_F (k_ne 61 123 rfl rfl (by omega) (by omega) (by omega))) ?_
  refine Bod.ildG dc_288_588 (by repeat (first | exact h7 | exact sm_get_p1 | exact sm_get_p2e | refine sm_get_p1m (by decide) (by decide) ?_ | refine sm_get_p1n (by decide) rfl ?_ | refine sm_get_p2n (by decide) (by decide) rfl ?_)) ?_
  refine Bod.bip 125 (by decide) dc_288_590 ?_
  refine Bod.icF dc_288_592 rfl (k2_eq_F (k_ne 61 125 rfl rfl (by omega) (by omega) (by omega))) ?_
  refine Bod.ildG dc_288_595 (by repeat (first | exact h7 | exact sm_get_p1 | exact sm_get_p2e | refine sm_get_p1m (by decide) (by decide) ?_ | refine sm_get_p1n (by decide) rfl ?_ | refine sm_get_p2n (by decide) (by decide) rfl ?_)) ?_
  refine Bod.bip 44 (by decide) dc_288_597 ?_
  refine Bod.icF dc_288_599 rfl (k2_eq_F (k_ne 61 44 rfl rfl (by omega) (by omega) (by omega))) ?_
  refine Bod.ildG dc_288_602 (by repeat (first | exact h7 | exact sm_get_p1 | exact sm_get_p2e | refine sm_get_p1m (by decide) (by decide) ?_ | refine sm_get_p1n (by decide) rfl ?_ | refine sm_get_p2n (by decide) (by decide) rfl ?_)) ?_
  refine Bod.bip 58 (by decide) dc_288_604 ?_
  refine Bod.icF dc_288_606 rfl (k2_eq_F (k_ne 61 58 rfl rfl (by omega) (by omega) (by omega))) ?_
  refine Bod.ildG dc_288_609 (by repeat (first | exact h7 | exact sm_get_p1 | exact sm_get_p2e | refine sm_get_p1m (by decide) (by decide) ?_ | refine sm_get_p1n (by decide) rfl ?_ | refine sm_get_p2n (by decide) (by decide) rfl ?_)) ?_
  refine Bod.bip 46 (by decide) dc_288_611 ?_
  refine Bod.icF dc_288_613 rfl (k2_eq_F (k_ne 61 46 rfl rfl (by omega) (by omega) (by omega))) ?_
  refine Bod.ildG dc_288_616 (by repeat (first | exact h7 | exact sm_get_p1 | exact sm_get_p2e | refine sm_get_p1m (by decide) (by decide) ?_ | refine sm_get_p1n (by decide) rfl ?_ | refine sm_get_p2n (by decide) (by decide) rfl ?_)) ?_
  refine Bod.bip 43 (by decide) dc_288_618 ?_
  refine Bod.icF dc_288_620 rfl (k2_eq_F (k_ne 61 43 rfl rfl (by omega) (by omega) (by omega))) ?_
  refine Bod.ildG dc_288_623 (by repeat (first | exact h7 | exact sm_get_p1 | exact sm_get_p2e | refine sm_get_p1m (by decide) (by decide) ?_ | refine sm_get_p1n (by decide) rfl ?_ | refine sm_get_p2n (by decide) (by decide) rfl ?_)) ?_
  refine Bod.bip 45 (by decide) dc_288_625 ?_
  refine Bod.icF dc_288_627 rfl (k2_eq_F (k_ne 61 45 rfl rfl (by omega) (by omega) (by omega))) ?_
  refine Bod.ildG dc_288_630 (by repeat (first | exact h7 | exact sm_get_p1 | exact sm_get_p2e | refine sm_get_p1m (by decide) (by decide) ?_ | refine sm_get_p1n (by decide) rfl ?_ | refine sm_get_p2n (by decide) (by decide) rfl ?_)) ?_
  refine Bod.bip 42 (by decide) dc_288_632 ?_
  refine Bod.icF dc_288_634 rfl (k2_eq_F (k_ne 61 42 rfl rfl (by omega) (by omega) (by omega))) ?_
  refine Bod.ildG dc_288_637 (by repeat (first | exact h7 | exact sm_get_p1 | exact sm_get_p2e | refine sm_get_p1m (by decide) (by decide) ?_ | refine sm_get_p1n (by decide) rfl ?_ | refine sm_get_p2n (by decide) (by decide) rfl ?_)) ?_
  refine Bod.bip 37 (by decide) dc_288_639 ?_
  refine Bod.icF dc_288_641 rfl (k2_eq_F (k_ne 61 37 rfl rfl (by omega) (by omega) (by omega))) ?_
  refine Bod.ildG dc_288_644 (by repeat (first | exact h7 | exact sm_get_p1 | exact sm_get_p2e | refine sm_get_p1m (by decide) (by decide) ?_ | refine sm_get_p1n (by decide) rfl ?_ | refine sm_get_p2n (by decide) (by decide) rfl ?_)) ?_
  refine Bod.bip 61 (by decide) dc_288_646 ?_
  refine Bod.icT dc_288_648 rfl (k2_eq_T (k_eq 61 61 rfl rfl (by omega))) ?_
  refine Bod.ic 1 (by decide) dc_288_665 ?_
  refine Bod.go dc_288_666 rfl ?_
  refine Bod.ist dc_288_670 (by rw [ml_288]; exact Nat.le_of_ble_eq_true rfl) ?_
  refine Bod.aldnG dc_288_672 (by repeat (first | exact h0 | exact sm_get_p1 | exact sm_get_p2e | refine sm_get_p1m (by decide) (by decide) ?_ | refine sm_get_p1n (by decide) rfl ?_ | refine sm_get_p2n (by decide) (by decide) rfl ?_)) ?_
  refine Bod.go dc_288_673 rfl ?_
  refine Bod.ifF dc_288_675 rfl (k1_ne_F (k_eq 0 0 rfl rfl (by omega))) ?_
  refine Bod.go dc_288_678 rfl ?_
  refine Bod.ifF dc_288_680 rfl (k1_eq_F (k_ne 1 0 rfl rfl (by omega) (by omega) (by omega))) ?_
  refine Bod.ic 5 (by decide) dc_288_683 ?_
  refine Bod.go dc_288_684 rfl ?_
  refine Bod.go dc_288_689 rfl ?_
  refine Bod.ifT dc_288_691 rfl (k1_eq_T (k_eq 0 0 rfl rfl (by omega))) ?_
  refine Bod.ildG dc_288_706 (by repeat (first | exact h7 | exact sm_get_p1 | exact sm_get_p2e | refine sm_get_p1m (by decide) (by decide) ?_ | refine sm_get_p1n (by decide) rfl ?_ | refine sm_get_p2n (by decide) (by decide) rfl ?_)) ?_
  refine Bod.ildG dc_288_708 (by repeat (first | exact h4 | exact sm_get_p1 | exact sm_get_p2e | refine sm_get_p1m (by decide) (by decide) ?_ | refine sm_get_p1n (by decide) rfl ?_ | refine sm_get_p2n (by decide) (by decide) rfl ?_)) ?_
  refine Bod.ildG dc_288_710 (by repeat (first | exact h5 | exact sm_get_p1 | exact sm_get_p2e | refine sm_get_p1m (by decide) (by decide) ?_ | refine sm_get_p1n (by decide) rfl ?_ | refine sm_get_p2n (by decide) (by decide) rfl ?_)) ?_
  refine Bod.virt (r := []) dc_288_712 kr_288_151 ⟨Or.inl rfl, ow_293, cl_14⟩ (by rw [np_293]; rfl) (by rw [np_293]; rfl) (ob_of (mk_61 _)) (Nat.le_of_ble_eq_true rfl) (tok_ev (t := t) (kd := (nI 5)) (vl := (nI 61)) (ln := (nI l)) (bl := (nI bl)) (by first | assumption | rfl | exact congrArg nI (by omega) | (simp (disch := omega) only [rI, rIe, rA, rIA, rLA, rJA, rVI, rQI, rVA, rQA, upd_at,  rAI, rLI, rJI, nI_add, pk_sub, kc_0, kc_1, kc_2, kc_3, kc_4, kc_5, reduceIte, Nat.reduceEqDiff, Nat.add_zero, rI_hold, rI_hold, rL_hold, ht]; done)) (by omega)) ?_
  show Bod _ _ _ _ [] _ _ _
  refine Bod.ildG dc_288_715 (by repeat (first | exact h6 | exact sm_get_p1 | exact sm_get_p2e | refine sm_get_p1m (by decide) (by decide) ?_ | refine sm_get_p1n (by decide) rfl ?_ | refine sm_get_p2n (by decide) (by decide) rfl ?_)) ?_
  refine Bod.go dc_288_717 rfl ?_
  refine Bod.ifT dc_288_719 rfl (k1_eq_T (k_eq 0 0 rfl rfl (by omega))) ?_
  refine Bod.ic 1 (by decide) dc_288_726 ?_
  refine Bod.addN (p + 1) (by omega) dc_288_727 ?_
  refine Bod.ist dc_288_728 (by rw [ml_288]; exact Nat.le_of_ble_eq_true rfl) ?_
  refine Bod.go dc_288_730 rfl ?_
  exact hB _ (by repeat (first | exact h0 | exact sm_get_p1 | exact sm_get_p2e | refine sm_get_p1m (by decide) (by decide) ?_ | refine sm_get_p1n (by decide) rfl ?_ | refine sm_get_p2n (by decide) (by decide) rfl ?_)) (by repeat (first | exact h1 | exact sm_get_p1 | exact sm_get_p2e | refine sm_get_p1m (by decide) (by decide) ?_ | refine sm_get_p1n (by decide) rfl ?_ | refine sm_get_p2n (by decide) (by decide) rfl ?_)) (by repeat (first | exact h3 | exact sm_get_p1 | exact sm_get_p2e | refine sm_get_p1m (by decide) (by decide) ?_ | refine sm_get_p1n (by decide) rfl ?_ | refine sm_get_p2n (by decide) (by decide) rfl ?_)) (by repeat (first | exact h4 | exact sm_get_p1 | exact sm_get_p2e | refine sm_get_p1m (by decide) (by decide) ?_ | refine sm_get_p1n (by decide) rfl ?_ | refine sm_get_p2n (by decide) (by decide) rfl ?_)) (by repeat (first | exact h5 | exact sm_get_p1 | exact sm_get_p2e | refine sm_get_p1m (by decide) (by decide) ?_ | refine sm_get_p1n (by decide) rfl ?_ | refine sm_get_p2n (by decide) (by decide) rfl ?_)) (by repeat (first | exact h6 | exact sm_get_p1 | exact sm_get_p2e | refine sm_get_p1m (by decide) (by decide) ?_ | refine sm_get_p1n (by decide) rfl ?_ | refine sm_get_p2n (by decide) (by decide) rfl ?_))
theorem rs_62_61 {d : Nat} {S Sf : cS} {lv : sm_L} {v : Option Value} {e : Nat} {l : Nat} {bl : Nat} {p : Nat} {x : Int32} {st : Nat} {t : Nat} (heM : e ≤ 3000) (hp : p ≤ e) (h0 : sm_get lv 0 = some (.ref 61)) (h1 : sm_get lv 1 = some (.ref 107)) (h3 : sm_get lv 3 = some (.int (nI e))) (h4 : sm_get lv 4 = some (.int (nI l))) (h5 : sm_get lv 5 = some (.int (nI bl))) (h6 : sm_get lv 6 = some (.int (nI p))) (h7 : sm_get lv 7 = some (.int (nI 62))) (h8 : sm_get lv 8 = some (.int (nI st))) (hd : sm_get lv 9 = some (.int (nI 61))) (ht : sI S 6112 = nI t) (htM : t < 6002) (hB : ∀ lv1 : sm_L, sm_get lv1 0 = some (.ref 61) → sm_get lv1 1 = some (.ref 107) → sm_get lv1 3 = some (.int (nI e)) → sm_get lv1 4 = some (.int (nI l)) → sm_get lv1 5 = some (.int (nI bl)) → sm_get lv1 6 = some (.int (nI (p + 2))) → Bod (d + 8) 288 3 lv1 [] (wI 6112 (nI (t + 1)) (wA 70 t ((nI bl)) (wA 69 t ((nI l)) (wA 68 t ((nI 15933)) (wA 67 t ((nI 5)) S))))) v Sf) : Bod (d + 8) 288 476 lv [] S v Sf := by
  refine Bod.ildG dc_288_476 (by repeat (first | exact hd | exact sm_get_p1 | exact sm_get_p2e | refine sm_get_p1m (by decide) (by decide) ?_ | refine sm_get_p1n (by decide) rfl ?_ | refine sm_get_p2n (by decide) (by decide) rfl ?_)) ?_
  refine Bod.bip 61 (by decide) dc_288_478 ?_
  refine Bod.icF dc_288_480 rfl (k2_ne_F (k_eq 61 61 rfl rfl (by omega))) ?_
  refine Bod.ildG dc_288_483 (by repeat (first | exact h7 | exact sm_get_p1 | exact sm_get_p2e | refine sm_get_p1m (by decide) (by decide) ?_ | refine sm_get_p1n (by decide) rfl ?_ | refine sm_get_p2n (by decide) (by decide) rfl ?_)) ?_
  refine Bod.bip 61 (by decide) dc_288_485 ?_
  refine Bod.icF dc_288_487 rfl (k2_eq_F (k_ne 62 61 rfl rfl (by omega) (by omega) (by omega))) ?_
  refine Bod.ildG dc_288_490 (by repeat (first | exact h7 | exact sm_get_p1 | exact sm_get_p2e | refine sm_get_p1m (by decide) (by decide) ?_ | refine sm_get_p1n (by decide) rfl ?_ | refine sm_get_p2n (by decide) (by decide) rfl ?_)) ?_
  refine Bod.bip 33 (by decide) dc_288_492 ?_
  refine Bod.icF dc_288_494 rfl (k2_eq_F (k_ne 62 33 rfl rfl (by omega) (by omega) (by omega))) ?_
  refine Bod.ildG dc_288_497 (by repeat (first | exact h7 | exact sm_get_p1 | exact sm_get_p2e | refine sm_get_p1m (by decide) (by decide) ?_ | refine sm_get_p1n (by decide) rfl ?_ | refine sm_get_p2n (by decide) (by decide) rfl ?_)) ?_
  refine Bod.bip 60 (by decide) dc_288_499 ?_
  refine Bod.icF dc_288_501 rfl (k2_eq_F (k_ne 62 60 rfl rfl (by omega) (by omega) (by omega))) ?_
  refine Bod.ildG dc_288_504 (by repeat (first | exact h7 | exact sm_get_p1 | exact sm_get_p2e | refine sm_get_p1m (by decide) (by decide) ?_ | refine sm_get_p1n (by decide) rfl ?_ | refine sm_get_p2n (by decide) (by decide) rfl ?_)) ?_
  refine Bod.bip 62 (by decide) dc_288_506 ?_
  refine Bod.icT dc_288_508 rfl (k2_eq_T (k_eq 62 62 rfl rfl (by omega))) ?_
  refine Bod.ic 1 (by decide) dc_288_546 ?_
  refine Bod.go dc_288_547 rfl ?_
  refine Bod.ist dc_288_551 (by rw [ml_288]; exact Nat.le_of_ble_eq_true rfl) ?_
  refine Bod.ildG dc_288_553 (by repeat (first | exact h7 | exact sm_get_p1 | exact sm_get_p2e | refine sm_get_p1m (by decide) (by decide) ?_ | refine sm_get_p1n (by decide) rfl ?_ | refine sm_get_p2n (by decide) (by decide) rfl ?_)) ?_
  refine Bod.bip 40 (by decide) dc_288_555 ?_
  refine Bod.icF dc_288_557 rfl (k2_eq_F (k_ne 62 40 rfl rfl (by omega) (by omega) (by omega))) ?_
  refine Bod.ildG dc_288_560 (by repeat (first | exact h7 | exact sm_get_p1 | exact sm_get_p2e | refine sm_get_p1m (by decide) (by decide) ?_ | refine sm_get_p1n (by decide) rfl ?_ | refine sm_get_p2n (by decide) (by decide) rfl ?_)) ?_
  refine Bod.bip 41 (by decide) dc_288_562 ?_
  refine Bod.icF dc_288_564 rfl (k2_eq_F (k_ne 62 41 rfl rfl (by omega) (by omega) (by omega))) ?_
  refine Bod.ildG dc_288_567 (by repeat (first | exact h7 | exact sm_get_p1 | exact sm_get_p2e | refine sm_get_p1m (by decide) (by decide) ?_ | refine sm_get_p1n (by decide) rfl ?_ | refine sm_get_p2n (by decide) (by decide) rfl ?_)) ?_
  refine Bod.bip 91 (by decide) dc_288_569 ?_
  refine Bod.icF dc_288_571 rfl (k2_eq_F (k_ne 62 91 rfl rfl (by omega) (by omega) (by omega))) ?_
  refine Bod.ildG dc_288_574 (by repeat (first | exact h7 | exact sm_get_p1 | exact sm_get_p2e | refine sm_get_p1m (by decide) (by decide) ?_ | refine sm_get_p1n (by decide) rfl ?_ | refine sm_get_p2n (by decide) (by decide) rfl ?_)) ?_
  refine Bod.bip 93 (by decide) dc_288_576 ?_
  refine Bod.icF dc_288_578 rfl (k2_eq_F (k_ne 62 93 rfl rfl (by omega) (by omega) (by omega))) ?_
  refine Bod.ildG dc_288_581 (by repeat (first | exact h7 | exact sm_get_p1 | exact sm_get_p2e | refine sm_get_p1m (by decide) (by decide) ?_ | refine sm_get_p1n (by decide) rfl ?_ | refine sm_get_p2n (by decide) (by decide) rfl ?_)) ?_
  refine Bod.bip 123 (by decide) dc_288_583 ?_
  refine Bod.icF dc_288_585 rfl (k2_eq_F (k_ne 62 123 rfl rfl (by omega) (by omega) (by omega))) ?_
  refine Bod.ildG dc_288_588 (by repeat (first | exact h7 | exact sm_get_p1 | exact sm_get_p2e | refine sm_get_p1m (by decide) (by decide) ?_ | refine sm_get_p1n (by decide) rfl ?_ | refine sm_get_p2n (by decide) (by decide) rfl ?_)) ?_
  refine Bod.bip 125 (by decide) dc_288_590 ?_
  refine Bod.icF dc_288_592 rfl (k2_eq_F (k_ne 62 125 rfl rfl (by omega) (by omega) (by omega))) ?_
  refine Bod.ildG dc_288_595 (by repeat (first | exact h7 | exact sm_get_p1 | exact sm_get_p2e | refine sm_get_p1m (by decide) (by decide) ?_ | refine sm_get_p1n (by decide) rfl ?_ | refine sm_get_p2n (by decide) (by decide) rfl ?_)) ?_
  refine Bod.bip 44 (by decide) dc_288_597 ?_
  refine Bod.icF dc_288_599 rfl (k2_eq_F (k_ne 62 44 rfl rfl (by omega) (by omega) (by omega))) ?_
  refine Bod.ildG dc_288_602 (by repeat (first | exact h7 | exact sm_get_p1 | exact sm_get_p2e | refine sm_get_p1m (by decide) (by decide) ?_ | refine sm_get_p1n (by decide) rfl ?_ | refine sm_get_p2n (by decide) (by decide) rfl ?_)) ?_
  refine Bod.bip 58 (by decide) dc_288_604 ?_
  refine Bod.icF dc_288_606 rfl (k2_eq_F (k_ne 62 58 rfl rfl (by omega) (by omega) (by omega))) ?_
  refine Bod.ildG dc_288_609 (by repeat (first | exact h7 | exact sm_get_p1 | exact sm_get_p2e | refine sm_get_p1m (by decide) (by decide) ?_ | refine sm_get_p1n (by decide) rfl ?_ | refine sm_get_p2n (by decide) (by decide) rfl ?_)) ?_
  refine Bod.bip 46 (by decide) dc_288_611 ?_
  refine Bod.icF dc_288_613 rfl (k2_eq_F (k_ne 62 46 rfl rfl (by omega) (by omega) (by omega))) ?_
  refine Bod.ildG dc_288_616 (by repeat (first | exact h7 | exact sm_get_p1 | exact sm_get_p2e | refine sm_get_p1m (by decide) (by decide) ?_ | refine sm_get_p1n (by decide) rfl ?_ | refine sm_get_p2n (by decide) (by decide) rfl ?_)) ?_
  refine Bod.bip 43 (by decide) dc_288_618 ?_
  refine Bod.icF dc_288_620 rfl (k2_eq_F (k_ne 62 43 rfl rfl (by omega) (by omega) (by omega))) ?_
  refine Bod.ildG dc_288_623 (by repeat (first | exact h7 | exact sm_get_p1 | exact sm_get_p2e | refine sm_get_p1m (by decide) (by decide) ?_ | refine sm_get_p1n (by decide) rfl ?_ | refine sm_get_p2n (by decide) (by decide) rfl ?_)) ?_
  refine Bod.bip 45 (by decide) dc_288_625 ?_
  refine Bod.icF dc_288_627 rfl (k2_eq_F (k_ne 62 45 rfl rfl (by omega) (by omega) (by omega))) ?_
  refine Bod.ildG dc_288_630 (by repeat (first | exact h7 | exact sm_get_p1 | exact sm_get_p2e | refine sm_get_p1m (by decide) (by decide) ?_ | refine sm_get_p1n (by decide) rfl ?_ | refine sm_get_p2n (by decide) (by decide) rfl ?_)) ?_
  refine Bod.bip 42 (by decide) dc_288_632 ?_
  refine Bod.icF dc_288_634 rfl (k2_eq_F (k_ne 62 42 rfl rfl (by omega) (by omega) (by omega))) ?_
  refine Bod.ildG dc_288_637 (by repeat (first | exact h7 | exact sm_get_p1 | exact sm_get_p2e | refine sm_get_p1m (by decide) (by decide) ?_ | refine sm_get_p1n (by decide) rfl ?_ | refine sm_get_p2n (by decide) (by decide) rfl ?_)) ?_
  refine Bod.bip 37 (by decide) dc_288_639 ?_
  refine Bod.icF dc_288_641 rfl (k2_eq_F (k_ne 62 37 rfl rfl (by omega) (by omega) (by omega))) ?_
  refine Bod.ildG dc_288_644 (by repeat (first | exact h7 | exact sm_get_p1 | exact sm_get_p2e | refine sm_get_p1m (by decide) (by decide) ?_ | refine sm_get_p1n (by decide) rfl ?_ | refine sm_get_p2n (by decide) (by decide) rfl ?_)) ?_
  refine Bod.bip 61 (by decide) dc_288_646 ?_
  refine Bod.icF dc_288_648 rfl (k2_eq_F (k_ne 62 61 rfl rfl (by omega) (by omega) (by omega))) ?_
  refine Bod.ildG dc_288_651 (by repeat (first | exact h7 | exact sm_get_p1 | exact sm_get_p2e | refine sm_get_p1m (by decide) (by decide) ?_ | refine sm_get_p1n (by decide) rfl ?_ | refine sm_get_p2n (by decide) (by decide) rfl ?_)) ?_
  refine Bod.bip 60 (by decide) dc_288_653 ?_
  refine Bod.icF dc_288_655 rfl (k2_eq_F (k_ne 62 60 rfl rfl (by omega) (by omega) (by omega))) ?_
  refine Bod.ildG dc_288_658 (by repeat (first | exact h7 | exact sm_get_p1 | exact sm_get_p2e | refine sm_get_p1m (by decide) (by decide) ?_ | refine sm_get_p1n (by decide) rfl ?_ | refine sm_get_p2n (by decide) (by decide) rfl ?_)) ?_
  refine Bod.bip 62 (by decide) dc_288_660 ?_
  refine Bod.icF dc_288_662 rfl (k2_ne_F (k_eq 62 62 rfl rfl (by omega))) ?_
  refine Bod.ic 1 (by decide) dc_288_665 ?_
  refine Bod.go dc_288_666 rfl ?_
  refine Bod.ist dc_288_670 (by rw [ml_288]; exact Nat.le_of_ble_eq_true rfl) ?_
  refine Bod.aldnG dc_288_672 (by repeat (first | exact h0 | exact sm_get_p1 | exact sm_get_p2e | refine sm_get_p1m (by decide) (by decide) ?_ | refine sm_get_p1n (by decide) rfl ?_ | refine sm_get_p2n (by decide) (by decide) rfl ?_)) ?_
  refine Bod.go dc_288_673 rfl ?_
  refine Bod.ifT dc_288_675 rfl (k1_ne_T (k_ne 1 0 rfl rfl (by omega) (by omega) (by omega))) ?_
  refine Bod.ic 5 (by decide) dc_288_683 ?_
  refine Bod.go dc_288_684 rfl ?_
  refine Bod.go dc_288_689 rfl ?_
  refine Bod.ifF dc_288_691 rfl (k1_eq_F (k_ne 1 0 rfl rfl (by omega) (by omega) (by omega))) ?_
  refine Bod.sip 256 (by decide) dc_288_694 ?_
  refine Bod.ildG dc_288_697 (by repeat (first | exact h7 | exact sm_get_p1 | exact sm_get_p2e | refine sm_get_p1m (by decide) (by decide) ?_ | refine sm_get_p1n (by decide) rfl ?_ | refine sm_get_p2n (by decide) (by decide) rfl ?_)) ?_
  refine Bod.mulN 15872 (by omega) dc_288_699 ?_
  refine Bod.ildG dc_288_700 (by repeat (first | exact hd | exact sm_get_p1 | exact sm_get_p2e | refine sm_get_p1m (by decide) (by decide) ?_ | refine sm_get_p1n (by decide) rfl ?_ | refine sm_get_p2n (by decide) (by decide) rfl ?_)) ?_
  refine Bod.addN 15933 (by omega) dc_288_702 ?_
  refine Bod.go dc_288_703 rfl ?_
  refine Bod.ildG dc_288_708 (by repeat (first | exact h4 | exact sm_get_p1 | exact sm_get_p2e | refine sm_get_p1m (by decide) (by decide) ?_ | refine sm_get_p1n (by decide) rfl ?_ | refine sm_get_p2n (by decide) (by decide) rfl ?_)) ?_
  refine Bod.ildG dc_288_710 (by repeat (first | exact h5 | exact sm_get_p1 | exact sm_get_p2e | refine sm_get_p1m (by decide) (by decide) ?_ | refine sm_get_p1n (by decide) rfl ?_ | refine sm_get_p2n (by decide) (by decide) rfl ?_)) ?_
  refine Bod.virt (r := []) dc_288_712 kr_288_151 ⟨Or.inl rfl, ow_293, cl_14⟩ (by rw [np_293]; rfl) (by rw [np_293]; rfl) (ob_of (mk_61 _)) (Nat.le_of_ble_eq_true rfl) (tok_ev (t := t) (kd := (nI 5)) (vl := (nI 15933)) (ln := (nI l)) (bl := (nI bl)) (by first | assumption | rfl | exact congrArg nI (by omega) | (simp (disch := omega) only [rI, rIe, rA, rIA, rLA, rJA, rVI, rQI, rVA, rQA, upd_at,  rAI, rLI, rJI, nI_add, pk_sub, kc_0, kc_1, kc_2, kc_3, kc_4, kc_5, reduceIte, Nat.reduceEqDiff, Nat.add_zero, rI_hold, rI_hold, rL_hold, ht]; done)) (by omega)) ?_
  show Bod _ _ _ _ [] _ _ _
  refine Bod.ildG dc_288_715 (by repeat (first | exact h6 | exact sm_get_p1 | exact sm_get_p2e | refine sm_get_p1m (by decide) (by decide) ?_ | refine sm_get_p1n (by decide) rfl ?_ | refine sm_get_p2n (by decide) (by decide) rfl ?_)) ?_
  refine Bod.go dc_288_717 rfl ?_
  refine Bod.ifF dc_288_719 rfl (k1_eq_F (k_ne 1 0 rfl rfl (by omega) (by omega) (by omega))) ?_
  refine Bod.ic 2 (by decide) dc_288_722 ?_
  refine Bod.go dc_288_723 rfl ?_
  refine Bod.addN (p + 2) (by omega) dc_288_727 ?_
  refine Bod.ist dc_288_728 (by rw [ml_288]; exact Nat.le_of_ble_eq_true rfl) ?_
  refine Bod.go dc_288_730 rfl ?_
  exact hB _ (by repeat (first | exact h0 | exact sm_get_p1 | exact sm_get_p2e | refine sm_get_p1m (by decide) (by decide) ?_ | refine sm_get_p1n (by decide) rfl ?_ | refine sm_get_p2n (by decide) (by decide) rfl ?_)) (by repeat (first | exact h1 | exact sm_get_p1 | exact sm_get_p2e | refine sm_get_p1m (by decide) (by decide) ?_ | refine sm_get_p1n (by decide) rfl ?_ | refine sm_get_p2n (by decide) (by decide) rfl ?_)) (by repeat (first | exact h3 | exact sm_get_p1 | exact sm_get_p2e | refine sm_get_p1m (by decide) (by decide) ?_ | refine sm_get_p1n (by decide) rfl ?_ | refine sm_get_p2n (by decide) (by decide) rfl ?_)) (by repeat (first | exact h4 | exact sm_get_p1 | exact sm_get_p2e | refine sm_get_p1m (by decide) (by decide) ?_ | refine sm_get_p1n (by decide) rfl ?_ | refine sm_get_p2n (by decide) (by decide) rfl ?_)) (by repeat (first | exact h5 | exact sm_get_p1 | exact sm_get_p2e | refine sm_get_p1m (by decide) (by decide) ?_ | refine sm_get_p1n (by decide) rfl ?_ | refine sm_get_p2n (by decide) (by decide) rfl ?_)) (by repeat (first | exact h6 | exact sm_get_p1 | exact sm_get_p2e | refine sm_get_p1m (by decide) (by decide) ?_ | refine sm_get_p1n (by decide) rfl ?_ | refine sm_get_p2n (by decide) (by decide) rfl ?_))
theorem rs_62_n {d : Nat} {S Sf : cS} {lv : sm_L} {v : Option Value} {e : Nat} {l : Nat} {bl : Nat} {p : Nat} {x : Int32} {st : Nat} {dd : Int32} {t : Nat} (heM : e ≤ 3000) (hp : p ≤ e) (h0 : sm_get lv 0 = some (.ref 61)) (h1 : sm_get lv 1 = some (.ref 107)) (h3 : sm_get lv 3 = some (.int (nI e))) (h4 : sm_get lv 4 = some (.int (nI l))) (h5 : sm_get lv 5 = some (.int (nI bl))) (h6 : sm_get lv 6 = some (.int (nI p))) (h7 : sm_get lv 7 = some (.int (nI 62))) (h8 : sm_get lv 8 = some (.int (nI st))) (hd : sm_get lv 9 = some (.int dd)) (n61 : dd ≠ nI 61) (ht : sI S 6112 = nI t) (htM : t < 6002) (hB : ∀ lv1 : sm_L, sm_get lv1 0 = some (.ref 61) → sm_get lv1 1 = some (.ref 107) → sm_get lv1 3 = some (.int (nI e)) → sm_get lv1 4 = some (.int (nI l)) → sm_get lv1 5 = some (.int (nI bl)) → sm_get lv1 6 = some (.int (nI (p + 1))) → Bod (d + 8) 288 3 lv1 [] (wI 6112 (nI (t + 1)) (wA 70 t ((nI bl)) (wA 69 t ((nI l)) (wA 68 t ((nI 62)) (wA 67 t ((nI 5)) S))))) v Sf) : Bod (d + 8) 288 476 lv [] S v Sf := by
  refine Bod.ildG dc_288_476 (by repeat (first | exact hd | exact sm_get_p1 | exact sm_get_p2e | refine sm_get_p1m (by decide) (by decide) ?_ | refine sm_get_p1n (by decide) rfl ?_ | refine sm_get_p2n (by decide) (by decide) rfl ?_)) ?_
  refine Bod.bip 61 (by decide) dc_288_478 ?_
  refine Bod.icT dc_288_480 rfl (k2_ne_T n61) ?_
  refine Bod.ildG dc_288_532 (by repeat (first | exact h7 | exact sm_get_p1 | exact sm_get_p2e | refine sm_get_p1m (by decide) (by decide) ?_ | refine sm_get_p1n (by decide) rfl ?_ | refine sm_get_p2n (by decide) (by decide) rfl ?_)) ?_
  refine Bod.bip 47 (by decide) dc_288_534 ?_
  refine Bod.icT dc_288_536 rfl (k2_ne_T (k_ne 62 47 rfl rfl (by omega) (by omega) (by omega))) ?_
  refine Bod.ic 0 (by decide) dc_288_550 ?_
  refine Bod.ist dc_288_551 (by rw [ml_288]; exact Nat.le_of_ble_eq_true rfl) ?_
  refine Bod.ildG dc_288_553 (by repeat (first | exact h7 | exact sm_get_p1 | exact sm_get_p2e | refine sm_get_p1m (by decide) (by decide) ?_ | refine sm_get_p1n (by decide) rfl ?_ | refine sm_get_p2n (by decide) (by decide) rfl ?_)) ?_
  refine Bod.bip 40 (by decide) dc_288_555 ?_
  refine Bod.icF dc_288_557 rfl (k2_eq_F (k_ne 62 40 rfl rfl (by omega) (by omega) (by omega))) ?_
  refine Bod.ildG dc_288_560 (by repeat (first | exact h7 | exact sm_get_p1 | exact sm_get_p2e | refine sm_get_p1m (by decide) (by decide) ?_ | refine sm_get_p1n (by decide) rfl ?_ | refine sm_get_p2n (by decide) (by decide) rfl ?_)) ?_
  refine Bod.bip 41 (by decide) dc_288_562 ?_
  refine Bod.icF dc_288_564 rfl (k2_eq_F (k_ne 62 41 rfl rfl (by omega) (by omega) (by omega))) ?_
  refine Bod.ildG dc_288_567 (by repeat (first | exact h7 | exact sm_get_p1 | exact sm_get_p2e | refine sm_get_p1m (by decide) (by decide) ?_ | refine sm_get_p1n (by decide) rfl ?_ | refine sm_get_p2n (by decide) (by decide) rfl ?_)) ?_
  refine Bod.bip 91 (by decide) dc_288_569 ?_
  refine Bod.icF dc_288_571 rfl (k2_eq_F (k_ne 62 91 rfl rfl (by omega) (by omega) (by omega))) ?_
  refine Bod.ildG dc_288_574 (by repeat (first | exact h7 | exact sm_get_p1 | exact sm_get_p2e | refine sm_get_p1m (by decide) (by decide) ?_ | refine sm_get_p1n (by decide) rfl ?_ | refine sm_get_p2n (by decide) (by decide) rfl ?_)) ?_
  refine Bod.bip 93 (by decide) dc_288_576 ?_
  refine Bod.icF dc_288_578 rfl (k2_eq_F (k_ne 62 93 rfl rfl (by omega) (by omega) (by omega))) ?_
  refine Bod.ildG dc_288_581 (by repeat (first | exact h7 | exact sm_get_p1 | exact sm_get_p2e | refine sm_get_p1m (by decide) (by decide) ?_ | refine sm_get_p1n (by decide) rfl ?_ | refine sm_get_p2n (by decide) (by decide) rfl ?_)) ?_
  refine Bod.bip 123 (by decide) dc_288_583 ?_
  refine Bod.icF dc_288_585 rfl (k2_eq_F (k_ne 62 123 rfl rfl (by omega) (by omega) (by omega))) ?_
  refine Bod.ildG dc_288_588 (by repeat (first | exact h7 | exact sm_get_p1 | exact sm_get_p2e | refine sm_get_p1m (by decide) (by decide) ?_ | refine sm_get_p1n (by decide) rfl ?_ | refine sm_get_p2n (by decide) (by decide) rfl ?_)) ?_
  refine Bod.bip 125 (by decide) dc_288_590 ?_
  refine Bod.icF dc_288_592 rfl (k2_eq_F (k_ne 62 125 rfl rfl (by omega) (by omega) (by omega))) ?_
  refine Bod.ildG dc_288_595 (by repeat (first | exact h7 | exact sm_get_p1 | exact sm_get_p2e | refine sm_get_p1m (by decide) (by decide) ?_ | refine sm_get_p1n (by decide) rfl ?_ | refine sm_get_p2n (by decide) (by decide) rfl ?_)) ?_
  refine Bod.bip 44 (by decide) dc_288_597 ?_
  refine Bod.icF dc_288_599 rfl (k2_eq_F (k_ne 62 44 rfl rfl (by omega) (by omega) (by omega))) ?_
  refine Bod.ildG dc_288_602 (by repeat (first | exact h7 | exact sm_get_p1 | exact sm_get_p2e | refine sm_get_p1m (by decide) (by decide) ?_ | refine sm_get_p1n (by decide) rfl ?_ | refine sm_get_p2n (by decide) (by decide) rfl ?_)) ?_
  refine Bod.bip 58 (by decide) dc_288_604 ?_
  refine Bod.icF dc_288_606 rfl (k2_eq_F (k_ne 62 58 rfl rfl (by omega) (by omega) (by omega))) ?_
  refine Bod.ildG dc_288_609 (by repeat (first | exact h7 | exact sm_get_p1 | exact sm_get_p2e | refine sm_get_p1m (by decide) (by decide) ?_ | refine sm_get_p1n (by decide) rfl ?_ | refine sm_get_p2n (by decide) (by decide) rfl ?_)) ?_
  refine Bod.bip 46 (by decide) dc_288_611 ?_
  refine Bod.icF dc_288_613 rfl (k2_eq_F (k_ne 62 46 rfl rfl (by omega) (by omega) (by omega))) ?_
  refine Bod.ildG dc_288_616 (by repeat (first | exact h7 | exact sm_get_p1 | exact sm_get_p2e | refine sm_get_p1m (by decide) (by decide) ?_ | refine sm_get_p1n (by decide) rfl ?_ | refine sm_get_p2n (by decide) (by decide) rfl ?_)) ?_
  refine Bod.bip 43 (by decide) dc_288_618 ?_
  refine Bod.icF dc_288_620 rfl (k2_eq_F (k_ne 62 43 rfl rfl (by omega) (by omega) (by omega))) ?_
  refine Bod.ildG dc_288_623 (by repeat (first | exact h7 | exact sm_get_p1 | exact sm_get_p2e | refine sm_get_p1m (by decide) (by decide) ?_ | refine sm_get_p1n (by decide) rfl ?_ | refine sm_get_p2n (by decide) (by decide) rfl ?_)) ?_
  refine Bod.bip 45 (by decide) dc_288_625 ?_
  refine Bod.icF dc_288_627 rfl (k2_eq_F (k_ne 62 45 rfl rfl (by omega) (by omega) (by omega))) ?_
  refine Bod.ildG dc_288_630 (by repeat (first | exact h7 | exact sm_get_p1 | exact sm_get_p2e | refine sm_get_p1m (by decide) (by decide) ?_ | refine sm_get_p1n (by decide) rfl ?_ | refine sm_get_p2n (by decide) (by decide) rfl ?_)) ?_
  refine Bod.bip 42 (by decide) dc_288_632 ?_
  refine Bod.icF dc_288_634 rfl (k2_eq_F (k_ne 62 42 rfl rfl (by omega) (by omega) (by omega))) ?_
  refine Bod.ildG dc_288_637 (by repeat (first | exact h7 | exact sm_get_p1 | exact sm_get_p2e | refine sm_get_p1m (by decide) (by decide) ?_ | refine sm_get_p1n (by decide) rfl ?_ | refine sm_get_p2n (by decide) (by decide) rfl ?_)) ?_
  refine Bod.bip 37 (by decide) dc_288_639 ?_
  refine Bod.icF dc_288_641 rfl (k2_eq_F (k_ne 62 37 rfl rfl (by omega) (by omega) (by omega))) ?_
  refine Bod.ildG dc_288_644 (by repeat (first | exact h7 | exact sm_get_p1 | exact sm_get_p2e | refine sm_get_p1m (by decide) (by decide) ?_ | refine sm_get_p1n (by decide) rfl ?_ | refine sm_get_p2n (by decide) (by decide) rfl ?_)) ?_
  refine Bod.bip 61 (by decide) dc_288_646 ?_
  refine Bod.icF dc_288_648 rfl (k2_eq_F (k_ne 62 61 rfl rfl (by omega) (by omega) (by omega))) ?_
  refine Bod.ildG dc_288_651 (by repeat (first | exact h7 | exact sm_get_p1 | exact sm_get_p2e | refine sm_get_p1m (by decide) (by decide) ?_ | refine sm_get_p1n (by decide) rfl ?_ | refine sm_get_p2n (by decide) (by decide) rfl ?_)) ?_
  refine Bod.bip 60 (by decide) dc_288_653 ?_
  refine Bod.icF dc_288_655 rfl (k2_eq_F (k_ne 62 60 rfl rfl (by omega) (by omega) (by omega))) ?_
  refine Bod.ildG dc_288_658 (by repeat (first | exact h7 | exact sm_get_p1 | exact sm_get_p2e | refine sm_get_p1m (by decide) (by decide) ?_ | refine sm_get_p1n (by decide) rfl ?_ | refine sm_get_p2n (by decide) (by decide) rfl ?_)) ?_
  refine Bod.bip 62 (by decide) dc_288_660 ?_
  refine Bod.icF dc_288_662 rfl (k2_ne_F (k_eq 62 62 rfl rfl (by omega))) ?_
  refine Bod.ic 1 (by decide) dc_288_665 ?_
  refine Bod.go dc_288_666 rfl ?_
  refine Bod.ist dc_288_670 (by rw [ml_288]; exact Nat.le_of_ble_eq_true rfl) ?_
  refine Bod.aldnG dc_288_672 (by repeat (first | exact h0 | exact sm_get_p1 | exact sm_get_p2e | refine sm_get_p1m (by decide) (by decide) ?_ | refine sm_get_p1n (by decide) rfl ?_ | refine sm_get_p2n (by decide) (by decide) rfl ?_)) ?_
  refine Bod.go dc_288_673 rfl ?_
  refine Bod.ifF dc_288_675 rfl (k1_ne_F (k_eq 0 0 rfl rfl (by omega))) ?_
  refine Bod.go dc_288_678 rfl ?_
  refine Bod.ifF dc_288_680 rfl (k1_eq_F (k_ne 1 0 rfl rfl (by omega) (by omega) (by omega))) ?_
  refine Bod.ic 5 (by decide) dc_288_683 ?_
  refine Bod.go dc_288_684 rfl ?_
  refine Bod.go dc_288_689 rfl ?_
  refine Bod.ifT dc_288_691 rfl (k1_eq_T (k_eq 0 0 rfl rfl (by omega))) ?_
  refine Bod.ildG dc_288_706 (by repeat (first | exact h7 | exact sm_get_p1 | exact sm_get_p2e | refine sm_get_p1m (by decide) (by decide) ?_ | refine sm_get_p1n (by decide) rfl ?_ | refine sm_get_p2n (by decide) (by decide) rfl ?_)) ?_
  refine Bod.ildG dc_288_708 (by repeat (first | exact h4 | exact sm_get_p1 | exact sm_get_p2e | refine sm_get_p1m (by decide) (by decide) ?_ | refine sm_get_p1n (by decide) rfl ?_ | refine sm_get_p2n (by decide) (by decide) rfl ?_)) ?_
  refine Bod.ildG dc_288_710 (by repeat (first | exact h5 | exact sm_get_p1 | exact sm_get_p2e | refine sm_get_p1m (by decide) (by decide) ?_ | refine sm_get_p1n (by decide) rfl ?_ | refine sm_get_p2n (by decide) (by decide) rfl ?_)) ?_
  refine Bod.virt (r := []) dc_288_712 kr_288_151 ⟨Or.inl rfl, ow_293, cl_14⟩ (by rw [np_293]; rfl) (by rw [np_293]; rfl) (ob_of (mk_61 _)) (Nat.le_of_ble_eq_true rfl) (tok_ev (t := t) (kd := (nI 5)) (vl := (nI 62)) (ln := (nI l)) (bl := (nI bl)) (by first | assumption | rfl | exact congrArg nI (by omega) | (simp (disch := omega) only [rI, rIe, rA, rIA, rLA, rJA, rVI, rQI, rVA, rQA, upd_at,  rAI, rLI, rJI, nI_add, pk_sub, kc_0, kc_1, kc_2, kc_3, kc_4, kc_5, reduceIte, Nat.reduceEqDiff, Nat.add_zero, rI_hold, rI_hold, rL_hold, ht]; done)) (by omega)) ?_
  show Bod _ _ _ _ [] _ _ _
  refine Bod.ildG dc_288_715 (by repeat (first | exact h6 | exact sm_get_p1 | exact sm_get_p2e | refine sm_get_p1m (by decide) (by decide) ?_ | refine sm_get_p1n (by decide) rfl ?_ | refine sm_get_p2n (by decide) (by decide) rfl ?_)) ?_
  refine Bod.go dc_288_717 rfl ?_
  refine Bod.ifT dc_288_719 rfl (k1_eq_T (k_eq 0 0 rfl rfl (by omega))) ?_
  refine Bod.ic 1 (by decide) dc_288_726 ?_
  refine Bod.addN (p + 1) (by omega) dc_288_727 ?_
  refine Bod.ist dc_288_728 (by rw [ml_288]; exact Nat.le_of_ble_eq_true rfl) ?_
  refine Bod.go dc_288_730 rfl ?_
  exact hB _ (by repeat (first | exact h0 | exact sm_get_p1 | exact sm_get_p2e | refine sm_get_p1m (by decide) (by decide) ?_ | refine sm_get_p1n (by decide) rfl ?_ | refine sm_get_p2n (by decide) (by decide) rfl ?_)) (by repeat (first | exact h1 | exact sm_get_p1 | exact sm_get_p2e | refine sm_get_p1m (by decide) (by decide) ?_ | refine sm_get_p1n (by decide) rfl ?_ | refine sm_get_p2n (by decide) (by decide) rfl ?_)) (by repeat (first | exact h3 | exact sm_get_p1 | exact sm_get_p2e | refine sm_get_p1m (by decide) (by decide) ?_ | refine sm_get_p1n (by decide) rfl ?_ | refine sm_get_p2n (by decide) (by decide) rfl ?_)) (by repeat (first | exact h4 | exact sm_get_p1 | exact sm_get_p2e | refine sm_get_p1m (by decide) (by decide) ?_ | refine sm_get_p1n (by decide) rfl ?_ | refine sm_get_p2n (by decide) (by decide) rfl ?_)) (by repeat (first | exact h5 | exact sm_get_p1 | exact sm_get_p2e | refine sm_get_p1m (by decide) (by decide) ?_ | refine sm_get_p1n (by decide) rfl ?_ | refine sm_get_p2n (by decide) (by decide) rfl ?_)) (by repeat (first | exact h6 | exact sm_get_p1 | exact sm_get_p2e | refine sm_get_p1m (by decide) (by decide) ?_ | refine sm_get_p1n (by decide) rfl ?_ | refine sm_get_p2n (by decide) (by decide) rfl ?_))
theorem rs_91_61 {d : Nat} {S Sf : cS} {lv : sm_L} {v : Option Value} {e : Nat} {l : Nat} {bl : Nat} {p : Nat} {x : Int32} {st : Nat} {t : Nat} (heM : e ≤ 3000) (hp : p ≤ e) (h0 : sm_get lv 0 = some (.ref 61)) (h1 : sm_get lv 1 = some (.ref 107)) (h3 : sm_get lv 3 = some (.int (nI e))) (h4 : sm_get lv 4 = some (.int (nI l))) (h5 : sm_get lv 5 = some (.int (nI bl))) (h6 : sm_get lv 6 = some (.int (nI p))) (h7 : sm_get lv 7 = some (.int (nI 91))) (h8 : sm_get lv 8 = some (.int (nI st))) (hd : sm_get lv 9 = some (.int (nI 61))) (ht : sI S 6112 = nI t) (htM : t < 6002) (hB : ∀ lv1 : sm_L, sm_get lv1 0 = some (.ref 61) → sm_get lv1 1 = some (.ref 107) → sm_get lv1 3 = some (.int (nI e)) → sm_get lv1 4 = some (.int (nI l)) → sm_get lv1 5 = some (.int (nI bl)) → sm_get lv1 6 = some (.int (nI (p + 1))) → Bod (d + 8) 288 3 lv1 [] (wI 6112 (nI (t + 1)) (wA 70 t ((nI bl)) (wA 69 t ((nI l)) (wA 68 t ((nI 91)) (wA 67 t ((nI 5)) S))))) v Sf) : Bod (d + 8) 288 476 lv [] S v Sf := by
  refine Bod.ildG dc_288_476 (by repeat (first | exact hd | exact sm_get_p1 | exact sm_get_p2e | refine sm_get_p1m (by decide) (by decide) ?_ | refine sm_get_p1n (by decide) rfl ?_ | refine sm_get_p2n (by decide) (by decide) rfl ?_)) ?_
  refine Bod.bip 61 (by decide) dc_288_478 ?_
  refine Bod.icF dc_288_480 rfl (k2_ne_F (k_eq 61 61 rfl rfl (by omega))) ?_
  refine Bod.ildG dc_288_483 (by repeat (first | exact h7 | exact sm_get_p1 | exact sm_get_p2e | refine sm_get_p1m (by decide) (by decide) ?_ | refine sm_get_p1n (by decide) rfl ?_ | refine sm_get_p2n (by decide) (by decide) rfl ?_)) ?_
  refine Bod.bip 61 (by decide) dc_288_485 ?_
  refine Bod.icF dc_288_487 rfl (k2_eq_F (k_ne 91 61 rfl rfl (by omega) (by omega) (by omega))) ?_
  refine Bod.ildG dc_288_490 (by repeat (first | exact h7 | exact sm_get_p1 | exact sm_get_p2e | refine sm_get_p1m (by decide) (by decide) ?_ | refine sm_get_p1n (by decide) rfl ?_ | refine sm_get_p2n (by decide) (by decide) rfl ?_)) ?_
  refine Bod.bip 33 (by decide) dc_288_492 ?_
  refine Bod.icF dc_288_494 rfl (k2_eq_F (k_ne 91 33 rfl rfl (by omega) (by omega) (by omega))) ?_
  refine Bod.ildG dc_288_497 (by repeat (first | exact h7 | exact sm_get_p1 | exact sm_get_p2e | refine sm_get_p1m (by decide) (by decide) ?_ | refine sm_get_p1n (by decide) rfl ?_ | refine sm_get_p2n (by decide) (by decide) rfl ?_)) ?_
  refine Bod.bip 60 (by decide) dc_288_499 ?_
  refine Bod.icF dc_288_501 rfl (k2_eq_F (k_ne 91 60 rfl rfl (by omega) (by omega) (by omega))) ?_
  refine Bod.ildG dc_288_504 (by repeat (first | exact h7 | exact sm_get_p1 | exact sm_get_p2e | refine sm_get_p1m (by decide) (by decide) ?_ | refine sm_get_p1n (by decide) rfl ?_ | refine sm_get_p2n (by decide) (by decide) rfl ?_)) ?_
  refine Bod.bip 62 (by decide) dc_288_506 ?_
  refine Bod.icF dc_288_508 rfl (k2_eq_F (k_ne 91 62 rfl rfl (by omega) (by omega) (by omega))) ?_
  refine Bod.ildG dc_288_511 (by repeat (first | exact h7 | exact sm_get_p1 | exact sm_get_p2e | refine sm_get_p1m (by decide) (by decide) ?_ | refine sm_get_p1n (by decide) rfl ?_ | refine sm_get_p2n (by decide) (by decide) rfl ?_)) ?_
  refine Bod.bip 43 (by decide) dc_288_513 ?_
  refine Bod.icF dc_288_515 rfl (k2_eq_F (k_ne 91 43 rfl rfl (by omega) (by omega) (by omega))) ?_
  refine Bod.ildG dc_288_518 (by repeat (first | exact h7 | exact sm_get_p1 | exact sm_get_p2e | refine sm_get_p1m (by decide) (by decide) ?_ | refine sm_get_p1n (by decide) rfl ?_ | refine sm_get_p2n (by decide) (by decide) rfl ?_)) ?_
  refine Bod.bip 45 (by decide) dc_288_520 ?_
  refine Bod.icF dc_288_522 rfl (k2_eq_F (k_ne 91 45 rfl rfl (by omega) (by omega) (by omega))) ?_
  refine Bod.ildG dc_288_525 (by repeat (first | exact h7 | exact sm_get_p1 | exact sm_get_p2e | refine sm_get_p1m (by decide) (by decide) ?_ | refine sm_get_p1n (by decide) rfl ?_ | refine sm_get_p2n (by decide) (by decide) rfl ?_)) ?_
  refine Bod.bip 42 (by decide) dc_288_527 ?_
  refine Bod.icF dc_288_529 rfl (k2_eq_F (k_ne 91 42 rfl rfl (by omega) (by omega) (by omega))) ?_
  refine Bod.ildG dc_288_532 (by repeat (first | exact h7 | exact sm_get_p1 | exact sm_get_p2e | refine sm_get_p1m (by decide) (by decide) ?_ | refine sm_get_p1n (by decide) rfl ?_ | refine sm_get_p2n (by decide) (by decide) rfl ?_)) ?_
  refine Bod.bip 47 (by decide) dc_288_534 ?_
  refine Bod.icT dc_288_536 rfl (k2_ne_T (k_ne 91 47 rfl rfl (by omega) (by omega) (by omega))) ?_
  refine Bod.ic 0 (by decide) dc_288_550 ?_
  refine Bod.ist dc_288_551 (by rw [ml_288]; exact Nat.le_of_ble_eq_true rfl) ?_
  refine Bod.ildG dc_288_553 (by repeat (first | exact h7 | exact sm_get_p1 | exact sm_get_p2e | refine sm_get_p1m (by decide) (by decide) ?_ | refine sm_get_p1n (by decide) rfl ?_ | refine sm_get_p2n (by decide) (by decide) rfl ?_)) ?_
  refine Bod.bip 40 (by decide) dc_288_555 ?_
  refine Bod.icF dc_288_557 rfl (k2_eq_F (k_ne 91 40 rfl rfl (by omega) (by omega) (by omega))) ?_
  refine Bod.ildG dc_288_560 (by repeat (first | exact h7 | exact sm_get_p1 | exact sm_get_p2e | refine sm_get_p1m (by decide) (by decide) ?_ | refine sm_get_p1n (by decide) rfl ?_ | refine sm_get_p2n (by decide) (by decide) rfl ?_)) ?_
  refine Bod.bip 41 (by decide) dc_288_562 ?_
  refine Bod.icF dc_288_564 rfl (k2_eq_F (k_ne 91 41 rfl rfl (by omega) (by omega) (by omega))) ?_
  refine Bod.ildG dc_288_567 (by repeat (first | exact h7 | exact sm_get_p1 | exact sm_get_p2e | refine sm_get_p1m (by decide) (by decide) ?_ | refine sm_get_p1n (by decide) rfl ?_ | refine sm_get_p2n (by decide) (by decide) rfl ?_)) ?_
  refine Bod.bip 91 (by decide) dc_288_569 ?_
  refine Bod.icT dc_288_571 rfl (k2_eq_T (k_eq 91 91 rfl rfl (by omega))) ?_
  refine Bod.ic 1 (by decide) dc_288_665 ?_
  refine Bod.go dc_288_666 rfl ?_
  refine Bod.ist dc_288_670 (by rw [ml_288]; exact Nat.le_of_ble_eq_true rfl) ?_
  refine Bod.aldnG dc_288_672 (by repeat (first | exact h0 | exact sm_get_p1 | exact sm_get_p2e | refine sm_get_p1m (by decide) (by decide) ?_ | refine sm_get_p1n (by decide) rfl ?_ | refine sm_get_p2n (by decide) (by decide) rfl ?_)) ?_
  refine Bod.go dc_288_673 rfl ?_
  refine Bod.ifF dc_288_675 rfl (k1_ne_F (k_eq 0 0 rfl rfl (by omega))) ?_
  refine Bod.go dc_288_678 rfl ?_
  refine Bod.ifF dc_288_680 rfl (k1_eq_F (k_ne 1 0 rfl rfl (by omega) (by omega) (by omega))) ?_
  refine Bod.ic 5 (by decide) dc_288_683 ?_
  refine Bod.go dc_288_684 rfl ?_
  refine Bod.go dc_288_689 rfl ?_
  refine Bod.ifT dc_288_691 rfl (k1_eq_T (k_eq 0 0 rfl rfl (by omega))) ?_
  refine Bod.ildG dc_288_706 (by repeat (first | exact h7 | exact sm_get_p1 | exact sm_get_p2e | refine sm_get_p1m (by decide) (by decide) ?_ | refine sm_get_p1n (by decide) rfl ?_ | refine sm_get_p2n (by decide) (by decide) rfl ?_)) ?_
  refine Bod.ildG dc_288_708 (by repeat (first | exact h4 | exact sm_get_p1 | exact sm_get_p2e | refine sm_get_p1m (by decide) (by decide) ?_ | refine sm_get_p1n (by decide) rfl ?_ | refine sm_get_p2n (by decide) (by decide) rfl ?_)) ?_
  refine Bod.ildG dc_288_710 (by repeat (first | exact h5 | exact sm_get_p1 | exact sm_get_p2e | refine sm_get_p1m (by decide) (by decide) ?_ | refine sm_get_p1n (by decide) rfl ?_ | refine sm_get_p2n (by decide) (by decide) rfl ?_)) ?_
  refine Bod.virt (r := []) dc_288_712 kr_288_151 ⟨Or.inl rfl, ow_293, cl_14⟩ (by rw [np_293]; rfl) (by rw [np_293]; rfl) (ob_of (mk_61 _)) (Nat.le_of_ble_eq_true rfl) (tok_ev (t := t) (kd := (nI 5)) (vl := (nI 91)) (ln := (nI l)) (bl := (nI bl)) (by first | assumption | rfl | exact congrArg nI (by omega) | (simp (disch := omega) only [rI, rIe, rA, rIA, rLA, rJA, rVI, rQI, rVA, rQA, upd_at,  rAI, rLI, rJI, nI_add, pk_sub, kc_0, kc_1, kc_2, kc_3, kc_4, kc_5, reduceIte, Nat.reduceEqDiff, Nat.add_zero, rI_hold, rI_hold, rL_hold, ht]; done)) (by omega)) ?_
  show Bod _ _ _ _ [] _ _ _
  refine Bod.ildG dc_288_715 (by repeat (first | exact h6 | exact sm_get_p1 | exact sm_get_p2e | refine sm_get_p1m (by decide) (by decide) ?_ | refine sm_get_p1n (by decide) rfl ?_ | refine sm_get_p2n (by decide) (by decide) rfl ?_)) ?_
  refine Bod.go dc_288_717 rfl ?_
  refine Bod.ifT dc_288_719 rfl (k1_eq_T (k_eq 0 0 rfl rfl (by omega))) ?_
  refine Bod.ic 1 (by decide) dc_288_726 ?_
  refine Bod.addN (p + 1) (by omega) dc_288_727 ?_
  refine Bod.ist dc_288_728 (by rw [ml_288]; exact Nat.le_of_ble_eq_true rfl) ?_
  refine Bod.go dc_288_730 rfl ?_
  exact hB _ (by repeat (first | exact h0 | exact sm_get_p1 | exact sm_get_p2e | refine sm_get_p1m (by decide) (by decide) ?_ | refine sm_get_p1n (by decide) rfl ?_ | refine sm_get_p2n (by decide) (by decide) rfl ?_)) (by repeat (first | exact h1 | exact sm_get_p1 | exact sm_get_p2e | refine sm_get_p1m (by decide) (by decide) ?_ | refine sm_get_p1n (by decide) rfl ?_ | refine sm_get_p2n (by decide) (by decide) rfl ?_)) (by repeat (first | exact h3 | exact sm_get_p1 | exact sm_get_p2e | refine sm_get_p1m (by decide) (by decide) ?_ | refine sm_get_p1n (by decide) rfl ?_ | refine sm_get_p2n (by decide) (by decide) rfl ?_)) (by repeat (first | exact h4 | exact sm_get_p1 | exact sm_get_p2e | refine sm_get_p1m (by decide) (by decide) ?_ | refine sm_get_p1n (by decide) rfl ?_ | refine sm_get_p2n (by decide) (by decide) rfl ?_)) (by repeat (first | exact h5 | exact sm_get_p1 | exact sm_get_p2e | refine sm_get_p1m (by decide) (by decide) ?_ | refine sm_get_p1n (by decide) rfl ?_ | refine sm_get_p2n (by decide) (by decide) rfl ?_)) (by repeat (first | exact h6 | exact sm_get_p1 | exact sm_get_p2e | refine sm_get_p1m (by decide) (by decide) ?_ | refine sm_get_p1n (by decide) rfl ?_ | refine sm_get_p2n (by decide) (by decide) rfl ?_))
theorem rs_91_n {d : Nat} {S Sf : cS} {lv : sm_L} {v : Option Value} {e : Nat} {l : Nat} {bl : Nat} {p : Nat} {x : Int32} {st : Nat} {dd : Int32} {t : Nat} (heM : e ≤ 3000) (hp : p ≤ e) (h0 : sm_get lv 0 = some (.ref 61)) (h1 : sm_get lv 1 = some (.ref 107)) (h3 : sm_get lv 3 = some (.int (nI e))) (h4 : sm_get lv 4 = some (.int (nI l))) (h5 : sm_get lv 5 = some (.int (nI bl))) (h6 : sm_get lv 6 = some (.int (nI p))) (h7 : sm_get lv 7 = some (.int (nI 91))) (h8 : sm_get lv 8 = some (.int (nI st))) (hd : sm_get lv 9 = some (.int dd)) (n61 : dd ≠ nI 61) (ht : sI S 6112 = nI t) (htM : t < 6002) (hB : ∀ lv1 : sm_L, sm_get lv1 0 = some (.ref 61) → sm_get lv1 1 = some (.ref 107) → sm_get lv1 3 = some (.int (nI e)) → sm_get lv1 4 = some (.int (nI l)) → sm_get lv1 5 = some (.int (nI bl)) → sm_get lv1 6 = some (.int (nI (p + 1))) → Bod (d + 8) 288 3 lv1 [] (wI 6112 (nI (t + 1)) (wA 70 t ((nI bl)) (wA 69 t ((nI l)) (wA 68 t ((nI 91)) (wA 67 t ((nI 5)) S))))) v Sf) : Bod (d + 8) 288 476 lv [] S v Sf := by
  refine Bod.ildG dc_288_476 (by repeat (first | exact hd | exact sm_get_p1 | exact sm_get_p2e | refine sm_get_p1m (by decide) (by decide) ?_ | refine sm_get_p1n (by decide) rfl ?_ | refine sm_get_p2n (by decide) (by decide) rfl ?_)) ?_
  refine Bod.bip 61 (by decide) dc_288_478 ?_
  refine Bod.icT dc_288_480 rfl (k2_ne_T n61) ?_
  refine Bod.ildG dc_288_532 (by repeat (first | exact h7 | exact sm_get_p1 | exact sm_get_p2e | refine sm_get_p1m (by decide) (by decide) ?_ | refine sm_get_p1n (by decide) rfl ?_ | refine sm_get_p2n (by decide) (by decide) rfl ?_)) ?_
  refine Bod.bip 47 (by decide) dc_288_534 ?_
  refine Bod.icT dc_288_536 rfl (k2_ne_T (k_ne 91 47 rfl rfl (by omega) (by omega) (by omega))) ?_
  refine Bod.ic 0 (by decide) dc_288_550 ?_
  refine Bod.ist dc_288_551 (by rw [ml_288]; exact Nat.le_of_ble_eq_true rfl) ?_
  refine Bod.ildG dc_288_553 (by repeat (first | exact h7 | exact sm_get_p1 | exact sm_get_p2e | refine sm_get_p1m (by decide) (by decide) ?_ | refine sm_get_p1n (by decide) rfl ?_ | refine sm_get_p2n (by decide) (by decide) rfl ?_)) ?_
  refine Bod.bip 40 (by decide) dc_288_555 ?_
  refine Bod.icF dc_288_557 rfl (k2_eq_F (k_ne 91 40 rfl rfl (by omega) (by omega) (by omega))) ?_
  refine Bod.ildG dc_288_560 (by repeat (first | exact h7 | exact sm_get_p1 | exact sm_get_p2e | refine sm_get_p1m (by decide) (by decide) ?_ | refine sm_get_p1n (by decide) rfl ?_ | refine sm_get_p2n (by decide) (by decide) rfl ?_)) ?_
  refine Bod.bip 41 (by decide) dc_288_562 ?_
  refine Bod.icF dc_288_564 rfl (k2_eq_F (k_ne 91 41 rfl rfl (by omega) (by omega) (by omega))) ?_
  refine Bod.ildG dc_288_567 (by repeat (first | exact h7 | exact sm_get_p1 | exact sm_get_p2e | refine sm_get_p1m (by decide) (by decide) ?_ | refine sm_get_p1n (by decide) rfl ?_ | refine sm_get_p2n (by decide) (by decide) rfl ?_)) ?_
  refine Bod.bip 91 (by decide) dc_288_569 ?_
  refine Bod.icT dc_288_571 rfl (k2_eq_T (k_eq 91 91 rfl rfl (by omega))) ?_
  refine Bod.ic 1 (by decide) dc_288_665 ?_
  refine Bod.go dc_288_666 rfl ?_
  refine Bod.ist dc_288_670 (by rw [ml_288]; exact Nat.le_of_ble_eq_true rfl) ?_
  refine Bod.aldnG dc_288_672 (by repeat (first | exact h0 | exact sm_get_p1 | exact sm_get_p2e | refine sm_get_p1m (by decide) (by decide) ?_ | refine sm_get_p1n (by decide) rfl ?_ | refine sm_get_p2n (by decide) (by decide) rfl ?_)) ?_
  refine Bod.go dc_288_673 rfl ?_
  refine Bod.ifF dc_288_675 rfl (k1_ne_F (k_eq 0 0 rfl rfl (by omega))) ?_
  refine Bod.go dc_288_678 rfl ?_
  refine Bod.ifF dc_288_680 rfl (k1_eq_F (k_ne 1 0 rfl rfl (by omega) (by omega) (by omega))) ?_
  refine Bod.ic 5 (by decide) dc_288_683 ?_
  refine Bod.go dc_288_684 rfl ?_
  refine Bod.go dc_288_689 rfl ?_
  refine Bod.ifT dc_288_691 rfl (k1_eq_T (k_eq 0 0 rfl rfl (by omega))) ?_
  refine Bod.ildG dc_288_706 (by repeat (first | exact h7 | exact sm_get_p1 | exact sm_get_p2e | refine sm_get_p1m (by decide) (by decide) ?_ | refine sm_get_p1n (by decide) rfl ?_ | refine sm_get_p2n (by decide) (by decide) rfl ?_)) ?_
  refine Bod.ildG dc_288_708 (by repeat (first | exact h4 | exact sm_get_p1 | exact sm_get_p2e | refine sm_get_p1m (by decide) (by decide) ?_ | refine sm_get_p1n (by decide) rfl ?_ | refine sm_get_p2n (by decide) (by decide) rfl ?_)) ?_
  refine Bod.ildG dc_288_710 (by repeat (first | exact h5 | exact sm_get_p1 | exact sm_get_p2e | refine sm_get_p1m (by decide) (by decide) ?_ | refine sm_get_p1n (by decide) rfl ?_ | refine sm_get_p2n (by decide) (by decide) rfl ?_)) ?_
  refine Bod.virt (r := []) dc_288_712 kr_288_151 ⟨Or.inl rfl, ow_293, cl_14⟩ (by rw [np_293]; rfl) (by rw [np_293]; rfl) (ob_of (mk_61 _)) (Nat.le_of_ble_eq_true rfl) (tok_ev (t := t) (kd := (nI 5)) (vl := (nI 91)) (ln := (nI l)) (bl := (nI bl)) (by first | assumption | rfl | exact congrArg nI (by omega) | (simp (disch := omega) only [rI, rIe, rA, rIA, rLA, rJA, rVI, rQI, rVA, rQA, upd_at,  rAI, rLI, rJI, nI_add, pk_sub, kc_0, kc_1, kc_2, kc_3, kc_4, kc_5, reduceIte, Nat.reduceEqDiff, Nat.add_zero, rI_hold, rI_hold, rL_hold, ht]; done)) (by omega)) ?_
  show Bod _ _ _ _ [] _ _ _
  refine Bod.ildG dc_288_715 (by repeat (first | exact h6 | exact sm_get_p1 | exact sm_get_p2e | refine sm_get_p1m (by decide) (by decide) ?_ | refine sm_get_p1n (by decide) rfl ?_ | refine sm_get_p2n (by decide) (by decide) rfl ?_)) ?_
  refine Bod.go dc_288_717 rfl ?_
  refine Bod.ifT dc_288_719 rfl (k1_eq_T (k_eq 0 0 rfl rfl (by omega))) ?_
  refine Bod.ic 1 (by decide) dc_288_726 ?_
  refine Bod.addN (p + 1) (by omega) dc_288_727 ?_
  refine Bod.ist dc_288_728 (by rw [ml_288]; exact Nat.le_of_ble_eq_true rfl) ?_
  refine Bod.go dc_288_730 rfl ?_
  exact hB _ (by repeat (first | exact h0 | exact sm_get_p1 | exact sm_get_p2e | refine sm_get_p1m (by decide) (by decide) ?_ | refine sm_get_p1n (by decide) rfl ?_ | refine sm_get_p2n (by decide) (by decide) rfl ?_)) (by repeat (first | exact h1 | exact sm_get_p1 | exact sm_get_p2e | refine sm_get_p1m (by decide) (by decide) ?_ | refine sm_get_p1n (by decide) rfl ?_ | refine sm_get_p2n (by decide) (by decide) rfl ?_)) (by repeat (first | exact h3 | exact sm_get_p1 | exact sm_get_p2e | refine sm_get_p1m (by decide) (by decide) ?_ | refine sm_get_p1n (by decide) rfl ?_ | refine sm_get_p2n (by decide) (by decide) rfl ?_)) (by repeat (first | exact h4 | exact sm_get_p1 | exact sm_get_p2e | refine sm_get_p1m (by decide) (by decide) ?_ | refine sm_get_p1n (by decide) rfl ?_ | refine sm_get_p2n (by decide) (by decide) rfl ?_)) (by repeat (first | exact h5 | exact sm_get_p1 | exact sm_get_p2e | refine sm_get_p1m (by decide) (by decide) ?_ | refine sm_get_p1n (by decide) rfl ?_ | refine sm_get_p2n (by decide) (by decide) rfl ?_)) (by repeat (first | exact h6 | exact sm_get_p1 | exact sm_get_p2e | refine sm_get_p1m (by decide) (by decide) ?_ | refine sm_get_p1n (by decide) rfl ?_ | refine sm_get_p2n (by decide) (by decide) rfl ?_))
theorem rs_93_61 {d : Nat} {S Sf : cS} {lv : sm_L} {v : Option Value} {e : Nat} {l : Nat} {bl : Nat} {p : Nat} {x : Int32} {st : Nat} {t : Nat} (heM : e ≤ 3000) (hp : p ≤ e) (h0 : sm_get lv 0 = some (.ref 61)) (h1 : sm_get lv 1 = some (.ref 107)) (h3 : sm_get lv 3 = some (.int (nI e))) (h4 : sm_get lv 4 = some (.int (nI l))) (h5 : sm_get lv 5 = some (.int (nI bl))) (h6 : sm_get lv 6 = some (.int (nI p))) (h7 : sm_get lv 7 = some (.int (nI 93))) (h8 : sm_get lv 8 = some (.int (nI st))) (hd : sm_get lv 9 = some (.int (nI 61))) (ht : sI S 6112 = nI t) (htM : t < 6002) (hB : ∀ lv1 : sm_L, sm_get lv1 0 = some (.ref 61) → sm_get lv1 1 = some (.ref 107) → sm_get lv1 3 = some (.int (nI e)) → sm_get lv1 4 = some (.int (nI l)) → sm_get lv1 5 = some (.int (nI bl)) → sm_get lv1 6 = some (.int (nI (p + 1))) → Bod (d + 8) 288 3 lv1 [] (wI 6112 (nI (t + 1)) (wA 70 t ((nI bl)) (wA 69 t ((nI l)) (wA 68 t ((nI 93)) (wA 67 t ((nI 5)) S))))) v Sf) : Bod (d + 8) 288 476 lv [] S v Sf := by
  refine Bod.ildG dc_288_476 (by repeat (first | exact hd | exact sm_get_p1 | exact sm_get_p2e | refine sm_get_p1m (by decide) (by decide) ?_ | refine sm_get_p1n (by decide) rfl ?_ | refine sm_get_p2n (by decide) (by decide) rfl ?_)) ?_
  refine Bod.bip 61 (by decide) dc_288_478 ?_
  refine Bod.icF dc_288_480 rfl (k2_ne_F (k_eq 61 61 rfl rfl (by omega))) ?_
  refine Bod.ildG dc_288_483 (by repeat (first | exact h7 | exact sm_get_p1 | exact sm_get_p2e | refine sm_get_p1m (by decide) (by decide) ?_ | refine sm_get_p1n (by decide) rfl ?_ | refine sm_get_p2n (by decide) (by decide) rfl ?_)) ?_
  refine Bod.bip 61 (by decide) dc_288_485 ?_
  refine Bod.icF dc_288_487 rfl (k2_eq_F (k_ne 93 61 rfl rfl (by omega) (by omega) (by omega))) ?_
  refine Bod.ildG dc_288_490 (by repeat (first | exact h7 | exact sm_get_p1 | exact sm_get_p2e | refine sm_get_p1m (by decide) (by decide) ?_ | refine sm_get_p1n (by decide) rfl ?_ | refine sm_get_p2n (by decide) (by decide) rfl ?_)) ?_
  refine Bod.bip 33 (by decide) dc_288_492 ?_
  refine Bod.icF dc_288_494 rfl (k2_eq_F (k_ne 93 33 rfl rfl (by omega) (by omega) (by omega))) ?_
  refine Bod.ildG dc_288_497 (by repeat (first | exact h7 | exact sm_get_p1 | exact sm_get_p2e | refine sm_get_p1m (by decide) (by decide) ?_ | refine sm_get_p1n (by decide) rfl ?_ | refine sm_get_p2n (by decide) (by decide) rfl ?_)) ?_
  refine Bod.bip 60 (by decide) dc_288_499 ?_
  refine Bod.icF dc_288_501 rfl (k2_eq_F (k_ne 93 60 rfl rfl (by omega) (by omega) (by omega))) ?_
  refine Bod.ildG dc_288_504 (by repeat (first | exact h7 | exact sm_get_p1 | exact sm_get_p2e | refine sm_get_p1m (by decide) (by decide) ?_ | refine sm_get_p1n (by decide) rfl ?_ | refine sm_get_p2n (by decide) (by decide) rfl ?_)) ?_
  refine Bod.bip 62 (by decide) dc_288_506 ?_
  refine Bod.icF dc_288_508 rfl (k2_eq_F (k_ne 93 62 rfl rfl (by omega) (by omega) (by omega))) ?_
  refine Bod.ildG dc_288_511 (by repeat (first | exact h7 | exact sm_get_p1 | exact sm_get_p2e | refine sm_get_p1m (by decide) (by decide) ?_ | refine sm_get_p1n (by decide) rfl ?_ | refine sm_get_p2n (by decide) (by decide) rfl ?_)) ?_
  refine Bod.bip 43 (by decide) dc_288_513 ?_
  refine Bod.icF dc_288_515 rfl (k2_eq_F (k_ne 93 43 rfl rfl (by omega) (by omega) (by omega))) ?_
  refine Bod.ildG dc_288_518 (by repeat (first | exact h7 | exact sm_get_p1 | exact sm_get_p2e | refine sm_get_p1m (by decide) (by decide) ?_ | refine sm_get_p1n (by decide) rfl ?_ | refine sm_get_p2n (by decide) (by decide) rfl ?_)) ?_
  refine Bod.bip 45 (by decide) dc_288_520 ?_
  refine Bod.icF dc_288_522 rfl (k2_eq_F (k_ne 93 45 rfl rfl (by omega) (by omega) (by omega))) ?_
  refine Bod.ildG dc_288_525 (by repeat (first | exact h7 | exact sm_get_p1 | exact sm_get_p2e | refine sm_get_p1m (by decide) (by decide) ?_ | refine sm_get_p1n (by decide) rfl ?_ | refine sm_get_p2n (by decide) (by decide) rfl ?_)) ?_
  refine Bod.bip 42 (by decide) dc_288_527 ?_
  refine Bod.icF dc_288_529 rfl (k2_eq_F (k_ne 93 42 rfl rfl (by omega) (by omega) (by omega))) ?_
  refine Bod.ildG dc_288_532 (by repeat (first | exact h7 | exact sm_get_p1 | exact sm_get_p2e | refine sm_get_p1m (by decide) (by decide) ?_ | refine sm_get_p1n (by decide) rfl ?_ | refine sm_get_p2n (by decide) (by decide) rfl ?_)) ?_
  refine Bod.bip 47 (by decide) dc_288_534 ?_
  refine Bod.icT dc_288_536 rfl (k2_ne_T (k_ne 93 47 rfl rfl (by omega) (by omega) (by omega))) ?_
  refine Bod.ic 0 (by decide) dc_288_550 ?_
  refine Bod.ist dc_288_551 (by rw [ml_288]; exact Nat.le_of_ble_eq_true rfl) ?_
  refine Bod.ildG dc_288_553 (by repeat (first | exact h7 | exact sm_get_p1 | exact sm_get_p2e | refine sm_get_p1m (by decide) (by decide) ?_ | refine sm_get_p1n (by decide) rfl ?_ | refine sm_get_p2n (by decide) (by decide) rfl ?_)) ?_
  refine Bod.bip 40 (by decide) dc_288_555 ?_
  refine Bod.icF dc_288_557 rfl (k2_eq_F (k_ne 93 40 rfl rfl (by omega) (by omega) (by omega))) ?_
  refine Bod.ildG dc_288_560 (by repeat (first | exact h7 | exact sm_get_p1 | exact sm_get_p2e | refine sm_get_p1m (by decide) (by decide) ?_ | refine sm_get_p1n (by decide) rfl ?_ | refine sm_get_p2n (by decide) (by decide) rfl ?_)) ?_
  refine Bod.bip 41 (by decide) dc_288_562 ?_
  refine Bod.icF dc_288_564 rfl (k2_eq_F (k_ne 93 41 rfl rfl (by omega) (by omega) (by omega))) ?_
  refine Bod.ildG dc_288_567 (by repeat (first | exact h7 | exact sm_get_p1 | exact sm_get_p2e | refine sm_get_p1m (by decide) (by decide) ?_ | refine sm_get_p1n (by decide) rfl ?_ | refine sm_get_p2n (by decide) (by decide) rfl ?_)) ?_
  refine Bod.bip 91 (by decide) dc_288_569 ?_
  refine Bod.icF dc_288_571 rfl (k2_eq_F (k_ne 93 91 rfl rfl (by omega) (by omega) (by omega))) ?_
  refine Bod.ildG dc_288_574 (by repeat (first | exact h7 | exact sm_get_p1 | exact sm_get_p2e | refine sm_get_p1m (by decide) (by decide) ?_ | refine sm_get_p1n (by decide) rfl ?_ | refine sm_get_p2n (by decide) (by decide) rfl ?_)) ?_
  refine Bod.bip 93 (by decide) dc_288_576 ?_
  refine Bod.icT dc_288_578 rfl (k2_eq_T (k_eq 93 93 rfl rfl (by omega))) ?_
  refine Bod.ic 1 (by decide) dc_288_665 ?_
  refine Bod.go dc_288_666 rfl ?_
  refine Bod.ist dc_288_670 (by rw [ml_288]; exact Nat.le_of_ble_eq_true rfl) ?_
  refine Bod.aldnG dc_288_672 (by repeat (first | exact h0 | exact sm_get_p1 | exact sm_get_p2e | refine sm_get_p1m (by decide) (by decide) ?_ | refine sm_get_p1n (by decide) rfl ?_ | refine sm_get_p2n (by decide) (by decide) rfl ?_)) ?_
  refine Bod.go dc_288_673 rfl ?_
  refine Bod.ifF dc_288_675 rfl (k1_ne_F (k_eq 0 0 rfl rfl (by omega))) ?_
  refine Bod.go dc_288_678 rfl ?_
  refine Bod.ifF dc_288_680 rfl (k1_eq_F (k_ne 1 0 rfl rfl (by omega) (by omega) (by omega))) ?_
  refine Bod.ic 5 (by decide) dc_288_683 ?_
  refine Bod.go dc_288_684 rfl ?_
  refine Bod.go dc_288_689 rfl ?_
  refine Bod.ifT dc_288_691 rfl (k1_eq_T (k_eq 0 0 rfl rfl (by omega))) ?_
  refine Bod.ildG dc_288_706 (by repeat (first | exact h7 | exact sm_get_p1 | exact sm_get_p2e | refine sm_get_p1m (by decide) (by decide) ?_ | refine sm_get_p1n (by decide) rfl ?_ | refine sm_get_p2n (by decide) (by decide) rfl ?_)) ?_
  refine Bod.ildG dc_288_708 (by repeat (first | exact h4 | exact sm_get_p1 | exact sm_get_p2e | refine sm_get_p1m (by decide) (by decide) ?_ | refine sm_get_p1n (by decide) rfl ?_ | refine sm_get_p2n (by decide) (by decide) rfl ?_)) ?_
  refine Bod.ildG dc_288_710 (by repeat (first | exact h5 | exact sm_get_p1 | exact sm_get_p2e | refine sm_get_p1m (by decide) (by decide) ?_ | refine sm_get_p1n (by decide) rfl ?_ | refine sm_get_p2n (by decide) (by decide) rfl ?_)) ?_
  refine Bod.virt (r := []) dc_288_712 kr_288_151 ⟨Or.inl rfl, ow_293, cl_14⟩ (by rw [np_293]; rfl) (by rw [np_293]; rfl) (ob_of (mk_61 _)) (Nat.le_of_ble_eq_true rfl) (tok_ev (t := t) (kd := (nI 5)) (vl := (nI 93)) (ln := (nI l)) (bl := (nI bl)) (by first | assumption | rfl | exact congrArg nI (by omega) | (simp (disch := omega) only [rI, rIe, rA, rIA, rLA, rJA, rVI, rQI, rVA, rQA, upd_at,  rAI, rLI, rJI, nI_add, pk_sub, kc_0, kc_1, kc_2, kc_3, kc_4, kc_5, reduceIte, Nat.reduceEqDiff, Nat.add_zero, rI_hold, rI_hold, rL_hold, ht]; done)) (by omega)) ?_
  show Bod _ _ _ _ [] _ _ _
  refine Bod.ildG dc_288_715 (by repeat (first | exact h6 | exact sm_get_p1 | exact sm_get_p2e | refine sm_get_p1m (by decide) (by decide) ?_ | refine sm_get_p1n (by decide) rfl ?_ | refine sm_get_p2n (by decide) (by decide) rfl ?_)) ?_
  refine Bod.go dc_288_717 rfl ?_
  refine Bod.ifT dc_288_719 rfl (k1_eq_T (k_eq 0 0 rfl rfl (by omega))) ?_
  refine Bod.ic 1 (by decide) dc_288_726 ?_
  refine Bod.addN (p + 1) (by omega) dc_288_727 ?_
  refine Bod.ist dc_288_728 (by rw [ml_288]; exact Nat.le_of_ble_eq_true rfl) ?_
  refine Bod.go dc_288_730 rfl ?_
  exact hB _ (by repeat (first | exact h0 | exact sm_get_p1 | exact sm_get_p2e | refine sm_get_p1m (by decide) (by decide) ?_ | refine sm_get_p1n (by decide) rfl ?_ | refine sm_get_p2n (by decide) (by decide) rfl ?_)) (by repeat (first | exact h1 | exact sm_get_p1 | exact sm_get_p2e | refine sm_get_p1m (by decide) (by decide) ?_ | refine sm_get_p1n (by decide) rfl ?_ | refine sm_get_p2n (by decide) (by decide) rfl ?_)) (by repeat (first | exact h3 | exact sm_get_p1 | exact sm_get_p2e | refine sm_get_p1m (by decide) (by decide) ?_ | refine sm_get_p1n (by decide) rfl ?_ | refine sm_get_p2n (by decide) (by decide) rfl ?_)) (by repeat (first | exact h4 | exact sm_get_p1 | exact sm_get_p2e | refine sm_get_p1m (by decide) (by decide) ?_ | refine sm_get_p1n (by decide) rfl ?_ | refine sm_get_p2n (by decide) (by decide) rfl ?_)) (by repeat (first | exact h5 | exact sm_get_p1 | exact sm_get_p2e | refine sm_get_p1m (by decide) (by decide) ?_ | refine sm_get_p1n (by decide) rfl ?_ | refine sm_get_p2n (by decide) (by decide) rfl ?_)) (by repeat (first | exact h6 | exact sm_get_p1 | exact sm_get_p2e | refine sm_get_p1m (by decide) (by decide) ?_ | refine sm_get_p1n (by decide) rfl ?_ | refine sm_get_p2n (by decide) (by decide) rfl ?_))
theorem rs_93_n {d : Nat} {S Sf : cS} {lv : sm_L} {v : Option Value} {e : Nat} {l : Nat} {bl : Nat} {p : Nat} {x : Int32} {st : Nat} {dd : Int32} {t : Nat} (heM : e ≤ 3000) (hp : p ≤ e) (h0 : sm_get lv 0 = some (.ref 61)) (h1 : sm_get lv 1 = some (.ref 107)) (h3 : sm_get lv 3 = some (.int (nI e))) (h4 : sm_get lv 4 = some (.int (nI l))) (h5 : sm_get lv 5 = some (.int (nI bl))) (h6 : sm_get lv 6 = some (.int (nI p))) (h7 : sm_get lv 7 = some (.int (nI 93))) (h8 : sm_get lv 8 = some (.int (nI st))) (hd : sm_get lv 9 = some (.int dd)) (n61 : dd ≠ nI 61) (ht : sI S 6112 = nI t) (htM : t < 6002) (hB : ∀ lv1 : sm_L, sm_get lv1 0 = some (.ref 61) → sm_get lv1 1 = some (.ref 107) → sm_get lv1 3 = some (.int (nI e)) → sm_get lv1 4 = some (.int (nI l)) → sm_get lv1 5 = some (.int (nI bl)) → sm_get lv1 6 = some (.int (nI (p + 1))) → Bod (d + 8) 288 3 lv1 [] (wI 6112 (nI (t + 1)) (wA 70 t ((nI bl)) (wA 69 t ((nI l)) (wA 68 t ((nI 93)) (wA 67 t ((nI 5)) S))))) v Sf) : Bod (d + 8) 288 476 lv [] S v Sf := by
  refine Bod.ildG dc_288_476 (by repeat (first | exact hd | exact sm_get_p1 | exact sm_get_p2e | refine sm_get_p1m (by decide) (by decide) ?_ | refine sm_get_p1n (by decide) rfl ?_ | refine sm_get_p2n (by decide) (by decide) rfl ?_)) ?_
  refine Bod.bip 61 (by decide) dc_288_478 ?_
  refine Bod.icT dc_288_480 rfl (k2_ne_T n61) ?_
  refine Bod.ildG dc_288_532 (by repeat (first | exact h7 | exact sm_get_p1 | exact sm_get_p2e | refine sm_get_p1m (by decide) (by decide) ?_ | refine sm_get_p1n (by decide) rfl ?_ | refine sm_get_p2n (by decide) (by decide) rfl ?_)) ?_
  refine Bod.bip 47 (by decide) dc_288_534 ?_
  refine Bod.icT dc_288_536 rfl (k2_ne_T (k_ne 93 47 rfl rfl (by omega) (by omega) (by omega))) ?_
  refine Bod.ic 0 (by decide) dc_288_550 ?_
  refine Bod.ist dc_288_551 (by rw [ml_288]; exact Nat.le_of_ble_eq_true rfl) ?_
  refine Bod.ildG dc_288_553 (by repeat (first | exact h7 | exact sm_get_p1 | exact sm_get_p2e | refine sm_get_p1m (by decide) (by decide) ?_ | refine sm_get_p1n (by decide) rfl ?_ | refine sm_get_p2n (by decide) (by decide) rfl ?_)) ?_
  refine Bod.bip 40 (by decide) dc_288_555 ?_
  refine Bod.icF dc_288_557 rfl (k2_eq_F (k_ne 93 40 rfl rfl (by omega) (by omega) (by omega))) ?_
  refine Bod.ildG dc_288_560 (by repeat (first | exact h7 | exact sm_get_p1 | exact sm_get_p2e | refine sm_get_p1m (by decide) (by decide) ?_ | refine sm_get_p1n (by decide) rfl ?_ | refine sm_get_p2n (by decide) (by decide) rfl ?_)) ?_
  refine Bod.bip 41 (by decide) dc_288_562 ?_
  refine Bod.icF dc_288_564 rfl (k2_eq_F (k_ne 93 41 rfl rfl (by omega) (by omega) (by omega))) ?_
  refine Bod.ildG dc_288_567 (by repeat (first | exact h7 | exact sm_get_p1 | exact sm_get_p2e | refine sm_get_p1m (by decide) (by decide) ?_ | refine sm_get_p1n (by decide) rfl ?_ | refine sm_get_p2n (by decide) (by decide) rfl ?_)) ?_
  refine Bod.bip 91 (by decide) dc_288_569 ?_
  refine Bod.icF dc_288_571 rfl (k2_eq_F (k_ne 93 91 rfl rfl (by omega) (by omega) (by omega))) ?_
  refine Bod.ildG dc_288_574 (by repeat (first | exact h7 | exact sm_get_p1 | exact sm_get_p2e | refine sm_get_p1m (by decide) (by decide) ?_ | refine sm_get_p1n (by decide) rfl ?_ | refine sm_get_p2n (by decide) (by decide) rfl ?_)) ?_
  refine Bod.bip 93 (by decide) dc_288_576 ?_
  refine Bod.icT dc_288_578 rfl (k2_eq_T (k_eq 93 93 rfl rfl (by omega))) ?_
  refine Bod.ic 1 (by decide) dc_288_665 ?_
  refine Bod.go dc_288_666 rfl ?_
  refine Bod.ist dc_288_670 (by rw [ml_288]; exact Nat.le_of_ble_eq_true rfl) ?_
  refine Bod.aldnG dc_288_672 (by repeat (first | exact h0 | exact sm_get_p1 | exact sm_get_p2e | refine sm_get_p1m (by decide) (by decide) ?_ | refine sm_get_p1n (by decide) rfl ?_ | refine sm_get_p2n (by decide) (by decide) rfl ?_)) ?_
  refine Bod.go dc_288_673 rfl ?_
  refine Bod.ifF dc_288_675 rfl (k1_ne_F (k_eq 0 0 rfl rfl (by omega))) ?_
  refine Bod.go dc_288_678 rfl ?_
  refine Bod.ifF dc_288_680 rfl (k1_eq_F (k_ne 1 0 rfl rfl (by omega) (by omega) (by omega))) ?_
  refine Bod.ic 5 (by decide) dc_288_683 ?_
  refine Bod.go dc_288_684 rfl ?_
  refine Bod.go dc_288_689 rfl ?_
  refine Bod.ifT dc_288_691 rfl (k1_eq_T (k_eq 0 0 rfl rfl (by omega))) ?_
  refine Bod.ildG dc_288_706 (by repeat (first | exact h7 | exact sm_get_p1 | exact sm_get_p2e | refine sm_get_p1m (by decide) (by decide) ?_ | refine sm_get_p1n (by decide) rfl ?_ | refine sm_get_p2n (by decide) (by decide) rfl ?_)) ?_
  refine Bod.ildG dc_288_708 (by repeat (first | exact h4 | exact sm_get_p1 | exact sm_get_p2e | refine sm_get_p1m (by decide) (by decide) ?_ | refine sm_get_p1n (by decide) rfl ?_ | refine sm_get_p2n (by decide) (by decide) rfl ?_)) ?_
  refine Bod.ildG dc_288_710 (by repeat (first | exact h5 | exact sm_get_p1 | exact sm_get_p2e | refine sm_get_p1m (by decide) (by decide) ?_ | refine sm_get_p1n (by decide) rfl ?_ | refine sm_get_p2n (by decide) (by decide) rfl ?_)) ?_
  refine Bod.virt (r := []) dc_288_712 kr_288_151 ⟨Or.inl rfl, ow_293, cl_14⟩ (by rw [np_293]; rfl) (by rw [np_293]; rfl) (ob_of (mk_61 _)) (Nat.le_of_ble_eq_true rfl) (tok_ev (t := t) (kd := (nI 5)) (vl := (nI 93)) (ln := (nI l)) (bl := (nI bl)) (by first | assumption | rfl | exact congrArg nI (by omega) | (simp (disch := omega) only [rI, rIe, rA, rIA, rLA, rJA, rVI, rQI, rVA, rQA, upd_at,  rAI, rLI, rJI, nI_add, pk_sub, kc_0, kc_1, kc_2, kc_3, kc_4, kc_5, reduceIte, Nat.reduceEqDiff, Nat.add_zero, rI_hold, rI_hold, rL_hold, ht]; done)) (by omega)) ?_
  show Bod _ _ _ _ [] _ _ _
  refine Bod.ildG dc_288_715 (by repeat (first | exact h6 | exact sm_get_p1 | exact sm_get_p2e | refine sm_get_p1m (by decide) (by decide) ?_ | refine sm_get_p1n (by decide) rfl ?_ | refine sm_get_p2n (by decide) (by decide) rfl ?_)) ?_
  refine Bod.go dc_288_717 rfl ?_
  refine Bod.ifT dc_288_719 rfl (k1_eq_T (k_eq 0 0 rfl rfl (by omega))) ?_
  refine Bod.ic 1 (by decide) dc_288_726 ?_
  refine Bod.addN (p + 1) (by omega) dc_288_727 ?_
  refine Bod.ist dc_288_728 (by rw [ml_288]; exact Nat.le_of_ble_eq_true rfl) ?_
  refine Bod.go dc_288_730 rfl ?_
  exact hB _ (by repeat (first | exact h0 | exact sm_get_p1 | exact sm_get_p2e | refine sm_get_p1m (by decide) (by decide) ?_ | refine sm_get_p1n (by decide) rfl ?_ | refine sm_get_p2n (by decide) (by decide) rfl ?_)) (by repeat (first | exact h1 | exact sm_get_p1 | exact sm_get_p2e | refine sm_get_p1m (by decide) (by decide) ?_ | refine sm_get_p1n (by decide) rfl ?_ | refine sm_get_p2n (by decide) (by decide) rfl ?_)) (by repeat (first | exact h3 | exact sm_get_p1 | exact sm_get_p2e | refine sm_get_p1m (by decide) (by decide) ?_ | refine sm_get_p1n (by decide) rfl ?_ | refine sm_get_p2n (by decide) (by decide) rfl ?_)) (by repeat (first | exact h4 | exact sm_get_p1 | exact sm_get_p2e | refine sm_get_p1m (by decide) (by decide) ?_ | refine sm_get_p1n (by decide) rfl ?_ | refine sm_get_p2n (by decide) (by decide) rfl ?_)) (by repeat (first | exact h5 | exact sm_get_p1 | exact sm_get_p2e | refine sm_get_p1m (by decide) (by decide) ?_ | refine sm_get_p1n (by decide) rfl ?_ | refine sm_get_p2n (by decide) (by decide) rfl ?_)) (by repeat (first | exact h6 | exact sm_get_p1 | exact sm_get_p2e | refine sm_get_p1m (by decide) (by decide) ?_ | refine sm_get_p1n (by decide) rfl ?_ | refine sm_get_p2n (by decide) (by decide) rfl ?_))
theorem rs_123_61 {d : Nat} {S Sf : cS} {lv : sm_L} {v : Option Value} {e : Nat} {l : Nat} {bl : Nat} {p : Nat} {x : Int32} {st : Nat} {t : Nat} (heM : e ≤ 3000) (hp : p ≤ e) (h0 : sm_get lv 0 = some (.ref 61)) (h1 : sm_get lv 1 = some (.ref 107)) (h3 : sm_get lv 3 = some (.int (nI e))) (h4 : sm_get lv 4 = some (.int (nI l))) (h5 : sm_get lv 5 = some (.int (nI bl))) (h6 : sm_get lv 6 = some (.int (nI p))) (h7 : sm_get lv 7 = some (.int (nI 123))) (h8 : sm_get lv 8 = some (.int (nI st))) (hd : sm_get lv 9 = some (.int (nI 61))) (ht : sI S 6112 = nI t) (htM : t < 6002) (hB : ∀ lv1 : sm_L, sm_get lv1 0 = some (.ref 61) → sm_get lv1 1 = some (.ref 107) → sm_get lv1 3 = some (.int (nI e)) → sm_get lv1 4 = some (.int (nI l)) → sm_get lv1 5 = some (.int (nI bl)) → sm_get lv1 6 = some (.int (nI (p + 1))) → Bod (d + 8) 288 3 lv1 [] (wI 6112 (nI (t + 1)) (wA 70 t ((nI bl)) (wA 69 t ((nI l)) (wA 68 t ((nI 123)) (wA 67 t ((nI 5)) S))))) v Sf) : Bod (d + 8) 288 476 lv [] S v Sf := by
  refine Bod.ildG dc_288_476 (by repeat (first | exact hd | exact sm_get_p1 | exact sm_get_p2e | refine sm_get_p1m (by decide) (by decide) ?_ | refine sm_get_p1n (by decide) rfl ?_ | refine sm_get_p2n (by decide) (by decide) rfl ?_)) ?_
  refine Bod.bip 61 (by decide) dc_288_478 ?_
  refine Bod.icF dc_288_480 rfl (k2_ne_F (k_eq 61 61 rfl rfl (by omega))) ?_
  refine Bod.ildG dc_288_483 (by repeat (first | exact h7 | exact sm_get_p1 | exact sm_get_p2e | refine sm_get_p1m (by decide) (by decide) ?_ | refine sm_get_p1n (by decide) rfl ?_ | refine sm_get_p2n (by decide) (by decide) rfl ?_)) ?_
  refine Bod.bip 61 (by decide) dc_288_485 ?_
  refine Bod.icF dc_288_487 rfl (k2_eq_F (k_ne 123 61 rfl rfl (by omega) (by omega) (by omega))) ?_
  refine Bod.ildG dc_288_490 (by repeat (first | exact h7 | exact sm_get_p1 | exact sm_get_p2e | refine sm_get_p1m (by decide) (by decide) ?_ | refine sm_get_p1n (by decide) rfl ?_ | refine sm_get_p2n (by decide) (by decide) rfl ?_)) ?_
  refine Bod.bip 33 (by decide) dc_288_492 ?_
  refine Bod.icF dc_288_494 rfl (k2_eq_F (k_ne 123 33 rfl rfl (by omega) (by omega) (by omega))) ?_
  refine Bod.ildG dc_288_497 (by repeat (first | exact h7 | exact sm_get_p1 | exact sm_get_p2e | refine sm_get_p1m (by decide) (by decide) ?_ | refine sm_get_p1n (by decide) rfl ?_ | refine sm_get_p2n (by decide) (by decide) rfl ?_)) ?_
  refine Bod.bip 60 (by decide) dc_288_499 ?_
  refine Bod.icF dc_288_501 rfl (k2_eq_F (k_ne 123 60 rfl rfl (by omega) (by omega) (by omega))) ?_
  refine Bod.ildG dc_288_504 (by repeat (first | exact h7 | exact sm_get_p1 | exact sm_get_p2e | refine sm_get_p1m (by decide) (by decide) ?_ | refine sm_get_p1n (by decide) rfl ?_ | refine sm_get_p2n (by decide) (by decide) rfl ?_)) ?_
  refine Bod.bip 62 (by decide) dc_288_506 ?_
  refine Bod.icF dc_288_508 rfl (k2_eq_F (k_ne 123 62 rfl rfl (by omega) (by omega) (by omega))) ?_
  refine Bod.ildG dc_288_511 (by repeat (first | exact h7 | exact sm_get_p1 | exact sm_get_p2e | refine sm_get_p1m (by decide) (by decide) ?_ | refine sm_get_p1n (by decide) rfl ?_ | refine sm_get_p2n (by decide) (by decide) rfl ?_)) ?_
  refine Bod.bip 43 (by decide) dc_288_513 ?_
  refine Bod.icF dc_288_515 rfl (k2_eq_F (k_ne 123 43 rfl rfl (by omega) (by omega) (by omega))) ?_
  refine Bod.ildG dc_288_518 (by repeat (first | exact h7 | exact sm_get_p1 | exact sm_get_p2e | refine sm_get_p1m (by decide) (by decide) ?_ | refine sm_get_p1n (by decide) rfl ?_ | refine sm_get_p2n (by decide) (by decide) rfl ?_)) ?_
  refine Bod.bip 45 (by decide) dc_288_520 ?_
  refine Bod.icF dc_288_522 rfl (k2_eq_F (k_ne 123 45 rfl rfl (by omega) (by omega) (by omega))) ?_
  refine Bod.ildG dc_288_525 (by repeat (first | exact h7 | exact sm_get_p1 | exact sm_get_p2e | refine sm_get_p1m (by decide) (by decide) ?_ | refine sm_get_p1n (by decide) rfl ?_ | refine sm_get_p2n (by decide) (by decide) rfl ?_)) ?_
  refine Bod.bip 42 (by decide) dc_288_527 ?_
  refine Bod.icF dc_288_529 rfl (k2_eq_F (k_ne 123 42 rfl rfl (by omega) (by omega) (by omega))) ?_
  refine Bod.ildG dc_288_532 (by repeat (first | exact h7 | exact sm_get_p1 | exact sm_get_p2e | refine sm_get_p1m (by decide) (by decide) ?_ | refine sm_get_p1n (by decide) rfl ?_ | refine sm_get_p2n (by decide) (by decide) rfl ?_)) ?_
  refine Bod.bip 47 (by decide) dc_288_534 ?_
  refine Bod.icT dc_288_536 rfl (k2_ne_T (k_ne 123 47 rfl rfl (by omega) (by omega) (by omega))) ?_
  refine Bod.ic 0 (by decide) dc_288_550 ?_
  refine Bod.ist dc_288_551 (by rw [ml_288]; exact Nat.le_of_ble_eq_true rfl) ?_
  refine Bod.ildG dc_288_553 (by repeat (first | exact h7 | exact sm_get_p1 | exact sm_get_p2e | refine sm_get_p1m (by decide) (by decide) ?_ | refine sm_get_p1n (by decide) rfl ?_ | refine sm_get_p2n (by decide) (by decide) rfl ?_)) ?_
  refine Bod.bip 40 (by decide) dc_288_555 ?_
  refine Bod.icF dc_288_557 rfl (k2_eq_F (k_ne 123 40 rfl rfl (by omega) (by omega) (by omega))) ?_
  refine Bod.ildG dc_288_560 (by repeat (first | exact h7 | exact sm_get_p1 | exact sm_get_p2e | refine sm_get_p1m (by decide) (by decide) ?_ | refine sm_get_p1n (by decide) rfl ?_ | refine sm_get_p2n (by decide) (by decide) rfl ?_)) ?_
  refine Bod.bip 41 (by decide) dc_288_562 ?_
  refine Bod.icF dc_288_564 rfl (k2_eq_F (k_ne 123 41 rfl rfl (by omega) (by omega) (by omega))) ?_
  refine Bod.ildG dc_288_567 (by repeat (first | exact h7 | exact sm_get_p1 | exact sm_get_p2e | refine sm_get_p1m (by decide) (by decide) ?_ | refine sm_get_p1n (by decide) rfl ?_ | refine sm_get_p2n (by decide) (by decide) rfl ?_)) ?_
  refine Bod.bip 91 (by decide) dc_288_569 ?_
  refine Bod.icF dc_288_571 rfl (k2_eq_F (k_ne 123 91 rfl rfl (by omega) (by omega) (by omega))) ?_
  refine Bod.ildG dc_288_574 (by repeat (first | exact h7 | exact sm_get_p1 | exact sm_get_p2e | refine sm_get_p1m (by decide) (by decide) ?_ | refine sm_get_p1n (by decide) rfl ?_ | refine sm_get_p2n (by decide) (by decide) rfl ?_)) ?_
  refine Bod.bip 93 (by decide) dc_288_576 ?_
  refine Bod.icF dc_288_578 rfl (k2_eq_F (k_ne 123 93 rfl rfl (by omega) (by omega) (by omega))) ?_
  refine Bod.ildG dc_288_581 (by repeat (first | exact h7 | exact sm_get_p1 | exact sm_get_p2e | refine sm_get_p1m (by decide) (by decide) ?_ | refine sm_get_p1n (by decide) rfl ?_ | refine sm_get_p2n (by decide) (by decide) rfl ?_)) ?_
  refine Bod.bip 123 (by decide) dc_288_583 ?_
  refine Bod.icT dc_288_585 rfl (k2_eq_T (k_eq 123 123 rfl rfl (by omega))) ?_
  refine Bod.ic 1 (by decide) dc_288_665 ?_
  refine Bod.go dc_288_666 rfl ?_
  refine Bod.ist dc_288_670 (by rw [ml_288]; exact Nat.le_of_ble_eq_true rfl) ?_
  refine Bod.aldnG dc_288_672 (by repeat (first | exact h0 | exact sm_get_p1 | exact sm_get_p2e | refine sm_get_p1m (by decide) (by decide) ?_ | refine sm_get_p1n (by decide) rfl ?_ | refine sm_get_p2n (by decide) (by decide) rfl ?_)) ?_
  refine Bod.go dc_288_673 rfl ?_
  refine Bod.ifF dc_288_675 rfl (k1_ne_F (k_eq 0 0 rfl rfl (by omega))) ?_
  refine Bod.go dc_288_678 rfl ?_
  refine Bod.ifF dc_288_680 rfl (k1_eq_F (k_ne 1 0 rfl rfl (by omega) (by omega) (by omega))) ?_
  refine Bod.ic 5 (by decide) dc_288_683 ?_
  refine Bod.go dc_288_684 rfl ?_
  refine Bod.go dc_288_689 rfl ?_
  refine Bod.ifT dc_288_691 rfl (k1_eq_T (k_eq 0 0 rfl rfl (by omega))) ?_
  refine Bod.ildG dc_288_706 (by repeat (first | exact h7 | exact sm_get_p1 | exact sm_get_p2e | refine sm_get_p1m (by decide) (by decide) ?_ | refine sm_get_p1n (by decide) rfl ?_ | refine sm_get_p2n (by decide) (by decide) rfl ?_)) ?_
  refine Bod.ildG dc_288_708 (by repeat (first | exact h4 | exact sm_get_p1 | exact sm_get_p2e | refine sm_get_p1m (by decide) (by decide) ?_ | refine sm_get_p1n (by decide) rfl ?_ | refine sm_get_p2n (by decide) (by decide) rfl ?_)) ?_
  refine Bod.ildG dc_288_710 (by repeat (first | exact h5 | exact sm_get_p1 | exact sm_get_p2e | refine sm_get_p1m (by decide) (by decide) ?_ | refine sm_get_p1n (by decide) rfl ?_ | refine sm_get_p2n (by decide) (by decide) rfl ?_)) ?_
  refine Bod.virt (r := []) dc_288_712 kr_288_151 ⟨Or.inl rfl, ow_293, cl_14⟩ (by rw [np_293]; rfl) (by rw [np_293]; rfl) (ob_of (mk_61 _)) (Nat.le_of_ble_eq_true rfl) (tok_ev (t := t) (kd := (nI 5)) (vl := (nI 123)) (ln := (nI l)) (bl := (nI bl)) (by first | assumption | rfl | exact congrArg nI (by omega) | (simp (disch := omega) only [rI, rIe, rA, rIA, rLA, rJA, rVI, rQI, rVA, rQA, upd_at,  rAI, rLI, rJI, nI_add, pk_sub, kc_0, kc_1, kc_2, kc_3, kc_4, kc_5, reduceIte, Nat.reduceEqDiff, Nat.add_zero, rI_hold, rI_hold, rL_hold, ht]; done)) (by omega)) ?_
  show Bod _ _ _ _ [] _ _ _
  refine Bod.ildG dc_288_715 (by repeat (first | exact h6 | exact sm_get_p1 | exact sm_get_p2e | refine sm_get_p1m (by decide) (by decide) ?_ | refine sm_get_p1n (by decide) rfl ?_ | refine sm_get_p2n (by decide) (by decide) rfl ?_)) ?_
  refine Bod.go dc_288_717 rfl ?_
  refine Bod.ifT dc_288_719 rfl (k1_eq_T (k_eq 0 0 rfl rfl (by omega))) ?_
  refine Bod.ic 1 (by decide) dc_288_726 ?_
  refine Bod.addN (p + 1) (by omega) dc_288_727 ?_
  refine Bod.ist dc_288_728 (by rw [ml_288]; exact Nat.le_of_ble_eq_true rfl) ?_
  refine Bod.go dc_288_730 rfl ?_
  exact hB _ (by repeat (first | exact h0 | exact sm_get_p1 | exact sm_get_p2e | refine sm_get_p1m (by decide) (by decide) ?_ | refine sm_get_p1n (by decide) rfl ?_ | refine sm_get_p2n (by decide) (by decide) rfl ?_)) (by repeat (first | exact h1 | exact sm_get_p1 | exact sm_get_p2e | refine sm_get_p1m (by decide) (by decide) ?_ | refine sm_get_p1n (by decide) rfl ?_ | refine sm_get_p2n (by decide) (by decide) rfl ?_)) (by repeat (first | exact h3 | exact sm_get_p1 | exact sm_get_p2e | refine sm_get_p1m (by decide) (by decide) ?_ | refine sm_get_p1n (by decide) rfl ?_ | refine sm_get_p2n (by decide) (by decide) rfl ?_)) (by repeat (first | exact h4 | exact sm_get_p1 | exact sm_get_p2e | refine sm_get_p1m (by decide) (by decide) ?_ | refine sm_get_p1n (by decide) rfl ?_ | refine sm_get_p2n (by decide) (by decide) rfl ?_)) (by repeat (first | exact h5 | exact sm_get_p1 | exact sm_get_p2e | refine sm_get_p1m (by decide) (by decide) ?_ | refine sm_get_p1n (by decide) rfl ?_ | refine sm_get_p2n (by decide) (by decide) rfl ?_)) (by repeat (first | exact h6 | exact sm_get_p1 | exact sm_get_p2e | refine sm_get_p1m (by decide) (by decide) ?_ | refine sm_get_p1n (by decide) rfl ?_ | refine sm_get_p2n (by decide) (by decide) rfl ?_))
theorem rs_123_n {d : Nat} {S Sf : cS} {lv : sm_L} {v : Option Value} {e : Nat} {l : Nat} {bl : Nat} {p : Nat} {x : Int32} {st : Nat} {dd : Int32} {t : Nat} (heM : e ≤ 3000) (hp : p ≤ e) (h0 : sm_get lv 0 = some (.ref 61)) (h1 : sm_get lv 1 = some (.ref 107)) (h3 : sm_get lv 3 = some (.int (nI e))) (h4 : sm_get lv 4 = some (.int (nI l))) (h5 : sm_get lv 5 = some (.int (nI bl))) (h6 : sm_get lv 6 = some (.int (nI p))) (h7 : sm_get lv 7 = some (.int (nI 123))) (h8 : sm_get lv 8 = some (.int (nI st))) (hd : sm_get lv 9 = some (.int dd)) (n61 : dd ≠ nI 61) (ht : sI S 6112 = nI t) (htM : t < 6002) (hB : ∀ lv1 : sm_L, sm_get lv1 0 = some (.ref 61) → sm_get lv1 1 = some (.ref 107) → sm_get lv1 3 = some (.int (nI e)) → sm_get lv1 4 = some (.int (nI l)) → sm_get lv1 5 = some (.int (nI bl)) → sm_get lv1 6 = some (.int (nI (p + 1))) → Bod (d + 8) 288 3 lv1 [] (wI 6112 (nI (t + 1)) (wA 70 t ((nI bl)) (wA 69 t ((nI l)) (wA 68 t ((nI 123)) (wA 67 t ((nI 5)) S))))) v Sf) : Bod (d + 8) 288 476 lv [] S v Sf := by
  refine Bod.ildG dc_288_476 (by repeat (first | exact hd | exact sm_get_p1 | exact sm_get_p2e | refine sm_get_p1m (by decide) (by decide) ?_ | refine sm_get_p1n (by decide) rfl ?_ | refine sm_get_p2n (by decide) (by decide) rfl ?_)) ?_
  refine Bod.bip 61 (by decide) dc_288_478 ?_
  refine Bod.icT dc_288_480 rfl (k2_ne_T n61) ?_
  refine Bod.ildG dc_288_532 (by repeat (first | exact h7 | exact sm_get_p1 | exact sm_get_p2e | refine sm_get_p1m (by decide) (by decide) ?_ | refine sm_get_p1n (by decide) rfl ?_ | refine sm_get_p2n (by decide) (by decide) rfl ?_)) ?_
  refine Bod.bip 47 (by decide) dc_288_534 ?_
  refine Bod.icT dc_288_536 rfl (k2_ne_T (k_ne 123 47 rfl rfl (by omega) (by omega) (by omega))) ?_
  refine Bod.ic 0 (by decide) dc_288_550 ?_
  refine Bod.ist dc_288_551 (by rw [ml_288]; exact Nat.le_of_ble_eq_true rfl) ?_
  refine Bod.ildG dc_288_553 (by repeat (first | exact h7 | exact sm_get_p1 | exact sm_get_p2e | refine sm_get_p1m (by decide) (by decide) ?_ | refine sm_get_p1n (by decide) rfl ?_ | refine sm_get_p2n (by decide) (by decide) rfl ?_)) ?_
  refine Bod.bip 40 (by decide) dc_288_555 ?_
  refine Bod.icF dc_288_557 rfl (k2_eq_F (k_ne 123 40 rfl rfl (by omega) (by omega) (by omega))) ?_
  refine Bod.ildG dc_288_560 (by repeat (first | exact h7 | exact sm_get_p1 | exact sm_get_p2e | refine sm_get_p1m (by decide) (by decide) ?_ | refine sm_get_p1n (by decide) rfl ?_ | refine sm_get_p2n (by decide) (by decide) rfl ?_)) ?_
  refine Bod.bip 41 (by decide) dc_288_562 ?_
  refine Bod.icF dc_288_564 rfl (k2_eq_F (k_ne 123 41 rfl rfl (by omega) (by omega) (by omega))) ?_
  refine Bod.ildG dc_288_567 (by repeat (first | exact h7 | exact sm_get_p1 | exact sm_get_p2e | refine sm_get_p1m (by decide) (by decide) ?_ | refine sm_get_p1n (by decide) rfl ?_ | refine sm_get_p2n (by decide) (by decide) rfl ?_)) ?_
  refine Bod.bip 91 (by decide) dc_288_569 ?_
  refine Bod.icF dc_288_571 rfl (k2_eq_F (k_ne 123 91 rfl rfl (by omega) (by omega) (by omega))) ?_
  refine Bod.ildG dc_288_574 (by repeat (first | exact h7 | exact sm_get_p1 | exact sm_get_p2e | refine sm_get_p1m (by decide) (by decide) ?_ | refine sm_get_p1n (by decide) rfl ?_ | refine sm_get_p2n (by decide) (by decide) rfl ?_)) ?_
  refine Bod.bip 93 (by decide) dc_288_576 ?_
  refine Bod.icF dc_288_578 rfl (k2_eq_F (k_ne 123 93 rfl rfl (by omega) (by omega) (by omega))) ?_
  refine Bod.ildG dc_288_581 (by repeat (first | exact h7 | exact sm_get_p1 | exact sm_get_p2e | refine sm_get_p1m (by decide) (by decide) ?_ | refine sm_get_p1n (by decide) rfl ?_ | refine sm_get_p2n (by decide) (by decide) rfl ?_)) ?_
  refine Bod.bip 123 (by decide) dc_288_583 ?_
  refine Bod.icT dc_288_585 rfl (k2_eq_T (k_eq 123 123 rfl rfl (by omega))) ?_
  refine Bod.ic 1 (by decide) dc_288_665 ?_
  refine Bod.go dc_288_666 rfl ?_
  refine Bod.ist dc_288_670 (by rw [ml_288]; exact Nat.le_of_ble_eq_true rfl) ?_
  refine Bod.aldnG dc_288_672 (by repeat (first | exact h0 | exact sm_get_p1 | exact sm_get_p2e | refine sm_get_p1m (by decide) (by decide) ?_ | refine sm_get_p1n (by decide) rfl ?_ | refine sm_get_p2n (by decide) (by decide) rfl ?_)) ?_
  refine Bod.go dc_288_673 rfl ?_
  refine Bod.ifF dc_288_675 rfl (k1_ne_F (k_eq 0 0 rfl rfl (by omega))) ?_
  refine Bod.go dc_288_678 rfl ?_
  refine Bod.ifF dc_288_680 rfl (k1_eq_F (k_ne 1 0 rfl rfl (by omega) (by omega) (by omega))) ?_
  refine Bod.ic 5 (by decide) dc_288_683 ?_
  refine Bod.go dc_288_684 rfl ?_
  refine Bod.go dc_288_689 rfl ?_
  refine Bod.ifT dc_288_691 rfl (k1_eq_T (k_eq 0 0 rfl rfl (by omega))) ?_
  refine Bod.ildG dc_288_706 (by repeat (first | exact h7 | exact sm_get_p1 | exact sm_get_p2e | refine sm_get_p1m (by decide) (by decide) ?_ | refine sm_get_p1n (by decide) rfl ?_ | refine sm_get_p2n (by decide) (by decide) rfl ?_)) ?_
  refine Bod.ildG dc_288_708 (by repeat (first | exact h4 | exact sm_get_p1 | exact sm_get_p2e | refine sm_get_p1m (by decide) (by decide) ?_ | refine sm_get_p1n (by decide) rfl ?_ | refine sm_get_p2n (by decide) (by decide) rfl ?_)) ?_
  refine Bod.ildG dc_288_710 (by repeat (first | exact h5 | exact sm_get_p1 | exact sm_get_p2e | refine sm_get_p1m (by decide) (by decide) ?_ | refine sm_get_p1n (by decide) rfl ?_ | refine sm_get_p2n (by decide) (by decide) rfl ?_)) ?_
  refine Bod.virt (r := []) dc_288_712 kr_288_151 ⟨Or.inl rfl, ow_293, cl_14⟩ (by rw [np_293]; rfl) (by rw [np_293]; rfl) (ob_of (mk_61 _)) (Nat.le_of_ble_eq_true rfl) (tok_ev (t := t) (kd := (nI 5)) (vl := (nI 123)) (ln := (nI l)) (bl := (nI bl)) (by first | assumption | rfl | exact congrArg nI (by omega) | (simp (disch := omega) only [rI, rIe, rA, rIA, rLA, rJA, rVI, rQI, rVA, rQA, upd_at,  rAI, rLI, rJI, nI_add, pk_sub, kc_0, kc_1, kc_2, kc_3, kc_4, kc_5, reduceIte, Nat.reduceEqDiff, Nat.add_zero, rI_hold, rI_hold, rL_hold, ht]; done)) (by omega)) ?_
  show Bod _ _ _ _ [] _ _ _
  refine Bod.ildG dc_288_715 (by repeat (first | exact h6 | exact sm_get_p1 | exact sm_get_p2e | refine sm_get_p1m (by decide) (by decide) ?_ | refine sm_get_p1n (by decide) rfl ?_ | refine sm_get_p2n (by decide) (by decide) rfl ?_)) ?_
  refine Bod.go dc_288_717 rfl ?_
  refine Bod.ifT dc_288_719 rfl (k1_eq_T (k_eq 0 0 rfl rfl (by omega))) ?_
  refine Bod.ic 1 (by decide) dc_288_726 ?_
  refine Bod.addN (p + 1) (by omega) dc_288_727 ?_
  refine Bod.ist dc_288_728 (by rw [ml_288]; exact Nat.le_of_ble_eq_true rfl) ?_
  refine Bod.go dc_288_730 rfl ?_
  exact hB _ (by repeat (first | exact h0 | exact sm_get_p1 | exact sm_get_p2e | refine sm_get_p1m (by decide) (by decide) ?_ | refine sm_get_p1n (by decide) rfl ?_ | refine sm_get_p2n (by decide) (by decide) rfl ?_)) (by repeat (first | exact h1 | exact sm_get_p1 | exact sm_get_p2e | refine sm_get_p1m (by decide) (by decide) ?_ | refine sm_get_p1n (by decide) rfl ?_ | refine sm_get_p2n (by decide) (by decide) rfl ?_)) (by repeat (first | exact h3 | exact sm_get_p1 | exact sm_get_p2e | refine sm_get_p1m (by decide) (by decide) ?_ | refine sm_get_p1n (by decide) rfl ?_ | refine sm_get_p2n (by decide) (by decide) rfl ?_)) (by repeat (first | exact h4 | exact sm_get_p1 | exact sm_get_p2e | refine sm_get_p1m (by decide) (by decide) ?_ | refine sm_get_p1n (by decide) rfl ?_ | refine sm_get_p2n (by decide) (by decide) rfl ?_)) (by repeat (first | exact h5 | exact sm_get_p1 | exact sm_get_p2e | refine sm_get_p1m (by decide) (by decide) ?_ | refine sm_get_p1n (by decide) rfl ?_ | refine sm_get_p2n (by decide) (by decide) rfl ?_)) (by repeat (first | exact h6 | exact sm_get_p1 | exact sm_get_p2e | refine sm_get_p1m (by decide) (by decide) ?_ | refine sm_get_p1n (by decide) rfl ?_ | refine sm_get_p2n (by decide) (by decide) rfl ?_))
theorem rs_125_61 {d : Nat} {S Sf : cS} {lv : sm_L} {v : Option Value} {e : Nat} {l : Nat} {bl : Nat} {p : Nat} {x : Int32} {st : Nat} {t : Nat} (heM : e ≤ 3000) (hp : p ≤ e) (h0 : sm_get lv 0 = some (.ref 61)) (h1 : sm_get lv 1 = some (.ref 107)) (h3 : sm_get lv 3 = some (.int (nI e))) (h4 : sm_get lv 4 = some (.int (nI l))) (h5 : sm_get lv 5 = some (.int (nI bl))) (h6 : sm_get lv 6 = some (.int (nI p))) (h7 : sm_get lv 7 = some (.int (nI 125))) (h8 : sm_get lv 8 = some (.int (nI st))) (hd : sm_get lv 9 = some (.int (nI 61))) (ht : sI S 6112 = nI t) (htM : t < 6002) (hB : ∀ lv1 : sm_L, sm_get lv1 0 = some (.ref 61) → sm_get lv1 1 = some (.ref 107) → sm_get lv1 3 = some (.int (nI e)) → sm_get lv1 4 = some (.int (nI l)) → sm_get lv1 5 = some (.int (nI bl)) → sm_get lv1 6 = some (.int (nI (p + 1))) → Bod (d + 8) 288 3 lv1 [] (wI 6112 (nI (t + 1)) (wA 70 t ((nI bl)) (wA 69 t ((nI l)) (wA 68 t ((nI 125)) (wA 67 t ((nI 5)) S))))) v Sf) : Bod (d + 8) 288 476 lv [] S v Sf := by
  refine Bod.ildG dc_288_476 (by repeat (first | exact hd | exact sm_get_p1 | exact sm_get_p2e | refine sm_get_p1m (by decide) (by decide) ?_ | refine sm_get_p1n (by decide) rfl ?_ | refine sm_get_p2n (by decide) (by decide) rfl ?_)) ?_
  refine Bod.bip 61 (by decide) dc_288_478 ?_
  refine Bod.icF dc_288_480 rfl (k2_ne_F (k_eq 61 61 rfl rfl (by omega))) ?_
  refine Bod.ildG dc_288_483 (by repeat (first | exact h7 | exact sm_get_p1 | exact sm_get_p2e | refine sm_get_p1m (by decide) (by decide) ?_ | refine sm_get_p1n (by decide) rfl ?_ | refine sm_get_p2n (by decide) (by decide) rfl ?_)) ?_
  refine Bod.bip 61 (by decide) dc_288_485 ?_
  refine Bod.icF dc_288_487 rfl (k2_eq_F (k_ne 125 61 rfl rfl (by omega) (by omega) (by omega))) ?_
  refine Bod.ildG dc_288_490 (by repeat (first | exact h7 | exact sm_get_p1 | exact sm_get_p2e | refine sm_get_p1m (by decide) (by decide) ?_ | refine sm_get_p1n (by decide) rfl ?_ | refine sm_get_p2n (by decide) (by decide) rfl ?_)) ?_
  refine Bod.bip 33 (by decide) dc_288_492 ?_
  refine Bod.icF dc_288_494 rfl (k2_eq_F (k_ne 125 33 rfl rfl (by omega) (by omega) (by omega))) ?_
  refine Bod.ildG dc_288_497 (by repeat (first | exact h7 | exact sm_get_p1 | exact sm_get_p2e | refine sm_get_p1m (by decide) (by decide) ?_ | refine sm_get_p1n (by decide) rfl ?_ | refine sm_get_p2n (by decide) (by decide) rfl ?_)) ?_
  refine Bod.bip 60 (by decide) dc_288_499 ?_
  refine Bod.icF dc_288_501 rfl (k2_eq_F (k_ne 125 60 rfl rfl (by omega) (by omega) (by omega))) ?_
  refine Bod.ildG dc_288_504 (by repeat (first | exact h7 | exact sm_get_p1 | exact sm_get_p2e | refine sm_get_p1m (by decide) (by decide) ?_ | refine sm_get_p1n (by decide) rfl ?_ | refine sm_get_p2n (by decide) (by decide) rfl ?_)) ?_
  refine Bod.bip 62 (by decide) dc_288_506 ?_
  refine Bod.icF dc_288_508 rfl (k2_eq_F (k_ne 125 62 rfl rfl (by omega) (by omega) (by omega))) ?_
  refine Bod.ildG dc_288_511 (by repeat (first | exact h7 | exact sm_get_p1 | exact sm_get_p2e | refine sm_get_p1m (by decide) (by decide) ?_ | refine sm_get_p1n (by decide) rfl ?_ | refine sm_get_p2n (by decide) (by decide) rfl ?_)) ?_
  refine Bod.bip 43 (by decide) dc_288_513 ?_
  refine Bod.icF dc_288_515 rfl (k2_eq_F (k_ne 125 43 rfl rfl (by omega) (by omega) (by omega))) ?_
  refine Bod.ildG dc_288_518 (by repeat (first | exact h7 | exact sm_get_p1 | exact sm_get_p2e | refine sm_get_p1m (by decide) (by decide) ?_ | refine sm_get_p1n (by decide) rfl ?_ | refine sm_get_p2n (by decide) (by decide) rfl ?_)) ?_
  refine Bod.bip 45 (by decide) dc_288_520 ?_
  refine Bod.icF dc_288_522 rfl (k2_eq_F (k_ne 125 45 rfl rfl (by omega) (by omega) (by omega))) ?_
  refine Bod.ildG dc_288_525 (by repeat (first | exact h7 | exact sm_get_p1 | exact sm_get_p2e | refine sm_get_p1m (by decide) (by decide) ?_ | refine sm_get_p1n (by decide) rfl ?_ | refine sm_get_p2n (by decide) (by decide) rfl ?_)) ?_
  refine Bod.bip 42 (by decide) dc_288_527 ?_
  refine Bod.icF dc_288_529 rfl (k2_eq_F (k_ne 125 42 rfl rfl (by omega) (by omega) (by omega))) ?_
  refine Bod.ildG dc_288_532 (by repeat (first | exact h7 | exact sm_get_p1 | exact sm_get_p2e | refine sm_get_p1m (by decide) (by decide) ?_ | refine sm_get_p1n (by decide) rfl ?_ | refine sm_get_p2n (by decide) (by decide) rfl ?_)) ?_
  refine Bod.bip 47 (by decide) dc_288_534 ?_
  refine Bod.icT dc_288_536 rfl (k2_ne_T (k_ne 125 47 rfl rfl (by omega) (by omega) (by omega))) ?_
  refine Bod.ic 0 (by decide) dc_288_550 ?_
  refine Bod.ist dc_288_551 (by rw [ml_288]; exact Nat.le_of_ble_eq_true rfl) ?_
  refine Bod.ildG dc_288_553 (by repeat (first | exact h7 | exact sm_get_p1 | exact sm_get_p2e | refine sm_get_p1m (by decide) (by decide) ?_ | refine sm_get_p1n (by decide) rfl ?_ | refine sm_get_p2n (by decide) (by decide) rfl ?_)) ?_
  refine Bod.bip 40 (by decide) dc_288_555 ?_
  refine Bod.icF dc_288_557 rfl (k2_eq_F (k_ne 125 40 rfl rfl (by omega) (by omega) (by omega))) ?_
  refine Bod.ildG dc_288_560 (by repeat (first | exact h7 | exact sm_get_p1 | exact sm_get_p2e | refine sm_get_p1m (by decide) (by decide) ?_ | refine sm_get_p1n (by decide) rfl ?_ | refine sm_get_p2n (by decide) (by decide) rfl ?_)) ?_
  refine Bod.bip 41 (by decide) dc_288_562 ?_
  refine Bod.icF dc_288_564 rfl (k2_eq_F (k_ne 125 41 rfl rfl (by omega) (by omega) (by omega))) ?_
  refine Bod.ildG dc_288_567 (by repeat (first | exact h7 | exact sm_get_p1 | exact sm_get_p2e | refine sm_get_p1m (by decide) (by decide) ?_ | refine sm_get_p1n (by decide) rfl ?_ | refine sm_get_p2n (by decide) (by decide) rfl ?_)) ?_
  refine Bod.bip 91 (by decide) dc_288_569 ?_
  refine Bod.icF dc_288_571 rfl (k2_eq_F (k_ne 125 91 rfl rfl (by omega) (by omega) (by omega))) ?_
  refine Bod.ildG dc_288_574 (by repeat (first | exact h7 | exact sm_get_p1 | exact sm_get_p2e | refine sm_get_p1m (by decide) (by decide) ?_ | refine sm_get_p1n (by decide) rfl ?_ | refine sm_get_p2n (by decide) (by decide) rfl ?_)) ?_
  refine Bod.bip 93 (by decide) dc_288_576 ?_
  refine Bod.icF dc_288_578 rfl (k2_eq_F (k_ne 125 93 rfl rfl (by omega) (by omega) (by omega))) ?_
  refine Bod.ildG dc_288_581 (by repeat (first | exact h7 | exact sm_get_p1 | exact sm_get_p2e | refine sm_get_p1m (by decide) (by decide) ?_ | refine sm_get_p1n (by decide) rfl ?_ | refine sm_get_p2n (by decide) (by decide) rfl ?_)) ?_
  refine Bod.bip 123 (by decide) dc_288_583 ?_
  refine Bod.icF dc_288_585 rfl (k2_eq_F (k_ne 125 123 rfl rfl (by omega) (by omega) (by omega))) ?_
  refine Bod.ildG dc_288_588 (by repeat (first | exact h7 | exact sm_get_p1 | exact sm_get_p2e | refine sm_get_p1m (by decide) (by decide) ?_ | refine sm_get_p1n (by decide) rfl ?_ | refine sm_get_p2n (by decide) (by decide) rfl ?_)) ?_
  refine Bod.bip 125 (by decide) dc_288_590 ?_
  refine Bod.icT dc_288_592 rfl (k2_eq_T (k_eq 125 125 rfl rfl (by omega))) ?_
  refine Bod.ic 1 (by decide) dc_288_665 ?_
  refine Bod.go dc_288_666 rfl ?_
  refine Bod.ist dc_288_670 (by rw [ml_288]; exact Nat.le_of_ble_eq_true rfl) ?_
  refine Bod.aldnG dc_288_672 (by repeat (first | exact h0 | exact sm_get_p1 | exact sm_get_p2e | refine sm_get_p1m (by decide) (by decide) ?_ | refine sm_get_p1n (by decide) rfl ?_ | refine sm_get_p2n (by decide) (by decide) rfl ?_)) ?_
  refine Bod.go dc_288_673 rfl ?_
  refine Bod.ifF dc_288_675 rfl (k1_ne_F (k_eq 0 0 rfl rfl (by omega))) ?_
  refine Bod.go dc_288_678 rfl ?_
  refine Bod.ifF dc_288_680 rfl (k1_eq_F (k_ne 1 0 rfl rfl (by omega) (by omega) (by omega))) ?_
  refine Bod.ic 5 (by decide) dc_288_683 ?_
  refine Bod.go dc_288_684 rfl ?_
  refine Bod.go dc_288_689 rfl ?_
  refine Bod.ifT dc_288_691 rfl (k1_eq_T (k_eq 0 0 rfl rfl (by omega))) ?_
  refine Bod.ildG dc_288_706 (by repeat (first | exact h7 | exact sm_get_p1 | exact sm_get_p2e | refine sm_get_p1m (by decide) (by decide) ?_ | refine sm_get_p1n (by decide) rfl ?_ | refine sm_get_p2n (by decide) (by decide) rfl ?_)) ?_
  refine Bod.ildG dc_288_708 (by repeat (first | exact h4 | exact sm_get_p1 | exact sm_get_p2e | refine sm_get_p1m (by decide) (by decide) ?_ | refine sm_get_p1n (by decide) rfl ?_ | refine sm_get_p2n (by decide) (by decide) rfl ?_)) ?_
  refine Bod.ildG dc_288_710 (by repeat (first | exact h5 | exact sm_get_p1 | exact sm_get_p2e | refine sm_get_p1m (by decide) (by decide) ?_ | refine sm_get_p1n (by decide) rfl ?_ | refine sm_get_p2n (by decide) (by decide) rfl ?_)) ?_
  refine Bod.virt (r := []) dc_288_712 kr_288_151 ⟨Or.inl rfl, ow_293, cl_14⟩ (by rw [np_293]; rfl) (by rw [np_293]; rfl) (ob_of (mk_61 _)) (Nat.le_of_ble_eq_true rfl) (tok_ev (t := t) (kd := (nI 5)) (vl := (nI 125)) (ln := (nI l)) (bl := (nI bl)) (by first | assumption | rfl | exact congrArg nI (by omega) | (simp (disch := omega) only [rI, rIe, rA, rIA, rLA, rJA, rVI, rQI, rVA, rQA, upd_at,  rAI, rLI, rJI, nI_add, pk_sub, kc_0, kc_1, kc_2, kc_3, kc_4, kc_5, reduceIte, Nat.reduceEqDiff, Nat.add_zero, rI_hold, rI_hold, rL_hold, ht]; done)) (by omega)) ?_
  show Bod _ _ _ _ [] _ _ _
  refine Bod.ildG dc_288_715 (by repeat (first | exact h6 | exact sm_get_p1 | exact sm_get_p2e | refine sm_get_p1m (by decide) (by decide) ?_ | refine sm_get_p1n (by decide) rfl ?_ | refine sm_get_p2n (by decide) (by decide) rfl ?_)) ?_
  refine Bod.go dc_288_717 rfl ?_
  refine Bod.ifT dc_288_719 rfl (k1_eq_T (k_eq 0 0 rfl rfl (by omega))) ?_
  refine Bod.ic 1 (by decide) dc_288_726 ?_
  refine Bod.addN (p + 1) (by omega) dc_288_727 ?_
  refine Bod.ist dc_288_728 (by rw [ml_288]; exact Nat.le_of_ble_eq_true rfl) ?_
  refine Bod.go dc_288_730 rfl ?_
  exact hB _ (by repeat (first | exact h0 | exact sm_get_p1 | exact sm_get_p2e | refine sm_get_p1m (by decide) (by decide) ?_ | refine sm_get_p1n (by decide) rfl ?_ | refine sm_get_p2n (by decide) (by decide) rfl ?_)) (by repeat (first | exact h1 | exact sm_get_p1 | exact sm_get_p2e | refine sm_get_p1m (by decide) (by decide) ?_ | refine sm_get_p1n (by decide) rfl ?_ | refine sm_get_p2n (by decide) (by decide) rfl ?_)) (by repeat (first | exact h3 | exact sm_get_p1 | exact sm_get_p2e | refine sm_get_p1m (by decide) (by decide) ?_ | refine sm_get_p1n (by decide) rfl ?_ | refine sm_get_p2n (by decide) (by decide) rfl ?_)) (by repeat (first | exact h4 | exact sm_get_p1 | exact sm_get_p2e | refine sm_get_p1m (by decide) (by decide) ?_ | refine sm_get_p1n (by decide) rfl ?_ | refine sm_get_p2n (by decide) (by decide) rfl ?_)) (by repeat (first | exact h5 | exact sm_get_p1 | exact sm_get_p2e | refine sm_get_p1m (by decide) (by decide) ?_ | refine sm_get_p1n (by decide) rfl ?_ | refine sm_get_p2n (by decide) (by decide) rfl ?_)) (by repeat (first | exact h6 | exact sm_get_p1 | exact sm_get_p2e | refine sm_get_p1m (by decide) (by decide) ?_ | refine sm_get_p1n (by decide) rfl ?_ | refine sm_get_p2n (by decide) (by decide) rfl ?_))
theorem rs_125_n {d : Nat} {S Sf : cS} {lv : sm_L} {v : Option Value} {e : Nat} {l : Nat} {bl : Nat} {p : Nat} {x : Int32} {st : Nat} {dd : Int32} {t : Nat} (heM : e ≤ 3000) (hp : p ≤ e) (h0 : sm_get lv 0 = some (.ref 61)) (h1 : sm_get lv 1 = some (.ref 107)) (h3 : sm_get lv 3 = some (.int (nI e))) (h4 : sm_get lv 4 = some (.int (nI l))) (h5 : sm_get lv 5 = some (.int (nI bl))) (h6 : sm_get lv 6 = some (.int (nI p))) (h7 : sm_get lv 7 = some (.int (nI 125))) (h8 : sm_get lv 8 = some (.int (nI st))) (hd : sm_get lv 9 = some (.int dd)) (n61 : dd ≠ nI 61) (ht : sI S 6112 = nI t) (htM : t < 6002) (hB : ∀ lv1 : sm_L, sm_get lv1 0 = some (.ref 61) → sm_get lv1 1 = some (.ref 107) → sm_get lv1 3 = some (.int (nI e)) → sm_get lv1 4 = some (.int (nI l)) → sm_get lv1 5 = some (.int (nI bl)) → sm_get lv1 6 = some (.int (nI (p + 1))) → Bod (d + 8) 288 3 lv1 [] (wI 6112 (nI (t + 1)) (wA 70 t ((nI bl)) (wA 69 t ((nI l)) (wA 68 t ((nI 125)) (wA 67 t ((nI 5)) S))))) v Sf) : Bod (d + 8) 288 476 lv [] S v Sf := by
  refine Bod.ildG dc_288_476 (by repeat (first | exact hd | exact sm_get_p1 | exact sm_get_p2e | refine sm_get_p1m (by decide) (by decide) ?_ | refine sm_get_p1n (by decide) rfl ?_ | refine sm_get_p2n (by decide) (by decide) rfl ?_)) ?_
  refine Bod.bip 61 (by decide) dc_288_478 ?_
  refine Bod.icT dc_288_480 rfl (k2_ne_T n61) ?_
  refine Bod.ildG dc_288_532 (by repeat (first | exact h7 | exact sm_get_p1 | exact sm_get_p2e | refine sm_get_p1m (by decide) (by decide) ?_ | refine sm_get_p1n (by decide) rfl ?_ | refine sm_get_p2n (by decide) (by decide) rfl ?_)) ?_
  refine Bod.bip 47 (by decide) dc_288_534 ?_
  refine Bod.icT dc_288_536 rfl (k2_ne_T (k_ne 125 47 rfl rfl (by omega) (by omega) (by omega))) ?_
  refine Bod.ic 0 (by decide) dc_288_550 ?_
  refine Bod.ist dc_288_551 (by rw [ml_288]; exact Nat.le_of_ble_eq_true rfl) ?_
  refine Bod.ildG dc_288_553 (by repeat (first | exact h7 | exact sm_get_p1 | exact sm_get_p2e | refine sm_get_p1m (by decide) (by decide) ?_ | refine sm_get_p1n (by decide) rfl ?_ | refine sm_get_p2n (by decide) (by decide) rfl ?_)) ?_
  refine Bod.bip 40 (by decide) dc_288_555 ?_
  refine Bod.icF dc_288_557 rfl (k2_eq_F (k_ne 125 40 rfl rfl (by omega) (by omega) (by omega))) ?_
  refine Bod.ildG dc_288_560 (by repeat (first | exact h7 | exact sm_get_p1 | exact sm_get_p2e | refine sm_get_p1m (by decide) (by decide) ?_ | refine sm_get_p1n (by decide) rfl ?_ | refine sm_get_p2n (by decide) (by decide) rfl ?_)) ?_
  refine Bod.bip 41 (by decide) dc_288_562 ?_
  refine Bod.icF dc_288_564 rfl (k2_eq_F (k_ne 125 41 rfl rfl (by omega) (by omega) (by omega))) ?_
  refine Bod.ildG dc_288_567 (by repeat (first | exact h7 | exact sm_get_p1 | exact sm_get_p2e | refine sm_get_p1m (by decide) (by decide) ?_ | refine sm_get_p1n (by decide) rfl ?_ | refine sm_get_p2n (by decide) (by decide) rfl ?_)) ?_
  refine Bod.bip 91 (by decide) dc_288_569 ?_
  refine Bod.icF dc_288_571 rfl (k2_eq_F (k_ne 125 91 rfl rfl (by omega) (by omega) (by omega))) ?_
  refine Bod.ildG dc_288_574 (by repeat (first | exact h7 | exact sm_get_p1 | exact sm_get_p2e | refine sm_get_p1m (by decide) (by decide) ?_ | refine sm_get_p1n (by decide) rfl ?_ | refine sm_get_p2n (by decide) (by decide) rfl ?_)) ?_
  refine Bod.bip 93 (by decide) dc_288_576 ?_
  refine Bod.icF dc_288_578 rfl (k2_eq_F (k_ne 125 93 rfl rfl (by omega) (by omega) (by omega))) ?_
  refine Bod.ildG dc_288_581 (by repeat (first | exact h7 | exact sm_get_p1 | exact sm_get_p2e | refine sm_get_p1m (by decide) (by decide) ?_ | refine sm_get_p1n (by decide) rfl ?_ | refine sm_get_p2n (by decide) (by decide) rfl ?_)) ?_
  refine Bod.bip 123 (by decide) dc_288_583 ?_
  refine Bod.icF dc_288_585 rfl (k2_eq_F (k_ne 125 123 rfl rfl (by omega) (by omega) (by omega))) ?_
  refine Bod.ildG dc_288_588 (by repeat (first | exact h7 | exact sm_get_p1 | exact sm_get_p2e | refine sm_get_p1m (by decide) (by decide) ?_ | refine sm_get_p1n (by decide) rfl ?_ | refine sm_get_p2n (by decide) (by decide) rfl ?_)) ?_
  refine Bod.bip 125 (by decide) dc_288_590 ?_
  refine Bod.icT dc_288_592 rfl (k2_eq_T (k_eq 125 125 rfl rfl (by omega))) ?_
  refine Bod.ic 1 (by decide) dc_288_665 ?_
  refine Bod.go dc_288_666 rfl ?_
  refine Bod.ist dc_288_670 (by rw [ml_288]; exact Nat.le_of_ble_eq_true rfl) ?_
  refine Bod.aldnG dc_288_672 (by repeat (first | exact h0 | exact sm_get_p1 | exact sm_get_p2e | refine sm_get_p1m (by decide) (by decide) ?_ | refine sm_get_p1n (by decide) rfl ?_ | refine sm_get_p2n (by decide) (by decide) rfl ?_)) ?_
  refine Bod.go dc_288_673 rfl ?_
  refine Bod.ifF dc_288_675 rfl (k1_ne_F (k_eq 0 0 rfl rfl (by omega))) ?_
  refine Bod.go dc_288_678 rfl ?_
  refine Bod.ifF dc_288_680 rfl (k1_eq_F (k_ne 1 0 rfl rfl (by omega) (by omega) (by omega))) ?_
  refine Bod.ic 5 (by decide) dc_288_683 ?_
  refine Bod.go dc_288_684 rfl ?_
  refine Bod.go dc_288_689 rfl ?_
  refine Bod.ifT dc_288_691 rfl (k1_eq_T (k_eq 0 0 rfl rfl (by omega))) ?_
  refine Bod.ildG dc_288_706 (by repeat (first | exact h7 | exact sm_get_p1 | exact sm_get_p2e | refine sm_get_p1m (by decide) (by decide) ?_ | refine sm_get_p1n (by decide) rfl ?_ | refine sm_get_p2n (by decide) (by decide) rfl ?_)) ?_
  refine Bod.ildG dc_288_708 (by repeat (first | exact h4 | exact sm_get_p1 | exact sm_get_p2e | refine sm_get_p1m (by decide) (by decide) ?_ | refine sm_get_p1n (by decide) rfl ?_ | refine sm_get_p2n (by decide) (by decide) rfl ?_)) ?_
  refine Bod.ildG dc_288_710 (by repeat (first | exact h5 | exact sm_get_p1 | exact sm_get_p2e | refine sm_get_p1m (by decide) (by decide) ?_ | refine sm_get_p1n (by decide) rfl ?_ | refine sm_get_p2n (by decide) (by decide) rfl ?_)) ?_
  refine Bod.virt (r := []) dc_288_712 kr_288_151 ⟨Or.inl rfl, ow_293, cl_14⟩ (by rw [np_293]; rfl) (by rw [np_293]; rfl) (ob_of (mk_61 _)) (Nat.le_of_ble_eq_true rfl) (tok_ev (t := t) (kd := (nI 5)) (vl := (nI 125)) (ln := (nI l)) (bl := (nI bl)) (by first | assumption | rfl | exact congrArg nI (by omega) | (simp (disch := omega) only [rI, rIe, rA, rIA, rLA, rJA, rVI, rQI, rVA, rQA, upd_at,  rAI, rLI, rJI, nI_add, pk_sub, kc_0, kc_1, kc_2, kc_3, kc_4, kc_5, reduceIte, Nat.reduceEqDiff, Nat.add_zero, rI_hold, rI_hold, rL_hold, ht]; done)) (by omega)) ?_
  show Bod _ _ _ _ [] _ _ _
  refine Bod.ildG dc_288_715 (by repeat (first | exact h6 | exact sm_get_p1 | exact sm_get_p2e | refine sm_get_p1m (by decide) (by decide) ?_ | refine sm_get_p1n (by decide) rfl ?_ | refine sm_get_p2n (by decide) (by decide) rfl ?_)) ?_
  refine Bod.go dc_288_717 rfl ?_
  refine Bod.ifT dc_288_719 rfl (k1_eq_T (k_eq 0 0 rfl rfl (by omega))) ?_
  refine Bod.ic 1 (by decide) dc_288_726 ?_
  refine Bod.addN (p + 1) (by omega) dc_288_727 ?_
  refine Bod.ist dc_288_728 (by rw [ml_288]; exact Nat.le_of_ble_eq_true rfl) ?_
  refine Bod.go dc_288_730 rfl ?_
  exact hB _ (by repeat (first | exact h0 | exact sm_get_p1 | exact sm_get_p2e | refine sm_get_p1m (by decide) (by decide) ?_ | refine sm_get_p1n (by decide) rfl ?_ | refine sm_get_p2n (by decide) (by decide) rfl ?_)) (by repeat (first | exact h1 | exact sm_get_p1 | exact sm_get_p2e | refine sm_get_p1m (by decide) (by decide) ?_ | refine sm_get_p1n (by decide) rfl ?_ | refine sm_get_p2n (by decide) (by decide) rfl ?_)) (by repeat (first | exact h3 | exact sm_get_p1 | exact sm_get_p2e | refine sm_get_p1m (by decide) (by decide) ?_ | refine sm_get_p1n (by decide) rfl ?_ | refine sm_get_p2n (by decide) (by decide) rfl ?_)) (by repeat (first | exact h4 | exact sm_get_p1 | exact sm_get_p2e | refine sm_get_p1m (by decide) (by decide) ?_ | refine sm_get_p1n (by decide) rfl ?_ | refine sm_get_p2n (by decide) (by decide) rfl ?_)) (by repeat (first | exact h5 | exact sm_get_p1 | exact sm_get_p2e | refine sm_get_p1m (by decide) (by decide) ?_ | refine sm_get_p1n (by decide) rfl ?_ | refine sm_get_p2n (by decide) (by decide) rfl ?_)) (by repeat (first | exact h6 | exact sm_get_p1 | exact sm_get_p2e | refine sm_get_p1m (by decide) (by decide) ?_ | refine sm_get_p1n (by decide) rfl ?_ | refine sm_get_p2n (by decide) (by decide) rfl ?_))
theorem rs_x_61 {d : Nat} {S Sf : cS} {lv : sm_L} {v : Option Value} {e : Nat} {l : Nat} {bl : Nat} {p : Nat} {x : Int32} {st : Nat} {t : Nat} (heM : e ≤ 3000) (hp : p ≤ e) (h0 : sm_get lv 0 = some (.ref 61)) (h1 : sm_get lv 1 = some (.ref 107)) (h3 : sm_get lv 3 = some (.int (nI e))) (h4 : sm_get lv 4 = some (.int (nI l))) (h5 : sm_get lv 5 = some (.int (nI bl))) (h6 : sm_get lv 6 = some (.int (nI p))) (h7 : sm_get lv 7 = some (.int x)) (h8 : sm_get lv 8 = some (.int (nI st))) (hd : sm_get lv 9 = some (.int (nI 61))) (hn : ∀ q, q ∈ [33, 37, 40, 41, 42, 43, 44, 45, 46, 47, 58, 60, 61, 62, 91, 93, 123, 125] → x ≠ nI q) (ht : sI S 6112 = nI t) (htM : t < 6002) (hB : ∀ lv1 : sm_L, sm_get lv1 0 = some (.ref 61) → sm_get lv1 1 = some (.ref 107) → sm_get lv1 3 = some (.int (nI e)) → sm_get lv1 4 = some (.int (nI l)) → sm_get lv1 5 = some (.int (nI bl)) → sm_get lv1 6 = some (.int (nI (p + 1))) → Bod (d + 8) 288 3 lv1 [] (wI 6112 (nI (t + 1)) (wA 70 t ((nI bl)) (wA 69 t ((nI l)) (wA 68 t x (wA 67 t ((nI 8)) S))))) v Sf) : Bod (d + 8) 288 476 lv [] S v Sf := by
  refine Bod.ildG dc_288_476 (by repeat (first | exact hd | exact sm_get_p1 | exact sm_get_p2e | refine sm_get_p1m (by decide) (by decide) ?_ | refine sm_get_p1n (by decide) rfl ?_ | refine sm_get_p2n (by decide) (by decide) rfl ?_)) ?_
  refine Bod.bip 61 (by decide) dc_288_478 ?_
  refine Bod.icF dc_288_480 rfl (k2_ne_F (k_eq 61 61 rfl rfl (by omega))) ?_
  refine Bod.ildG dc_288_483 (by repeat (first | exact h7 | exact sm_get_p1 | exact sm_get_p2e | refine sm_get_p1m (by decide) (by decide) ?_ | refine sm_get_p1n (by decide) rfl ?_ | refine sm_get_p2n (by decide) (by decide) rfl ?_)) ?_
  refine Bod.bip 61 (by decide) dc_288_485 ?_
  refine Bod.icF dc_288_487 rfl (k2_eq_F (hn 61 (by decide))) ?_
  refine Bod.ildG dc_288_490 (by repeat (first | exact h7 | exact sm_get_p1 | exact sm_get_p2e | refine sm_get_p1m (by decide) (by decide) ?_ | refine sm_get_p1n (by decide) rfl ?_ | refine sm_get_p2n (by decide) (by decide) rfl ?_)) ?_
  refine Bod.bip 33 (by decide) dc_288_492 ?_
  refine Bod.icF dc_288_494 rfl (k2_eq_F (hn 33 (by decide))) ?_
  refine Bod.ildG dc_288_497 (by repeat (first | exact h7 | exact sm_get_p1 | exact sm_get_p2e | refine sm_get_p1m (by decide) (by decide) ?_ | refine sm_get_p1n (by decide) rfl ?_ | refine sm_get_p2n (by decide) (by decide) rfl ?_)) ?_
  refine Bod.bip 60 (by decide) dc_288_499 ?_
  refine Bod.icF dc_288_501 rfl (k2_eq_F (hn 60 (by decide))) ?_
  refine Bod.ildG dc_288_504 (by repeat (first | exact h7 | exact sm_get_p1 | exact sm_get_p2e | refine sm_get_p1m (by decide) (by decide) ?_ | refine sm_get_p1n (by decide) rfl ?_ | refine sm_get_p2n (by decide) (by decide) rfl ?_)) ?_
  refine Bod.bip 62 (by decide) dc_288_506 ?_
  refine Bod.icF dc_288_508 rfl (k2_eq_F (hn 62 (by decide))) ?_
  refine Bod.ildG dc_288_511 (by repeat (first | exact h7 | exact sm_get_p1 | exact sm_get_p2e | refine sm_get_p1m (by decide) (by decide) ?_ | refine sm_get_p1n (by decide) rfl ?_ | refine sm_get_p2n (by decide) (by decide) rfl ?_)) ?_
  refine Bod.bip 43 (by decide) dc_288_513 ?_
  refine Bod.icF dc_288_515 rfl (k2_eq_F (hn 43 (by decide))) ?_
  refine Bod.ildG dc_288_518 (by repeat (first | exact h7 | exact sm_get_p1 | exact sm_get_p2e | refine sm_get_p1m (by decide) (by decide) ?_ | refine sm_get_p1n (by decide) rfl ?_ | refine sm_get_p2n (by decide) (by decide) rfl ?_)) ?_
  refine Bod.bip 45 (by decide) dc_288_520 ?_
  refine Bod.icF dc_288_522 rfl (k2_eq_F (hn 45 (by decide))) ?_
  refine Bod.ildG dc_288_525 (by repeat (first | exact h7 | exact sm_get_p1 | exact sm_get_p2e | refine sm_get_p1m (by decide) (by decide) ?_ | refine sm_get_p1n (by decide) rfl ?_ | refine sm_get_p2n (by decide) (by decide) rfl ?_)) ?_
  refine Bod.bip 42 (by decide) dc_288_527 ?_
  refine Bod.icF dc_288_529 rfl (k2_eq_F (hn 42 (by decide))) ?_
  refine Bod.ildG dc_288_532 (by repeat (first | exact h7 | exact sm_get_p1 | exact sm_get_p2e | refine sm_get_p1m (by decide) (by decide) ?_ | refine sm_get_p1n (by decide) rfl ?_ | refine sm_get_p2n (by decide) (by decide) rfl ?_)) ?_
  refine Bod.bip 47 (by decide) dc_288_534 ?_
  refine Bod.icT dc_288_536 rfl (k2_ne_T (hn 47 (by decide))) ?_
  refine Bod.ic 0 (by decide) dc_288_550 ?_
  refine Bod.ist dc_288_551 (by rw [ml_288]; exact Nat.le_of_ble_eq_true rfl) ?_
  refine Bod.ildG dc_288_553 (by repeat (first | exact h7 | exact sm_get_p1 | exact sm_get_p2e | refine sm_get_p1m (by decide) (by decide) ?_ | refine sm_get_p1n (by decide) rfl ?_ | refine sm_get_p2n (by decide) (by decide) rfl ?_)) ?_
  refine Bod.bip 40 (by decide) dc_288_555 ?_
  refine Bod.icF dc_288_557 rfl (k2_eq_F (hn 40 (by decide))) ?_
  refine Bod.ildG dc_288_560 (by repeat (first | exact h7 | exact sm_get_p1 | exact sm_get_p2e | refine sm_get_p1m (by decide) (by decide) ?_ | refine sm_get_p1n (by decide) rfl ?_ | refine sm_get_p2n (by decide) (by decide) rfl ?_)) ?_
  refine Bod.bip 41 (by decide) dc_288_562 ?_
  refine Bod.icF dc_288_564 rfl (k2_eq_F (hn 41 (by decide))) ?_
  refine Bod.ildG dc_288_567 (by repeat (first | exact h7 | exact sm_get_p1 | exact sm_get_p2e | refine sm_get_p1m (by decide) (by decide) ?_ | refine sm_get_p1n (by decide) rfl ?_ | refine sm_get_p2n (by decide) (by decide) rfl ?_)) ?_
  refine Bod.bip 91 (by decide) dc_288_569 ?_
  refine Bod.icF dc_288_571 rfl (k2_eq_F (hn 91 (by decide))) ?_
  refine Bod.ildG dc_288_574 (by repeat (first | exact h7 | exact sm_get_p1 | exact sm_get_p2e | refine sm_get_p1m (by decide) (by decide) ?_ | refine sm_get_p1n (by decide) rfl ?_ | refine sm_get_p2n (by decide) (by decide) rfl ?_)) ?_
  refine Bod.bip 93 (by decide) dc_288_576 ?_
  refine Bod.icF dc_288_578 rfl (k2_eq_F (hn 93 (by decide))) ?_
  refine Bod.ildG dc_288_581 (by repeat (first | exact h7 | exact sm_get_p1 | exact sm_get_p2e | refine sm_get_p1m (by decide) (by decide) ?_ | refine sm_get_p1n (by decide) rfl ?_ | refine sm_get_p2n (by decide) (by decide) rfl ?_)) ?_
  refine Bod.bip 123 (by decide) dc_288_583 ?_
  refine Bod.icF dc_288_585 rfl (k2_eq_F (hn 123 (by decide))) ?_
  refine Bod.ildG dc_288_588 (by repeat (first | exact h7 | exact sm_get_p1 | exact sm_get_p2e | refine sm_get_p1m (by decide) (by decide) ?_ | refine sm_get_p1n (by decide) rfl ?_ | refine sm_get_p2n (by decide) (by decide) rfl ?_)) ?_
  refine Bod.bip 125 (by decide) dc_288_590 ?_
  refine Bod.icF dc_288_592 rfl (k2_eq_F (hn 125 (by decide))) ?_
  refine Bod.ildG dc_288_595 (by repeat (first | exact h7 | exact sm_get_p1 | exact sm_get_p2e | refine sm_get_p1m (by decide) (by decide) ?_ | refine sm_get_p1n (by decide) rfl ?_ | refine sm_get_p2n (by decide) (by decide) rfl ?_)) ?_
  refine Bod.bip 44 (by decide) dc_288_597 ?_
  refine Bod.icF dc_288_599 rfl (k2_eq_F (hn 44 (by decide))) ?_
  refine Bod.ildG dc_288_602 (by repeat (first | exact h7 | exact sm_get_p1 | exact sm_get_p2e | refine sm_get_p1m (by decide) (by decide) ?_ | refine sm_get_p1n (by decide) rfl ?_ | refine sm_get_p2n (by decide) (by decide) rfl ?_)) ?_
  refine Bod.bip 58 (by decide) dc_288_604 ?_
  refine Bod.icF dc_288_606 rfl (k2_eq_F (hn 58 (by decide))) ?_
  refine Bod.ildG dc_288_609 (by repeat (first | exact h7 | exact sm_get_p1 | exact sm_get_p2e | refine sm_get_p1m (by decide) (by decide) ?_ | refine sm_get_p1n (by decide) rfl ?_ | refine sm_get_p2n (by decide) (by decide) rfl ?_)) ?_
  refine Bod.bip 46 (by decide) dc_288_611 ?_
  refine Bod.icF dc_288_613 rfl (k2_eq_F (hn 46 (by decide))) ?_
  refine Bod.ildG dc_288_616 (by repeat (first | exact h7 | exact sm_get_p1 | exact sm_get_p2e | refine sm_get_p1m (by decide) (by decide) ?_ | refine sm_get_p1n (by decide) rfl ?_ | refine sm_get_p2n (by decide) (by decide) rfl ?_)) ?_
  refine Bod.bip 43 (by decide) dc_288_618 ?_
  refine Bod.icF dc_288_620 rfl (k2_eq_F (hn 43 (by decide))) ?_
  refine Bod.ildG dc_288_623 (by repeat (first | exact h7 | exact sm_get_p1 | exact sm_get_p2e | refine sm_get_p1m (by decide) (by decide) ?_ | refine sm_get_p1n (by decide) rfl ?_ | refine sm_get_p2n (by decide) (by decide) rfl ?_)) ?_
  refine Bod.bip 45 (by decide) dc_288_625 ?_
  refine Bod.icF dc_288_627 rfl (k2_eq_F (hn 45 (by decide))) ?_
  refine Bod.ildG dc_288_630 (by repeat (first | exact h7 | exact sm_get_p1 | exact sm_get_p2e | refine sm_get_p1m (by decide) (by decide) ?_ | refine sm_get_p1n (by decide) rfl ?_ | refine sm_get_p2n (by decide) (by decide) rfl ?_)) ?_
  refine Bod.bip 42 (by decide) dc_288_632 ?_
  refine Bod.icF dc_288_634 rfl (k2_eq_F (hn 42 (by decide))) ?_
  refine Bod.ildG dc_288_637 (by repeat (first | exact h7 | exact sm_get_p1 | exact sm_get_p2e | refine sm_get_p1m (by decide) (by decide) ?_ | refine sm_get_p1n (by decide) rfl ?_ | refine sm_get_p2n (by decide) (by decide) rfl ?_)) ?_
  refine Bod.bip 37 (by decide) dc_288_639 ?_
  refine Bod.icF dc_288_641 rfl (k2_eq_F (hn 37 (by decide))) ?_
  refine Bod.ildG dc_288_644 (by repeat (first | exact h7 | exact sm_get_p1 | exact sm_get_p2e | refine sm_get_p1m (by decide) (by decide) ?_ | refine sm_get_p1n (by decide) rfl ?_ | refine sm_get_p2n (by decide) (by decide) rfl ?_)) ?_
  refine Bod.bip 61 (by decide) dc_288_646 ?_
  refine Bod.icF dc_288_648 rfl (k2_eq_F (hn 61 (by decide))) ?_
  refine Bod.ildG dc_288_651 (by repeat (first | exact h7 | exact sm_get_p1 | exact sm_get_p2e | refine sm_get_p1m (by decide) (by decide) ?_ | refine sm_get_p1n (by decide) rfl ?_ | refine sm_get_p2n (by decide) (by decide) rfl ?_)) ?_
  refine Bod.bip 60 (by decide) dc_288_653 ?_
  refine Bod.icF dc_288_655 rfl (k2_eq_F (hn 60 (by decide))) ?_
  refine Bod.ildG dc_288_658 (by repeat (first | exact h7 | exact sm_get_p1 | exact sm_get_p2e | refine sm_get_p1m (by decide) (by decide) ?_ | refine sm_get_p1n (by decide) rfl ?_ | refine sm_get_p2n (by decide) (by decide) rfl ?_)) ?_
  refine Bod.bip 62 (by decide) dc_288_660 ?_
  refine Bod.icT dc_288_662 rfl (k2_ne_T (hn 62 (by decide))) ?_
  refine Bod.ic 0 (by decide) dc_288_669 ?_
  refine Bod.ist dc_288_670 (by rw [ml_288]; exact Nat.le_of_ble_eq_true rfl) ?_
  refine Bod.aldnG dc_288_672 (by repeat (first | exact h0 | exact sm_get_p1 | exact sm_get_p2e | refine sm_get_p1m (by decide) (by decide) ?_ | refine sm_get_p1n (by decide) rfl ?_ | refine sm_get_p2n (by decide) (by decide) rfl ?_)) ?_
  refine Bod.go dc_288_673 rfl ?_
  refine Bod.ifF dc_288_675 rfl (k1_ne_F (k_eq 0 0 rfl rfl (by omega))) ?_
  refine Bod.go dc_288_678 rfl ?_
  refine Bod.ifT dc_288_680 rfl (k1_eq_T (k_eq 0 0 rfl rfl (by omega))) ?_
  refine Bod.bip 8 (by decide) dc_288_687 ?_
  refine Bod.go dc_288_689 rfl ?_
  refine Bod.ifT dc_288_691 rfl (k1_eq_T (k_eq 0 0 rfl rfl (by omega))) ?_
  refine Bod.ildG dc_288_706 (by repeat (first | exact h7 | exact sm_get_p1 | exact sm_get_p2e | refine sm_get_p1m (by decide) (by decide) ?_ | refine sm_get_p1n (by decide) rfl ?_ | refine sm_get_p2n (by decide) (by decide) rfl ?_)) ?_
  refine Bod.ildG dc_288_708 (by repeat (first | exact h4 | exact sm_get_p1 | exact sm_get_p2e | refine sm_get_p1m (by decide) (by decide) ?_ | refine sm_get_p1n (by decide) rfl ?_ | refine sm_get_p2n (by decide) (by decide) rfl ?_)) ?_
  refine Bod.ildG dc_288_710 (by repeat (first | exact h5 | exact sm_get_p1 | exact sm_get_p2e | refine sm_get_p1m (by decide) (by decide) ?_ | refine sm_get_p1n (by decide) rfl ?_ | refine sm_get_p2n (by decide) (by decide) rfl ?_)) ?_
  refine Bod.virt (r := []) dc_288_712 kr_288_151 ⟨Or.inl rfl, ow_293, cl_14⟩ (by rw [np_293]; rfl) (by rw [np_293]; rfl) (ob_of (mk_61 _)) (Nat.le_of_ble_eq_true rfl) (tok_ev (t := t) (kd := (nI 8)) (vl := x) (ln := (nI l)) (bl := (nI bl)) (by first | assumption | rfl | exact congrArg nI (by omega) | (simp (disch := omega) only [rI, rIe, rA, rIA, rLA, rJA, rVI, rQI, rVA, rQA, upd_at,  rAI, rLI, rJI, nI_add, pk_sub, kc_0, kc_1, kc_2, kc_3, kc_4, kc_5, reduceIte, Nat.reduceEqDiff, Nat.add_zero, rI_hold, rI_hold, rL_hold, ht]; done)) (by omega)) ?_
  show Bod _ _ _ _ [] _ _ _
  refine Bod.ildG dc_288_715 (by repeat (first | exact h6 | exact sm_get_p1 | exact sm_get_p2e | refine sm_get_p1m (by decide) (by decide) ?_ | refine sm_get_p1n (by decide) rfl ?_ | refine sm_get_p2n (by decide) (by decide) rfl ?_)) ?_
  refine Bod.go dc_288_717 rfl ?_
  refine Bod.ifT dc_288_719 rfl (k1_eq_T (k_eq 0 0 rfl rfl (by omega))) ?_
  refine Bod.ic 1 (by decide) dc_288_726 ?_
  refine Bod.addN (p + 1) (by omega) dc_288_727 ?_
  refine Bod.ist dc_288_728 (by rw [ml_288]; exact Nat.le_of_ble_eq_true rfl) ?_
  refine Bod.go dc_288_730 rfl ?_
  exact hB _ (by repeat (first | exact h0 | exact sm_get_p1 | exact sm_get_p2e | refine sm_get_p1m (by decide) (by decide) ?_ | refine sm_get_p1n (by decide) rfl ?_ | refine sm_get_p2n (by decide) (by decide) rfl ?_)) (by repeat (first | exact h1 | exact sm_get_p1 | exact sm_get_p2e | refine sm_get_p1m (by decide) (by decide) ?_ | refine sm_get_p1n (by decide) rfl ?_ | refine sm_get_p2n (by decide) (by decide) rfl ?_)) (by repeat (first | exact h3 | exact sm_get_p1 | exact sm_get_p2e | refine sm_get_p1m (by decide) (by decide) ?_ | refine sm_get_p1n (by decide) rfl ?_ | refine sm_get_p2n (by decide) (by decide) rfl ?_)) (by repeat (first | exact h4 | exact sm_get_p1 | exact sm_get_p2e | refine sm_get_p1m (by decide) (by decide) ?_ | refine sm_get_p1n (by decide) rfl ?_ | refine sm_get_p2n (by decide) (by decide) rfl ?_)) (by repeat (first | exact h5 | exact sm_get_p1 | exact sm_get_p2e | refine sm_get_p1m (by decide) (by decide) ?_ | refine sm_get_p1n (by decide) rfl ?_ | refine sm_get_p2n (by decide) (by decide) rfl ?_)) (by repeat (first | exact h6 | exact sm_get_p1 | exact sm_get_p2e | refine sm_get_p1m (by decide) (by decide) ?_ | refine sm_get_p1n (by decide) rfl ?_ | refine sm_get_p2n (by decide) (by decide) rfl ?_))
theorem rs_x_n {d : Nat} {S Sf : cS} {lv : sm_L} {v : Option Value} {e : Nat} {l : Nat} {bl : Nat} {p : Nat} {x : Int32} {st : Nat} {dd : Int32} {t : Nat} (heM : e ≤ 3000) (hp : p ≤ e) (h0 : sm_get lv 0 = some (.ref 61)) (h1 : sm_get lv 1 = some (.ref 107)) (h3 : sm_get lv 3 = some (.int (nI e))) (h4 : sm_get lv 4 = some (.int (nI l))) (h5 : sm_get lv 5 = some (.int (nI bl))) (h6 : sm_get lv 6 = some (.int (nI p))) (h7 : sm_get lv 7 = some (.int x)) (h8 : sm_get lv 8 = some (.int (nI st))) (hd : sm_get lv 9 = some (.int dd)) (n61 : dd ≠ nI 61) (hn : ∀ q, q ∈ [33, 37, 40, 41, 42, 43, 44, 45, 46, 47, 58, 60, 61, 62, 91, 93, 123, 125] → x ≠ nI q) (ht : sI S 6112 = nI t) (htM : t < 6002) (hB : ∀ lv1 : sm_L, sm_get lv1 0 = some (.ref 61) → sm_get lv1 1 = some (.ref 107) → sm_get lv1 3 = some (.int (nI e)) → sm_get lv1 4 = some (.int (nI l)) → sm_get lv1 5 = some (.int (nI bl)) → sm_get lv1 6 = some (.int (nI (p + 1))) → Bod (d + 8) 288 3 lv1 [] (wI 6112 (nI (t + 1)) (wA 70 t ((nI bl)) (wA 69 t ((nI l)) (wA 68 t x (wA 67 t ((nI 8)) S))))) v Sf) : Bod (d + 8) 288 476 lv [] S v Sf := by
  refine Bod.ildG dc_288_476 (by repeat (first | exact hd | exact sm_get_p1 | exact sm_get_p2e | refine sm_get_p1m (by decide) (by decide) ?_ | refine sm_get_p1n (by decide) rfl ?_ | refine sm_get_p2n (by decide) (by decide) rfl ?_)) ?_
  refine Bod.bip 61 (by decide) dc_288_478 ?_
  refine Bod.icT dc_288_480 rfl (k2_ne_T n61) ?_
  refine Bod.ildG dc_288_532 (by repeat (first | exact h7 | exact sm_get_p1 | exact sm_get_p2e | refine sm_get_p1m (by decide) (by decide) ?_ | refine sm_get_p1n (by decide) rfl ?_ | refine sm_get_p2n (by decide) (by decide) rfl ?_)) ?_
  refine Bod.bip 47 (by decide) dc_288_534 ?_
  refine Bod.icT dc_288_536 rfl (k2_ne_T (hn 47 (by decide))) ?_
  refine Bod.ic 0 (by decide) dc_288_550 ?_
  refine Bod.ist dc_288_551 (by rw [ml_288]; exact Nat.le_of_ble_eq_true rfl) ?_
  refine Bod.ildG dc_288_553 (by repeat (first | exact h7 | exact sm_get_p1 | exact sm_get_p2e | refine sm_get_p1m (by decide) (by decide) ?_ | refine sm_get_p1n (by decide) rfl ?_ | refine sm_get_p2n (by decide) (by decide) rfl ?_)) ?_
  refine Bod.bip 40 (by decide) dc_288_555 ?_
  refine Bod.icF dc_288_557 rfl (k2_eq_F (hn 40 (by decide))) ?_
  refine Bod.ildG dc_288_560 (by repeat (first | exact h7 | exact sm_get_p1 | exact sm_get_p2e | refine sm_get_p1m (by decide) (by decide) ?_ | refine sm_get_p1n (by decide) rfl ?_ | refine sm_get_p2n (by decide) (by decide) rfl ?_)) ?_
  refine Bod.bip 41 (by decide) dc_288_562 ?_
  refine Bod.icF dc_288_564 rfl (k2_eq_F (hn 41 (by decide))) ?_
  refine Bod.ildG dc_288_567 (by repeat (first | exact h7 | exact sm_get_p1 | exact sm_get_p2e | refine sm_get_p1m (by decide) (by decide) ?_ | refine sm_get_p1n (by decide) rfl ?_ | refine sm_get_p2n (by decide) (by decide) rfl ?_)) ?_
  refine Bod.bip 91 (by decide) dc_288_569 ?_
  refine Bod.icF dc_288_571 rfl (k2_eq_F (hn 91 (by decide))) ?_
  refine Bod.ildG dc_288_574 (by repeat (first | exact h7 | exact sm_get_p1 | exact sm_get_p2e | refine sm_get_p1m (by decide) (by decide) ?_ | refine sm_get_p1n (by decide) rfl ?_ | refine sm_get_p2n (by decide) (by decide) rfl ?_)) ?_
  refine Bod.bip 93 (by decide) dc_288_576 ?_
  refine Bod.icF dc_288_578 rfl (k2_eq_F (hn 93 (by decide))) ?_
  refine Bod.ildG dc_288_581 (by repeat (first | exact h7 | exact sm_get_p1 | exact sm_get_p2e | refine sm_get_p1m (by decide) (by decide) ?_ | refine sm_get_p1n (by decide) rfl ?_ | refine sm_get_p2n (by decide) (by decide) rfl ?_)) ?_
  refine Bod.bip 123 (by decide) dc_288_583 ?_
  refine Bod.icF dc_288_585 rfl (k2_eq_F (hn 123 (by decide))) ?_
  refine Bod.ildG dc_288_588 (by repeat (first | exact h7 | exact sm_get_p1 | exact sm_get_p2e | refine sm_get_p1m (by decide) (by decide) ?_ | refine sm_get_p1n (by decide) rfl ?_ | refine sm_get_p2n (by decide) (by decide) rfl ?_)) ?_
  refine Bod.bip 125 (by decide) dc_288_590 ?_
  refine Bod.icF dc_288_592 rfl (k2_eq_F (hn 125 (by decide))) ?_
  refine Bod.ildG dc_288_595 (by repeat (first | exact h7 | exact sm_get_p1 | exact sm_get_p2e | refine sm_get_p1m (by decide) (by decide) ?_ | refine sm_get_p1n (by decide) rfl ?_ | refine sm_get_p2n (by decide) (by decide) rfl ?_)) ?_
  refine Bod.bip 44 (by decide) dc_288_597 ?_
  refine Bod.icF dc_288_599 rfl (k2_eq_F (hn 44 (by decide))) ?_
  refine Bod.ildG dc_288_602 (by repeat (first | exact h7 | exact sm_get_p1 | exact sm_get_p2e | refine sm_get_p1m (by decide) (by decide) ?_ | refine sm_get_p1n (by decide) rfl ?_ | refine sm_get_p2n (by decide) (by decide) rfl ?_)) ?_
  refine Bod.bip 58 (by decide) dc_288_604 ?_
  refine Bod.icF dc_288_606 rfl (k2_eq_F (hn 58 (by decide))) ?_
  refine Bod.ildG dc_288_609 (by repeat (first | exact h7 | exact sm_get_p1 | exact sm_get_p2e | refine sm_get_p1m (by decide) (by decide) ?_ | refine sm_get_p1n (by decide) rfl ?_ | refine sm_get_p2n (by decide) (by decide) rfl ?_)) ?_
  refine Bod.bip 46 (by decide) dc_288_611 ?_
  refine Bod.icF dc_288_613 rfl (k2_eq_F (hn 46 (by decide))) ?_
  refine Bod.ildG dc_288_616 (by repeat (first | exact h7 | exact sm_get_p1 | exact sm_get_p2e | refine sm_get_p1m (by decide) (by decide) ?_ | refine sm_get_p1n (by decide) rfl ?_ | refine sm_get_p2n (by decide) (by decide) rfl ?_)) ?_
  refine Bod.bip 43 (by decide) dc_288_618 ?_
  refine Bod.icF dc_288_620 rfl (k2_eq_F (hn 43 (by decide))) ?_
  refine Bod.ildG dc_288_623 (by repeat (first | exact h7 | exact sm_get_p1 | exact sm_get_p2e | refine sm_get_p1m (by decide) (by decide) ?_ | refine sm_get_p1n (by decide) rfl ?_ | refine sm_get_p2n (by decide) (by decide) rfl ?_)) ?_
  refine Bod.bip 45 (by decide) dc_288_625 ?_
  refine Bod.icF dc_288_627 rfl (k2_eq_F (hn 45 (by decide))) ?_
  refine Bod.ildG dc_288_630 (by repeat (first | exact h7 | exact sm_get_p1 | exact sm_get_p2e | refine sm_get_p1m (by decide) (by decide) ?_ | refine sm_get_p1n (by decide) rfl ?_ | refine sm_get_p2n (by decide) (by decide) rfl ?_)) ?_
  refine Bod.bip 42 (by decide) dc_288_632 ?_
  refine Bod.icF dc_288_634 rfl (k2_eq_F (hn 42 (by decide))) ?_
  refine Bod.ildG dc_288_637 (by repeat (first | exact h7 | exact sm_get_p1 | exact sm_get_p2e | refine sm_get_p1m (by decide) (by decide) ?_ | refine sm_get_p1n (by decide) rfl ?_ | refine sm_get_p2n (by decide) (by decide) rfl ?_)) ?_
  refine Bod.bip 37 (by decide) dc_288_639 ?_
  refine Bod.icF dc_288_641 rfl (k2_eq_F (hn 37 (by decide))) ?_
  refine Bod.ildG dc_288_644 (by repeat (first | exact h7 | exact sm_get_p1 | exact sm_get_p2e | refine sm_get_p1m (by decide) (by decide) ?_ | refine sm_get_p1n (by decide) rfl ?_ | refine sm_get_p2n (by decide) (by decide) rfl ?_)) ?_
  refine Bod.bip 61 (by decide) dc_288_646 ?_
  refine Bod.icF dc_288_648 rfl (k2_eq_F (hn 61 (by decide))) ?_
  refine Bod.ildG dc_288_651 (by repeat (first | exact h7 | exact sm_get_p1 | exact sm_get_p2e | refine sm_get_p1m (by decide) (by decide) ?_ | refine sm_get_p1n (by decide) rfl ?_ | refine sm_get_p2n (by decide) (by decide) rfl ?_)) ?_
  refine Bod.bip 60 (by decide) dc_288_653 ?_
  refine Bod.icF dc_288_655 rfl (k2_eq_F (hn 60 (by decide))) ?_
  refine Bod.ildG dc_288_658 (by repeat (first | exact h7 | exact sm_get_p1 | exact sm_get_p2e | refine sm_get_p1m (by decide) (by decide) ?_ | refine sm_get_p1n (by decide) rfl ?_ | refine sm_get_p2n (by decide) (by decide) rfl ?_)) ?_
  refine Bod.bip 62 (by decide) dc_288_660 ?_
  refine Bod.icT dc_288_662 rfl (k2_ne_T (hn 62 (by decide))) ?_
  refine Bod.ic 0 (by decide) dc_288_669 ?_
  refine Bod.ist dc_288_670 (by rw [ml_288]; exact Nat.le_of_ble_eq_true rfl) ?_
  refine Bod.aldnG dc_288_672 (by repeat (first | exact h0 | exact sm_get_p1 | exact sm_get_p2e | refine sm_get_p1m (by decide) (by decide) ?_ | refine sm_get_p1n (by decide) rfl ?_ | refine sm_get_p2n (by decide) (by decide) rfl ?_)) ?_
  refine Bod.go dc_288_673 rfl ?_
  refine Bod.ifF dc_288_675 rfl (k1_ne_F (k_eq 0 0 rfl rfl (by omega))) ?_
  refine Bod.go dc_288_678 rfl ?_
  refine Bod.ifT dc_288_680 rfl (k1_eq_T (k_eq 0 0 rfl rfl (by omega))) ?_
  refine Bod.bip 8 (by decide) dc_288_687 ?_
  refine Bod.go dc_288_689 rfl ?_
  refine Bod.ifT dc_288_691 rfl (k1_eq_T (k_eq 0 0 rfl rfl (by omega))) ?_
  refine Bod.ildG dc_288_706 (by repeat (first | exact h7 | exact sm_get_p1 | exact sm_get_p2e | refine sm_get_p1m (by decide) (by decide) ?_ | refine sm_get_p1n (by decide) rfl ?_ | refine sm_get_p2n (by decide) (by decide) rfl ?_)) ?_
  refine Bod.ildG dc_288_708 (by repeat (first | exact h4 | exact sm_get_p1 | exact sm_get_p2e | refine sm_get_p1m (by decide) (by decide) ?_ | refine sm_get_p1n (by decide) rfl ?_ | refine sm_get_p2n (by decide) (by decide) rfl ?_)) ?_
  refine Bod.ildG dc_288_710 (by repeat (first | exact h5 | exact sm_get_p1 | exact sm_get_p2e | refine sm_get_p1m (by decide) (by decide) ?_ | refine sm_get_p1n (by decide) rfl ?_ | refine sm_get_p2n (by decide) (by decide) rfl ?_)) ?_
  refine Bod.virt (r := []) dc_288_712 kr_288_151 ⟨Or.inl rfl, ow_293, cl_14⟩ (by rw [np_293]; rfl) (by rw [np_293]; rfl) (ob_of (mk_61 _)) (Nat.le_of_ble_eq_true rfl) (tok_ev (t := t) (kd := (nI 8)) (vl := x) (ln := (nI l)) (bl := (nI bl)) (by first | assumption | rfl | exact congrArg nI (by omega) | (simp (disch := omega) only [rI, rIe, rA, rIA, rLA, rJA, rVI, rQI, rVA, rQA, upd_at,  rAI, rLI, rJI, nI_add, pk_sub, kc_0, kc_1, kc_2, kc_3, kc_4, kc_5, reduceIte, Nat.reduceEqDiff, Nat.add_zero, rI_hold, rI_hold, rL_hold, ht]; done)) (by omega)) ?_
  show Bod _ _ _ _ [] _ _ _
  refine Bod.ildG dc_288_715 (by repeat (first | exact h6 | exact sm_get_p1 | exact sm_get_p2e | refine sm_get_p1m (by decide) (by decide) ?_ | refine sm_get_p1n (by decide) rfl ?_ | refine sm_get_p2n (by decide) (by decide) rfl ?_)) ?_
  refine Bod.go dc_288_717 rfl ?_
  refine Bod.ifT dc_288_719 rfl (k1_eq_T (k_eq 0 0 rfl rfl (by omega))) ?_
  refine Bod.ic 1 (by decide) dc_288_726 ?_
  refine Bod.addN (p + 1) (by omega) dc_288_727 ?_
  refine Bod.ist dc_288_728 (by rw [ml_288]; exact Nat.le_of_ble_eq_true rfl) ?_
  refine Bod.go dc_288_730 rfl ?_
  exact hB _ (by repeat (first | exact h0 | exact sm_get_p1 | exact sm_get_p2e | refine sm_get_p1m (by decide) (by decide) ?_ | refine sm_get_p1n (by decide) rfl ?_ | refine sm_get_p2n (by decide) (by decide) rfl ?_)) (by repeat (first | exact h1 | exact sm_get_p1 | exact sm_get_p2e | refine sm_get_p1m (by decide) (by decide) ?_ | refine sm_get_p1n (by decide) rfl ?_ | refine sm_get_p2n (by decide) (by decide) rfl ?_)) (by repeat (first | exact h3 | exact sm_get_p1 | exact sm_get_p2e | refine sm_get_p1m (by decide) (by decide) ?_ | refine sm_get_p1n (by decide) rfl ?_ | refine sm_get_p2n (by decide) (by decide) rfl ?_)) (by repeat (first | exact h4 | exact sm_get_p1 | exact sm_get_p2e | refine sm_get_p1m (by decide) (by decide) ?_ | refine sm_get_p1n (by decide) rfl ?_ | refine sm_get_p2n (by decide) (by decide) rfl ?_)) (by repeat (first | exact h5 | exact sm_get_p1 | exact sm_get_p2e | refine sm_get_p1m (by decide) (by decide) ?_ | refine sm_get_p1n (by decide) rfl ?_ | refine sm_get_p2n (by decide) (by decide) rfl ?_)) (by repeat (first | exact h6 | exact sm_get_p1 | exact sm_get_p2e | refine sm_get_p1m (by decide) (by decide) ?_ | refine sm_get_p1n (by decide) rfl ?_ | refine sm_get_p2n (by decide) (by decide) rfl ?_))
