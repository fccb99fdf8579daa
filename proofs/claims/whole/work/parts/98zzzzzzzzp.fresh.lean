/-! THE REFERENCE'S MACHINE: things and codes into arrays; enter, fresh -/
theorem ml_364 : sm_ml 364 = 4 := by decide +kernel
theorem dc_364_0 : decode (sm_cc 364) 0 = .ok (.aload_n 0, 1) := by decide +kernel
theorem dc_364_1 : decode (sm_cc 364) 1 = .ok (.invokevirtual 524, 3) := by decide +kernel
theorem ow_365 : 14 = sm_ow 365 := by decide +kernel
theorem kr_364_524 : sm_at mt_k (sm_ow 364) 524 = some (524, 0, 365, 0, 2730) := by decide +kernel
theorem np_365 : sm_np 365 = 0 := by decide +kernel
theorem dc_364_4 : decode (sm_cc 364) 4 = .ok (.istore_n 2, 1) := by decide +kernel
theorem dc_364_5 : decode (sm_cc 364) 5 = .ok (.iload_n 2, 1) := by decide +kernel
theorem dc_364_6 : decode (sm_cc 364) 6 = .ok (.ifCond .ge (12), 3) := by decide +kernel
theorem dc_364_18 : decode (sm_cc 364) 18 = .ok (.iload_n 2, 1) := by decide +kernel
theorem dc_364_19 : decode (sm_cc 364) 19 = .ok (.ifCond .ge (11), 3) := by decide +kernel
theorem dc_364_30 : decode (sm_cc 364) 30 = .ok (.aload_n 0, 1) := by decide +kernel
theorem dc_364_31 : decode (sm_cc 364) 31 = .ok (.getfield 485, 3) := by decide +kernel
theorem fr_364_485 : sm_at mt_f (sm_ow 364) 485 = some (485, 14, 42, 0, 2115) := by decide +kernel
theorem dc_364_34 : decode (sm_cc 364) 34 = .ok (.iload_n 2, 1) := by decide +kernel
theorem dc_364_35 : decode (sm_cc 364) 35 = .ok (.aaload, 1) := by decide +kernel
theorem dc_364_36 : decode (sm_cc 364) 36 = .ok (.ifnonnull (16), 3) := by decide +kernel
theorem dc_364_9 : decode (sm_cc 364) 9 = .ok (.aload_n 0, 1) := by decide +kernel
theorem dc_364_10 : decode (sm_cc 364) 10 = .ok (.invokevirtual 527, 3) := by decide +kernel
theorem kr_364_527 : sm_at mt_k (sm_ow 364) 527 = some (527, 0, 366, 0, 2734) := by decide +kernel
theorem dc_364_13 : decode (sm_cc 364) 13 = .ok (.aload_n 0, 1) := by decide +kernel
theorem dc_364_14 : decode (sm_cc 364) 14 = .ok (.invokevirtual 524, 3) := by decide +kernel
theorem dc_364_17 : decode (sm_cc 364) 17 = .ok (.istore_n 2, 1) := by decide +kernel
theorem dc_364_22 : decode (sm_cc 364) 22 = .ok (.aload_n 0, 1) := by decide +kernel
theorem dc_364_23 : decode (sm_cc 364) 23 = .ok (.bipush (8), 2) := by decide +kernel
theorem dc_364_25 : decode (sm_cc 364) 25 = .ok (.putfield 453, 3) := by decide +kernel
theorem fr_364_453 : sm_at mt_f (sm_ow 364) 453 = some (453, 14, 64, 0, 2137) := by decide +kernel
theorem dc_364_28 : decode (sm_cc 364) 28 = .ok (.iconst (-1), 1) := by decide +kernel
theorem dc_364_29 : decode (sm_cc 364) 29 = .ok (.ireturn, 1) := by decide +kernel
theorem rt_364 : sm_rt 364 = some .int := by decide +kernel
theorem dc_364_52 : decode (sm_cc 364) 52 = .ok (.aload_n 0, 1) := by decide +kernel
theorem dc_364_53 : decode (sm_cc 364) 53 = .ok (.getfield 485, 3) := by decide +kernel
theorem dc_364_56 : decode (sm_cc 364) 56 = .ok (.iload_n 2, 1) := by decide +kernel
theorem dc_364_57 : decode (sm_cc 364) 57 = .ok (.aaload, 1) := by decide +kernel
theorem dc_364_58 : decode (sm_cc 364) 58 = .ok (.astore_n 3, 1) := by decide +kernel
theorem dc_364_59 : decode (sm_cc 364) 59 = .ok (.aload_n 0, 1) := by decide +kernel
theorem dc_364_60 : decode (sm_cc 364) 60 = .ok (.getfield 481, 3) := by decide +kernel
theorem fr_364_481 : sm_at mt_f (sm_ow 364) 481 = some (481, 14, 43, 0, 2116) := by decide +kernel
theorem dc_364_63 : decode (sm_cc 364) 63 = .ok (.iload_n 2, 1) := by decide +kernel
theorem dc_364_64 : decode (sm_cc 364) 64 = .ok (.iconst 1, 1) := by decide +kernel
theorem dc_364_65 : decode (sm_cc 364) 65 = .ok (.bastore, 1) := by decide +kernel
theorem dc_364_66 : decode (sm_cc 364) 66 = .ok (.aload_n 3, 1) := by decide +kernel
theorem dc_364_67 : decode (sm_cc 364) 67 = .ok (.iload_n 1, 1) := by decide +kernel
theorem dc_364_68 : decode (sm_cc 364) 68 = .ok (.putfield 531, 3) := by decide +kernel
theorem fr_364_531 : sm_at mt_f (sm_ow 364) 531 = some (531, 13, 0, 0, 2770) := by decide +kernel
theorem dc_364_71 : decode (sm_cc 364) 71 = .ok (.aload_n 3, 1) := by decide +kernel
theorem dc_364_72 : decode (sm_cc 364) 72 = .ok (.iconst 0, 1) := by decide +kernel
theorem dc_364_73 : decode (sm_cc 364) 73 = .ok (.putfield 459, 3) := by decide +kernel
theorem fr_364_459 : sm_at mt_f (sm_ow 364) 459 = some (459, 13, 1, 0, 2772) := by decide +kernel
theorem dc_364_76 : decode (sm_cc 364) 76 = .ok (.aload_n 3, 1) := by decide +kernel
theorem dc_364_77 : decode (sm_cc 364) 77 = .ok (.aconst_null, 1) := by decide +kernel
theorem dc_364_78 : decode (sm_cc 364) 78 = .ok (.putfield 533, 3) := by decide +kernel
theorem fr_364_533 : sm_at mt_f (sm_ow 364) 533 = some (533, 13, 8, 0, 2785) := by decide +kernel
theorem dc_364_81 : decode (sm_cc 364) 81 = .ok (.aload_n 3, 1) := by decide +kernel
theorem dc_364_82 : decode (sm_cc 364) 82 = .ok (.iconst (-1), 1) := by decide +kernel
theorem dc_364_83 : decode (sm_cc 364) 83 = .ok (.putfield 472, 3) := by decide +kernel
theorem fr_364_472 : sm_at mt_f (sm_ow 364) 472 = some (472, 13, 11, 0, 2788) := by decide +kernel
theorem dc_364_86 : decode (sm_cc 364) 86 = .ok (.aload_n 3, 1) := by decide +kernel
theorem dc_364_87 : decode (sm_cc 364) 87 = .ok (.iconst (-1), 1) := by decide +kernel
theorem dc_364_88 : decode (sm_cc 364) 88 = .ok (.putfield 475, 3) := by decide +kernel
theorem fr_364_475 : sm_at mt_f (sm_ow 364) 475 = some (475, 13, 12, 0, 2789) := by decide +kernel
theorem dc_364_91 : decode (sm_cc 364) 91 = .ok (.iload_n 2, 1) := by decide +kernel
theorem dc_364_92 : decode (sm_cc 364) 92 = .ok (.ireturn, 1) := by decide +kernel
theorem ml_349 : sm_ml 349 = 6 := by decide +kernel
theorem dc_349_0 : decode (sm_cc 349) 0 = .ok (.aload_n 0, 1) := by decide +kernel
theorem dc_349_1 : decode (sm_cc 349) 1 = .ok (.getfield 568, 3) := by decide +kernel
theorem fr_349_568 : sm_at mt_f (sm_ow 349) 568 = some (568, 14, 52, 0, 2125) := by decide +kernel
theorem dc_349_4 : decode (sm_cc 349) 4 = .ok (.aload_n 0, 1) := by decide +kernel
theorem dc_349_5 : decode (sm_cc 349) 5 = .ok (.getfield 502, 3) := by decide +kernel
theorem fr_349_502 : sm_at mt_f (sm_ow 349) 502 = some (502, 14, 59, 0, 2132) := by decide +kernel
theorem dc_349_8 : decode (sm_cc 349) 8 = .ok (.aload_n 1, 1) := by decide +kernel
theorem dc_349_9 : decode (sm_cc 349) 9 = .ok (.aastore, 1) := by decide +kernel
theorem dc_349_10 : decode (sm_cc 349) 10 = .ok (.aload_n 0, 1) := by decide +kernel
theorem dc_349_11 : decode (sm_cc 349) 11 = .ok (.getfield 572, 3) := by decide +kernel
theorem fr_349_572 : sm_at mt_f (sm_ow 349) 572 = some (572, 14, 53, 0, 2126) := by decide +kernel
theorem dc_349_14 : decode (sm_cc 349) 14 = .ok (.aload_n 0, 1) := by decide +kernel
theorem dc_349_15 : decode (sm_cc 349) 15 = .ok (.getfield 502, 3) := by decide +kernel
theorem dc_349_18 : decode (sm_cc 349) 18 = .ok (.iload_n 2, 1) := by decide +kernel
theorem dc_349_19 : decode (sm_cc 349) 19 = .ok (.iastore, 1) := by decide +kernel
theorem dc_349_20 : decode (sm_cc 349) 20 = .ok (.aload_n 0, 1) := by decide +kernel
theorem dc_349_21 : decode (sm_cc 349) 21 = .ok (.getfield 505, 3) := by decide +kernel
theorem fr_349_505 : sm_at mt_f (sm_ow 349) 505 = some (505, 14, 54, 0, 2127) := by decide +kernel
theorem dc_349_24 : decode (sm_cc 349) 24 = .ok (.aload_n 0, 1) := by decide +kernel
theorem dc_349_25 : decode (sm_cc 349) 25 = .ok (.getfield 502, 3) := by decide +kernel
theorem dc_349_28 : decode (sm_cc 349) 28 = .ok (.iload_n 3, 1) := by decide +kernel
theorem dc_349_29 : decode (sm_cc 349) 29 = .ok (.iastore, 1) := by decide +kernel
theorem dc_349_30 : decode (sm_cc 349) 30 = .ok (.aload_n 0, 1) := by decide +kernel
theorem dc_349_31 : decode (sm_cc 349) 31 = .ok (.getfield 596, 3) := by decide +kernel
theorem fr_349_596 : sm_at mt_f (sm_ow 349) 596 = some (596, 14, 55, 0, 2128) := by decide +kernel
theorem dc_349_34 : decode (sm_cc 349) 34 = .ok (.aload_n 0, 1) := by decide +kernel
theorem dc_349_35 : decode (sm_cc 349) 35 = .ok (.getfield 502, 3) := by decide +kernel
theorem dc_349_38 : decode (sm_cc 349) 38 = .ok (.iload 4, 2) := by decide +kernel
theorem dc_349_40 : decode (sm_cc 349) 40 = .ok (.iastore, 1) := by decide +kernel
theorem dc_349_41 : decode (sm_cc 349) 41 = .ok (.aload_n 0, 1) := by decide +kernel
theorem dc_349_42 : decode (sm_cc 349) 42 = .ok (.getfield 578, 3) := by decide +kernel
theorem fr_349_578 : sm_at mt_f (sm_ow 349) 578 = some (578, 14, 56, 0, 2129) := by decide +kernel
theorem dc_349_45 : decode (sm_cc 349) 45 = .ok (.aload_n 0, 1) := by decide +kernel
theorem dc_349_46 : decode (sm_cc 349) 46 = .ok (.getfield 502, 3) := by decide +kernel
theorem dc_349_49 : decode (sm_cc 349) 49 = .ok (.iconst 0, 1) := by decide +kernel
theorem dc_349_50 : decode (sm_cc 349) 50 = .ok (.iastore, 1) := by decide +kernel
theorem dc_349_51 : decode (sm_cc 349) 51 = .ok (.aload_n 0, 1) := by decide +kernel
theorem dc_349_52 : decode (sm_cc 349) 52 = .ok (.getfield 599, 3) := by decide +kernel
theorem fr_349_599 : sm_at mt_f (sm_ow 349) 599 = some (599, 14, 57, 0, 2130) := by decide +kernel
theorem dc_349_55 : decode (sm_cc 349) 55 = .ok (.aload_n 0, 1) := by decide +kernel
theorem dc_349_56 : decode (sm_cc 349) 56 = .ok (.getfield 502, 3) := by decide +kernel
theorem dc_349_59 : decode (sm_cc 349) 59 = .ok (.aload_n 0, 1) := by decide +kernel
theorem dc_349_60 : decode (sm_cc 349) 60 = .ok (.getfield 558, 3) := by decide +kernel
theorem fr_349_558 : sm_at mt_f (sm_ow 349) 558 = some (558, 14, 63, 0, 2136) := by decide +kernel
theorem dc_349_63 : decode (sm_cc 349) 63 = .ok (.iastore, 1) := by decide +kernel
theorem dc_349_64 : decode (sm_cc 349) 64 = .ok (.aload_n 0, 1) := by decide +kernel
theorem dc_349_65 : decode (sm_cc 349) 65 = .ok (.getfield 602, 3) := by decide +kernel
theorem fr_349_602 : sm_at mt_f (sm_ow 349) 602 = some (602, 14, 58, 0, 2131) := by decide +kernel
theorem dc_349_68 : decode (sm_cc 349) 68 = .ok (.aload_n 0, 1) := by decide +kernel
theorem dc_349_69 : decode (sm_cc 349) 69 = .ok (.getfield 502, 3) := by decide +kernel
theorem dc_349_72 : decode (sm_cc 349) 72 = .ok (.iload 5, 2) := by decide +kernel
theorem dc_349_74 : decode (sm_cc 349) 74 = .ok (.bastore, 1) := by decide +kernel
theorem dc_349_75 : decode (sm_cc 349) 75 = .ok (.aload_n 0, 1) := by decide +kernel
theorem dc_349_76 : decode (sm_cc 349) 76 = .ok (.dup, 1) := by decide +kernel
theorem dc_349_77 : decode (sm_cc 349) 77 = .ok (.getfield 502, 3) := by decide +kernel
theorem dc_349_80 : decode (sm_cc 349) 80 = .ok (.iconst 1, 1) := by decide +kernel
theorem dc_349_81 : decode (sm_cc 349) 81 = .ok (.iadd, 1) := by decide +kernel
theorem dc_349_82 : decode (sm_cc 349) 82 = .ok (.putfield 502, 3) := by decide +kernel
theorem dc_349_85 : decode (sm_cc 349) 85 = .ok (.return_, 1) := by decide +kernel
theorem rt_349 : sm_rt 349 = none := by decide +kernel
theorem dc_364_39 : decode (sm_cc 364) 39 = .ok (.aload_n 0, 1) := by decide +kernel
theorem dc_364_40 : decode (sm_cc 364) 40 = .ok (.getfield 485, 3) := by decide +kernel
theorem dc_364_43 : decode (sm_cc 364) 43 = .ok (.iload_n 2, 1) := by decide +kernel
theorem dc_364_44 : decode (sm_cc 364) 44 = .ok (.new 460, 3) := by decide +kernel
theorem dc_364_47 : decode (sm_cc 364) 47 = .ok (.dup, 1) := by decide +kernel
theorem dc_364_48 : decode (sm_cc 364) 48 = .ok (.invokespecial 530, 3) := by decide +kernel
theorem dc_364_51 : decode (sm_cc 364) 51 = .ok (.aastore, 1) := by decide +kernel
theorem sx_aastO {j pc : Nat} {lv : sm_L} {st : List Value} {X : Option (Nat × (Nat → Int32))} {cal : Nat → List Value → sm_H → Nat → Option sm_R} {n u : Nat} {σ : sm_H} {a N t q c : Nat} {f : Nat → Option Nat} {x : Int32} {y : List Value} (hd : decode (sm_cc j) pc = .ok (.aastore, 1)) (hc : σ[a]? = some (.inl (t, N, .inr (.inr (.inr (.inr f)))))) (hq : σ[q]? = some (.inr (c, y))) (ht : t < mt_el.length ∧ sm_el t = .object (sm_T c).1 ∧ c < mt_cl.length) (hi : ¬ (x < 0 ∨ N ≤ x.toNatClampNeg)) : sm_run X cal j (n + 1) (pc, lv, .ref q :: .int x :: .ref a :: st, σ, u) = sm_run X cal j n (pc + 1, lv, st, σ.set a (.inl (t, N, .inr (.inr (.inr (.inr (va_up f x.toNatClampNeg (some q))))))), u) := sx_go hd (sd_wr rfl rfl rfl rfl (by
  unfold sm_wr
  simp only [hc, hq, if_pos ht, if_neg hi]))
theorem Bod.aastO {d j pc : Nat} {lv : sm_L} {st : List Value} {S S1 Sf : cS} {v : Option Value} {a N t q c : Nat} {f : Nat → Option Nat} {x : Int32} {y : List Value} (m : Nat) (ex : x = nI m) (hm : m < N) (hN : N < 2 ^ 31) (hd : decode (sm_cc j) pc = .ok (.aastore, 1)) (hc : (mk S)[a]? = some (.inl (t, N, .inr (.inr (.inr (.inr f)))))) (hq : (mk S)[q]? = some (.inr (c, y))) (ht : t < mt_el.length ∧ sm_el t = .object (sm_T c).1 ∧ c < mt_cl.length) (hs : (mk S).set a (.inl (t, N, .inr (.inr (.inr (.inr (va_up f m (some q))))))) = mk S1) (hu : mu S1 = mu S) (h : Bod d j (pc + 1) lv st S1 v Sf) : Bod d j pc lv (.ref q :: .int x :: .ref a :: st) S v Sf := by
  subst ex
  refine Bod.of (fun _ _ => (sx_aastO hd hc hq ht (nI_in hm hN)).trans ?_) h
  rw [nI_clamp (by omega), hs, hu]
theorem ht5_thing : 5 < mt_el.length ∧ sm_el 5 = .object (sm_T 13).1 ∧ 13 < mt_cl.length := by decide +kernel
theorem ht6_code : 6 < mt_el.length ∧ sm_el 6 = .object (sm_T 12).1 ∧ 12 < mt_cl.length := by decide +kernel
theorem prn_13_8 : 8 < (sm_T 13).2.2 ∧ sm_fit (sm_ty 13 8) .null = true ∧ ((sm_T 13).2.1 8).2.2.2 = false := by decide +kernel
theorem rFs_1 {d : Nat} {S Sf : cS} {v : Option Value} {kd : Int32} {S1 : cS} {a : Nat} {g : Nat} {zg : Nat} (ma : a < 1500) (c1 : Ans (d + 8) 365 [.ref 61] S (some (.int (nI a))) S1) (ag : 108 ≤ g) (hq2 : sQ S1 86 a = some g) (hB : ∀ lv1 : sm_L, sm_get lv1 0 = some (.ref 61) → sm_get lv1 1 = some (.int kd) → sm_get lv1 2 = some (.int (nI a)) → Bod (d + 8) 364 52 lv1 [] (S1) v Sf) : Bod (d + 8) 364 0 [(0, .ref 61), (1, .int kd)] [] S v Sf := by
  refine Bod.go dc_364_0 rfl ?_
  refine Bod.virt (r := []) dc_364_1 kr_364_524 ⟨Or.inl rfl, ow_365, cl_14⟩ (by rw [np_365]; rfl) (by rw [np_365]; rfl) (ob_of (mk_61 _)) (Nat.le_of_ble_eq_true rfl) (c1  ) ?_
  show Bod _ _ _ _ [_] _ _ _
  refine Bod.istn dc_364_4 (by rw [ml_364]; exact Nat.le_of_ble_eq_true rfl) ?_
  refine Bod.go dc_364_5 rfl ?_
  refine Bod.ifT dc_364_6 rfl (k1_ge_T a rfl (by omega)) ?_
  refine Bod.go dc_364_18 rfl ?_
  refine Bod.ifT dc_364_19 rfl (k1_ge_T a rfl (by omega)) ?_
  refine Bod.go dc_364_30 rfl ?_
  refine Bod.get dc_364_31 fr_364_485 (mk_61 _) rfl ?_
  refine Bod.go dc_364_34 rfl ?_
  refine Bod.aaldR (N := 1500) (b := g) a rfl (by omega) (by omega) (by first | exact hq2 | (simp only [rIQ, rJQ, rAQ, rLQ, rVQ, rQ_holdE]; exact hq2)) dc_364_35 (mk_86 _) ht_5 ?_
  refine Bod.go dc_364_36 rfl ?_
  exact hB _ (by first | rfl | exact (by repeat (first | exact rfl | exact sm_get_p1 | exact sm_get_p2e | refine sm_get_p1m (by decide) (by decide) ?_ | refine sm_get_p1n (by decide) rfl ?_ | refine sm_get_p2n (by decide) (by decide) rfl ?_ | refine sm_get_p2m (by decide) (by decide) (by decide) ?_))) (by first | rfl | exact (by repeat (first | exact rfl | exact sm_get_p1 | exact sm_get_p2e | refine sm_get_p1m (by decide) (by decide) ?_ | refine sm_get_p1n (by decide) rfl ?_ | refine sm_get_p2n (by decide) (by decide) rfl ?_ | refine sm_get_p2m (by decide) (by decide) (by decide) ?_))) (by first | rfl | exact (by repeat (first | exact rfl | exact sm_get_p1 | exact sm_get_p2e | refine sm_get_p1m (by decide) (by decide) ?_ | refine sm_get_p1n (by decide) rfl ?_ | refine sm_get_p2n (by decide) (by decide) rfl ?_ | refine sm_get_p2m (by decide) (by decide) (by decide) ?_)))
theorem rFs_2 {d : Nat} {S Sf : cS} {v : Option Value} {kd : Int32} {S1 : cS} {a : Nat} (ma : a < 1500) (c1 : Ans (d + 8) 365 [.ref 61] S (some (.int (nI a))) S1) (hq1 : sQ S1 86 a = none) (hB : ∀ lv1 : sm_L, sm_get lv1 0 = some (.ref 61) → sm_get lv1 1 = some (.int kd) → sm_get lv1 2 = some (.int (nI a)) → Bod (d + 8) 364 39 lv1 [] (S1) v Sf) : Bod (d + 8) 364 0 [(0, .ref 61), (1, .int kd)] [] S v Sf := by
  refine Bod.go dc_364_0 rfl ?_
  refine Bod.virt (r := []) dc_364_1 kr_364_524 ⟨Or.inl rfl, ow_365, cl_14⟩ (by rw [np_365]; rfl) (by rw [np_365]; rfl) (ob_of (mk_61 _)) (Nat.le_of_ble_eq_true rfl) (c1  ) ?_
  show Bod _ _ _ _ [_] _ _ _
  refine Bod.istn dc_364_4 (by rw [ml_364]; exact Nat.le_of_ble_eq_true rfl) ?_
  refine Bod.go dc_364_5 rfl ?_
  refine Bod.ifT dc_364_6 rfl (k1_ge_T a rfl (by omega)) ?_
  refine Bod.go dc_364_18 rfl ?_
  refine Bod.ifT dc_364_19 rfl (k1_ge_T a rfl (by omega)) ?_
  refine Bod.go dc_364_30 rfl ?_
  refine Bod.get dc_364_31 fr_364_485 (mk_61 _) rfl ?_
  refine Bod.go dc_364_34 rfl ?_
  refine Bod.aald0 a rfl (by omega) (by omega) (f := _) (N := 1500) (by first | exact hq1 | (simp only [rIQ, rJQ, rAQ, rLQ, rVQ, rQ_holdE]; exact hq1)) dc_364_35 (mk_86 _) ht_5 ?_
  refine Bod.go dc_364_36 rfl ?_
  exact hB _ (by first | rfl | exact (by repeat (first | exact rfl | exact sm_get_p1 | exact sm_get_p2e | refine sm_get_p1m (by decide) (by decide) ?_ | refine sm_get_p1n (by decide) rfl ?_ | refine sm_get_p2n (by decide) (by decide) rfl ?_ | refine sm_get_p2m (by decide) (by decide) (by decide) ?_))) (by first | rfl | exact (by repeat (first | exact rfl | exact sm_get_p1 | exact sm_get_p2e | refine sm_get_p1m (by decide) (by decide) ?_ | refine sm_get_p1n (by decide) rfl ?_ | refine sm_get_p2n (by decide) (by decide) rfl ?_ | refine sm_get_p2m (by decide) (by decide) (by decide) ?_))) (by first | rfl | exact (by repeat (first | exact rfl | exact sm_get_p1 | exact sm_get_p2e | refine sm_get_p1m (by decide) (by decide) ?_ | refine sm_get_p1n (by decide) rfl ?_ | refine sm_get_p2n (by decide) (by decide) rfl ?_ | refine sm_get_p2m (by decide) (by decide) (by decide) ?_)))
theorem rFs_3 {d : Nat} {S Sf : cS} {v : Option Value} {kd : Int32} {S1 : cS} {S2 : cS} {S3 : cS} {a : Nat} {g : Nat} {zg : Nat} (c1 : Ans (d + 8) 365 [.ref 61] S (some (.int (Int32.ofInt (-1)))) S1) (c2 : Ans (d + 8) 366 [.ref 61] S1 none S2) (ma : a < 1500) (c3 : Ans (d + 8) 365 [.ref 61] S2 (some (.int (nI a))) S3) (ag : 108 ≤ g) (hq2 : sQ S3 86 a = some g) (hB : ∀ lv1 : sm_L, sm_get lv1 0 = some (.ref 61) → sm_get lv1 1 = some (.int kd) → sm_get lv1 2 = some (.int (nI a)) → Bod (d + 8) 364 52 lv1 [] (S3) v Sf) : Bod (d + 8) 364 0 [(0, .ref 61), (1, .int kd)] [] S v Sf := by
  refine Bod.go dc_364_0 rfl ?_
  refine Bod.virt (r := []) dc_364_1 kr_364_524 ⟨Or.inl rfl, ow_365, cl_14⟩ (by rw [np_365]; rfl) (by rw [np_365]; rfl) (ob_of (mk_61 _)) (Nat.le_of_ble_eq_true rfl) (c1  ) ?_
  show Bod _ _ _ _ [_] _ _ _
  refine Bod.istn dc_364_4 (by rw [ml_364]; exact Nat.le_of_ble_eq_true rfl) ?_
  refine Bod.go dc_364_5 rfl ?_
  refine Bod.ifF dc_364_6 rfl (by decide) ?_
  refine Bod.go dc_364_9 rfl ?_
  refine Bod.virt (r := []) dc_364_10 kr_364_527 ⟨Or.inl rfl, ow_366, cl_14⟩ (by rw [np_366]; rfl) (by rw [np_366]; rfl) (ob_of (mk_61 _)) (Nat.le_of_ble_eq_true rfl) (c2  ) ?_
  show Bod _ _ _ _ [] _ _ _
  refine Bod.go dc_364_13 rfl ?_
  refine Bod.virt (r := []) dc_364_14 kr_364_524 ⟨Or.inl rfl, ow_365, cl_14⟩ (by rw [np_365]; rfl) (by rw [np_365]; rfl) (ob_of (mk_61 _)) (Nat.le_of_ble_eq_true rfl) (c3  ) ?_
  show Bod _ _ _ _ [_] _ _ _
  refine Bod.istn dc_364_17 (by rw [ml_364]; exact Nat.le_of_ble_eq_true rfl) ?_
  refine Bod.go dc_364_18 rfl ?_
  refine Bod.ifT dc_364_19 rfl (k1_ge_T a rfl (by omega)) ?_
  refine Bod.go dc_364_30 rfl ?_
  refine Bod.get dc_364_31 fr_364_485 (mk_61 _) rfl ?_
  refine Bod.go dc_364_34 rfl ?_
  refine Bod.aaldR (N := 1500) (b := g) a rfl (by omega) (by omega) (by first | exact hq2 | (simp only [rIQ, rJQ, rAQ, rLQ, rVQ, rQ_holdE]; exact hq2)) dc_364_35 (mk_86 _) ht_5 ?_
  refine Bod.go dc_364_36 rfl ?_
  exact hB _ (by first | rfl | exact (by repeat (first | exact rfl | exact sm_get_p1 | exact sm_get_p2e | refine sm_get_p1m (by decide) (by decide) ?_ | refine sm_get_p1n (by decide) rfl ?_ | refine sm_get_p2n (by decide) (by decide) rfl ?_ | refine sm_get_p2m (by decide) (by decide) (by decide) ?_))) (by first | rfl | exact (by repeat (first | exact rfl | exact sm_get_p1 | exact sm_get_p2e | refine sm_get_p1m (by decide) (by decide) ?_ | refine sm_get_p1n (by decide) rfl ?_ | refine sm_get_p2n (by decide) (by decide) rfl ?_ | refine sm_get_p2m (by decide) (by decide) (by decide) ?_))) (by first | rfl | exact (by repeat (first | exact rfl | exact sm_get_p1 | exact sm_get_p2e | refine sm_get_p1m (by decide) (by decide) ?_ | refine sm_get_p1n (by decide) rfl ?_ | refine sm_get_p2n (by decide) (by decide) rfl ?_ | refine sm_get_p2m (by decide) (by decide) (by decide) ?_)))
theorem rFs_4 {d : Nat} {S Sf : cS} {v : Option Value} {kd : Int32} {S1 : cS} {S2 : cS} {S3 : cS} {a : Nat} (c1 : Ans (d + 8) 365 [.ref 61] S (some (.int (Int32.ofInt (-1)))) S1) (c2 : Ans (d + 8) 366 [.ref 61] S1 none S2) (ma : a < 1500) (c3 : Ans (d + 8) 365 [.ref 61] S2 (some (.int (nI a))) S3) (hq1 : sQ S3 86 a = none) (hB : ∀ lv1 : sm_L, sm_get lv1 0 = some (.ref 61) → sm_get lv1 1 = some (.int kd) → sm_get lv1 2 = some (.int (nI a)) → Bod (d + 8) 364 39 lv1 [] (S3) v Sf) : Bod (d + 8) 364 0 [(0, .ref 61), (1, .int kd)] [] S v Sf := by
  refine Bod.go dc_364_0 rfl ?_
  refine Bod.virt (r := []) dc_364_1 kr_364_524 ⟨Or.inl rfl, ow_365, cl_14⟩ (by rw [np_365]; rfl) (by rw [np_365]; rfl) (ob_of (mk_61 _)) (Nat.le_of_ble_eq_true rfl) (c1  ) ?_
  show Bod _ _ _ _ [_] _ _ _
  refine Bod.istn dc_364_4 (by rw [ml_364]; exact Nat.le_of_ble_eq_true rfl) ?_
  refine Bod.go dc_364_5 rfl ?_
  refine Bod.ifF dc_364_6 rfl (by decide) ?_
  refine Bod.go dc_364_9 rfl ?_
  refine Bod.virt (r := []) dc_364_10 kr_364_527 ⟨Or.inl rfl, ow_366, cl_14⟩ (by rw [np_366]; rfl) (by rw [np_366]; rfl) (ob_of (mk_61 _)) (Nat.le_of_ble_eq_true rfl) (c2  ) ?_
  show Bod _ _ _ _ [] _ _ _
  refine Bod.go dc_364_13 rfl ?_
  refine Bod.virt (r := []) dc_364_14 kr_364_524 ⟨Or.inl rfl, ow_365, cl_14⟩ (by rw [np_365]; rfl) (by rw [np_365]; rfl) (ob_of (mk_61 _)) (Nat.le_of_ble_eq_true rfl) (c3  ) ?_
  show Bod _ _ _ _ [_] _ _ _
  refine Bod.istn dc_364_17 (by rw [ml_364]; exact Nat.le_of_ble_eq_true rfl) ?_
  refine Bod.go dc_364_18 rfl ?_
  refine Bod.ifT dc_364_19 rfl (k1_ge_T a rfl (by omega)) ?_
  refine Bod.go dc_364_30 rfl ?_
  refine Bod.get dc_364_31 fr_364_485 (mk_61 _) rfl ?_
  refine Bod.go dc_364_34 rfl ?_
  refine Bod.aald0 a rfl (by omega) (by omega) (f := _) (N := 1500) (by first | exact hq1 | (simp only [rIQ, rJQ, rAQ, rLQ, rVQ, rQ_holdE]; exact hq1)) dc_364_35 (mk_86 _) ht_5 ?_
  refine Bod.go dc_364_36 rfl ?_
  exact hB _ (by first | rfl | exact (by repeat (first | exact rfl | exact sm_get_p1 | exact sm_get_p2e | refine sm_get_p1m (by decide) (by decide) ?_ | refine sm_get_p1n (by decide) rfl ?_ | refine sm_get_p2n (by decide) (by decide) rfl ?_ | refine sm_get_p2m (by decide) (by decide) (by decide) ?_))) (by first | rfl | exact (by repeat (first | exact rfl | exact sm_get_p1 | exact sm_get_p2e | refine sm_get_p1m (by decide) (by decide) ?_ | refine sm_get_p1n (by decide) rfl ?_ | refine sm_get_p2n (by decide) (by decide) rfl ?_ | refine sm_get_p2m (by decide) (by decide) (by decide) ?_))) (by first | rfl | exact (by repeat (first | exact rfl | exact sm_get_p1 | exact sm_get_p2e | refine sm_get_p1m (by decide) (by decide) ?_ | refine sm_get_p1n (by decide) rfl ?_ | refine sm_get_p2n (by decide) (by decide) rfl ?_ | refine sm_get_p2m (by decide) (by decide) (by decide) ?_)))
theorem rFs_5 {d : Nat} {S : cS} {kd : Int32} {S1 : cS} {S2 : cS} {S3 : cS} (c1 : Ans (d + 8) 365 [.ref 61] S (some (.int (Int32.ofInt (-1)))) S1) (c2 : Ans (d + 8) 366 [.ref 61] S1 none S2) (c3 : Ans (d + 8) 365 [.ref 61] S2 (some (.int (Int32.ofInt (-1)))) S3) : Bod (d + 8) 364 0 [(0, .ref 61), (1, .int kd)] [] S (some (.int (Int32.ofInt (-1)))) (wI 6164 (nI 8) S3) := by
  refine Bod.go dc_364_0 rfl ?_
  refine Bod.virt (r := []) dc_364_1 kr_364_524 ⟨Or.inl rfl, ow_365, cl_14⟩ (by rw [np_365]; rfl) (by rw [np_365]; rfl) (ob_of (mk_61 _)) (Nat.le_of_ble_eq_true rfl) (c1  ) ?_
  show Bod _ _ _ _ [_] _ _ _
  refine Bod.istn dc_364_4 (by rw [ml_364]; exact Nat.le_of_ble_eq_true rfl) ?_
  refine Bod.go dc_364_5 rfl ?_
  refine Bod.ifF dc_364_6 rfl (by decide) ?_
  refine Bod.go dc_364_9 rfl ?_
  refine Bod.virt (r := []) dc_364_10 kr_364_527 ⟨Or.inl rfl, ow_366, cl_14⟩ (by rw [np_366]; rfl) (by rw [np_366]; rfl) (ob_of (mk_61 _)) (Nat.le_of_ble_eq_true rfl) (c2  ) ?_
  show Bod _ _ _ _ [] _ _ _
  refine Bod.go dc_364_13 rfl ?_
  refine Bod.virt (r := []) dc_364_14 kr_364_524 ⟨Or.inl rfl, ow_365, cl_14⟩ (by rw [np_365]; rfl) (by rw [np_365]; rfl) (ob_of (mk_61 _)) (Nat.le_of_ble_eq_true rfl) (c3  ) ?_
  show Bod _ _ _ _ [_] _ _ _
  refine Bod.istn dc_364_17 (by rw [ml_364]; exact Nat.le_of_ble_eq_true rfl) ?_
  refine Bod.go dc_364_18 rfl ?_
  refine Bod.ifF dc_364_19 rfl (by decide) ?_
  refine Bod.go dc_364_22 rfl ?_
  refine Bod.bip 8 (by decide) dc_364_23 ?_
  refine Bod.put dc_364_25 fr_364_453 (mk_61 _) (Nat.le_of_ble_eq_true rfl) pf_14_64 (st_6164 _ _) (mu_I _ _ _) ?_
  refine Bod.go dc_364_28 rfl ?_
  exact Bod.retI dc_364_29 rt_364
theorem rFsT_1 {d : Nat} {S : cS} {lv : sm_L} {kd : Int32} {k : Nat} {g : Nat} {zg : Nat} (q0 : sm_get lv 0 = some (.ref 61)) (q1 : sm_get lv 1 = some (.int kd)) (q2 : sm_get lv 2 = some (.int (nI k))) (mk : k < 2 ^ 20) (b1 : k < 1500) (ag : 108 ≤ g) (hq2 : sQ S 86 k = some g) (hz1 : (sS S)[g - 108]? = some (13, zg)) : Bod (d + 8) 364 52 lv [] S (some (.int (nI k))) (wI (100 * g + 12) (Int32.ofInt (-1)) (wI (100 * g + 11) (Int32.ofInt (-1)) (wV (100 * g + 8) .null (wI (100 * g + 1) (nI 0) (wI (100 * g + 0) kd (wA 87 k (vp_nar .boolean (nI 1)) S)))))) := by
  refine Bod.aldnG dc_364_52 (by repeat (first | exact q0 | exact sm_get_p1 | exact sm_get_p2e | refine sm_get_p1m (by decide) (by decide) ?_ | refine sm_get_p1n (by decide) rfl ?_ | refine sm_get_p2n (by decide) (by decide) rfl ?_ | refine sm_get_p2m (by decide) (by decide) (by decide) ?_)) ?_
  refine Bod.get dc_364_53 fr_364_485 (mk_61 _) rfl ?_
  refine Bod.ildnG dc_364_56 (by repeat (first | exact q2 | exact sm_get_p1 | exact sm_get_p2e | refine sm_get_p1m (by decide) (by decide) ?_ | refine sm_get_p1n (by decide) rfl ?_ | refine sm_get_p2n (by decide) (by decide) rfl ?_ | refine sm_get_p2m (by decide) (by decide) (by decide) ?_)) ?_
  refine Bod.aaldR (N := 1500) (b := g) k rfl (by omega) (by omega) (by first | exact hq2 | (simp only [rIQ, rJQ, rAQ, rLQ, rVQ, rQ_holdE]; exact hq2)) dc_364_57 (mk_86 _) ht_5 ?_
  refine Bod.astn dc_364_58 (by rw [ml_364]; exact Nat.le_of_ble_eq_true rfl) ?_
  refine Bod.aldnG dc_364_59 (by repeat (first | exact q0 | exact sm_get_p1 | exact sm_get_p2e | refine sm_get_p1m (by decide) (by decide) ?_ | refine sm_get_p1n (by decide) rfl ?_ | refine sm_get_p2n (by decide) (by decide) rfl ?_ | refine sm_get_p2m (by decide) (by decide) (by decide) ?_)) ?_
  refine Bod.get dc_364_60 fr_364_481 (mk_61 _) rfl ?_
  refine Bod.ildnG dc_364_63 (by repeat (first | exact q2 | exact sm_get_p1 | exact sm_get_p2e | refine sm_get_p1m (by decide) (by decide) ?_ | refine sm_get_p1n (by decide) rfl ?_ | refine sm_get_p2n (by decide) (by decide) rfl ?_ | refine sm_get_p2m (by decide) (by decide) (by decide) ?_)) ?_
  refine Bod.ic 1 (by decide) dc_364_64 ?_
  refine Bod.zastN k rfl (by omega) (by omega) dc_364_65 (mk_87 _) (sa_87 _ _ _) (mu_A _ _ _ _) ?_
  refine Bod.aldnG dc_364_66 (by repeat (first | exact q0 | exact sm_get_p1 | exact sm_get_p2e | refine sm_get_p1m (by decide) (by decide) ?_ | refine sm_get_p1n (by decide) rfl ?_ | refine sm_get_p2n (by decide) (by decide) rfl ?_ | refine sm_get_p2m (by decide) (by decide) (by decide) ?_)) ?_
  refine Bod.ildnG dc_364_67 (by repeat (first | exact q1 | exact sm_get_p1 | exact sm_get_p2e | refine sm_get_p1m (by decide) (by decide) ?_ | refine sm_get_p1n (by decide) rfl ?_ | refine sm_get_p2n (by decide) (by decide) rfl ?_ | refine sm_get_p2m (by decide) (by decide) (by decide) ?_)) ?_
  refine Bod.put dc_364_68 fr_364_531 (mk_thing ag (by first | exact hz1 | (simp only [rIS, rJS, rAS, rLS, rVS, rQS, rS_hold]; exact hz1))) (Nat.le_of_ble_eq_true rfl) pf_13_0 (st_thing_0 ag (by first | exact hz1 | (simp only [rIS, rJS, rAS, rLS, rVS, rQS, rS_hold]; exact hz1))) (mu_I _ _ _) ?_
  refine Bod.aldnG dc_364_71 (by repeat (first | exact q0 | exact sm_get_p1 | exact sm_get_p2e | refine sm_get_p1m (by decide) (by decide) ?_ | refine sm_get_p1n (by decide) rfl ?_ | refine sm_get_p2n (by decide) (by decide) rfl ?_ | refine sm_get_p2m (by decide) (by decide) (by decide) ?_)) ?_
  refine Bod.ic 0 (by decide) dc_364_72 ?_
  refine Bod.put dc_364_73 fr_364_459 (mk_thing ag (by first | exact hz1 | (simp only [rIS, rJS, rAS, rLS, rVS, rQS, rS_hold]; exact hz1))) (Nat.le_of_ble_eq_true rfl) pf_13_1 (st_thing_1 ag (by first | exact hz1 | (simp only [rIS, rJS, rAS, rLS, rVS, rQS, rS_hold]; exact hz1))) (mu_I _ _ _) ?_
  refine Bod.aldnG dc_364_76 (by repeat (first | exact q0 | exact sm_get_p1 | exact sm_get_p2e | refine sm_get_p1m (by decide) (by decide) ?_ | refine sm_get_p1n (by decide) rfl ?_ | refine sm_get_p2n (by decide) (by decide) rfl ?_ | refine sm_get_p2m (by decide) (by decide) (by decide) ?_)) ?_
  refine Bod.go dc_364_77 rfl ?_
  refine Bod.put dc_364_78 fr_364_533 (mk_thing ag (by first | exact hz1 | (simp only [rIS, rJS, rAS, rLS, rVS, rQS, rS_hold]; exact hz1))) (Nat.le_of_ble_eq_true rfl) prn_13_8 (st_thing_8 ag (by first | exact hz1 | (simp only [rIS, rJS, rAS, rLS, rVS, rQS, rS_hold]; exact hz1))) (mu_V _ _ _) ?_
  refine Bod.aldnG dc_364_81 (by repeat (first | exact q0 | exact sm_get_p1 | exact sm_get_p2e | refine sm_get_p1m (by decide) (by decide) ?_ | refine sm_get_p1n (by decide) rfl ?_ | refine sm_get_p2n (by decide) (by decide) rfl ?_ | refine sm_get_p2m (by decide) (by decide) (by decide) ?_)) ?_
  refine Bod.go dc_364_82 rfl ?_
  refine Bod.put dc_364_83 fr_364_472 (mk_thing ag (by first | exact hz1 | (simp only [rIS, rJS, rAS, rLS, rVS, rQS, rS_hold]; exact hz1))) (Nat.le_of_ble_eq_true rfl) pf_13_11 (st_thing_11 ag (by first | exact hz1 | (simp only [rIS, rJS, rAS, rLS, rVS, rQS, rS_hold]; exact hz1))) (mu_I _ _ _) ?_
  refine Bod.aldnG dc_364_86 (by repeat (first | exact q0 | exact sm_get_p1 | exact sm_get_p2e | refine sm_get_p1m (by decide) (by decide) ?_ | refine sm_get_p1n (by decide) rfl ?_ | refine sm_get_p2n (by decide) (by decide) rfl ?_ | refine sm_get_p2m (by decide) (by decide) (by decide) ?_)) ?_
  refine Bod.go dc_364_87 rfl ?_
  refine Bod.put dc_364_88 fr_364_475 (mk_thing ag (by first | exact hz1 | (simp only [rIS, rJS, rAS, rLS, rVS, rQS, rS_hold]; exact hz1))) (Nat.le_of_ble_eq_true rfl) pf_13_12 (st_thing_12 ag (by first | exact hz1 | (simp only [rIS, rJS, rAS, rLS, rVS, rQS, rS_hold]; exact hz1))) (mu_I _ _ _) ?_
  refine Bod.ildnG dc_364_91 (by repeat (first | exact q2 | exact sm_get_p1 | exact sm_get_p2e | refine sm_get_p1m (by decide) (by decide) ?_ | refine sm_get_p1n (by decide) rfl ?_ | refine sm_get_p2n (by decide) (by decide) rfl ?_ | refine sm_get_p2m (by decide) (by decide) (by decide) ?_)) ?_
  exact Bod.retI dc_364_92 rt_364
theorem kn_364 : ∃ k1 w, sm_at mt_n (sm_ow 364) 460 = some (k1, 13, w) := ⟨((sm_at mt_n (sm_ow 364) 460).getD (0, 0, 0, 0, 0)).1, ((sm_at mt_n (sm_ow 364) 460).getD (0, 0, 0, 0, 0)).2.2, by decide +kernel⟩
theorem kq_364 : ∃ k1 kd w, sm_at mt_k (sm_ow 364) 530 = some (k1, kd, 374, w) ∧ (kd = 4 ∨ kd = 5) := ⟨((sm_at mt_k (sm_ow 364) 530).getD (0, 0, 0, 0, 0)).1, ((sm_at mt_k (sm_ow 364) 530).getD (0, 0, 0, 0, 0)).2.1, ((sm_at mt_k (sm_ow 364) 530).getD (0, 0, 0, 0, 0)).2.2.2, by decide +kernel⟩
theorem enter_0 {d m t at' z : Nat} {S Sf : cS} {v : Option Value} {fr bs mk' : Int32} {cl : Nat} (hcl : sI S 6159 = nI cl) (mcl : cl < 31) (hm : 108 ≤ m) (hs : (sS S)[m - 108]? = some (12, z)) (h : Bod d 349 10 [(0, .ref 61), (1, .ref m), (2, .int (nI at')), (3, .int fr), (4, .int bs), (5, .int mk')] [] (wQ 94 cl (some m) S) v Sf) : Bod d 349 0 [(0, .ref 61), (1, .ref m), (2, .int (nI at')), (3, .int fr), (4, .int bs), (5, .int mk')] [] S v Sf := by
  refine Bod.aldnG dc_349_0 (x := 61) rfl ?_
  refine Bod.get dc_349_1 fr_349_568 (mk_61 _) rfl ?_
  refine Bod.aldnG dc_349_4 (x := 61) rfl ?_
  refine Bod.get dc_349_5 fr_349_502 (mk_61 _) rfl ?_
  refine Bod.eqI (nI cl) hcl ?_
  refine Bod.aldnG dc_349_8 (x := m) rfl ?_
  exact Bod.aastO cl rfl (by omega) (by omega) dc_349_9 (mk_94 _) (mk_code hm hs) ht6_code (sa_94 _ _ _) (mu_Q _ _ _ _) h
theorem rEn_1 {d : Nat} {S : cS} {m : Nat} {at0 : Nat} {fr : Int32} {bs : Int32} {mk : Int32} {cl : Nat} {tr : Nat} (mat0 : at0 < 2 ^ 20) (hcl : sI S 6159 = nI cl) (mcl : cl < 32) (b1 : cl < 31) (htr : sI (wA 98 cl (nI 0) (wA 97 cl bs (wA 96 cl fr (wA 95 cl (nI at0) S)))) 6163 = nI tr) (mtr : tr < 401) : Bod (d + 8) 349 10 [(5, .int mk), (4, .int bs), (3, .int fr), (2, .int (nI at0)), (1, .ref m), (0, .ref 61)] [] S none (wI 6159 (nI (cl + 1)) (wA 100 cl (vp_nar .boolean mk) (wA 99 cl (nI tr) (wA 98 cl (nI 0) (wA 97 cl bs (wA 96 cl fr (wA 95 cl (nI at0) S))))))) := by
  refine Bod.go dc_349_10 rfl ?_
  refine Bod.get dc_349_11 fr_349_572 (mk_61 _) rfl ?_
  refine Bod.go dc_349_14 rfl ?_
  refine Bod.get dc_349_15 fr_349_502 (mk_61 _) rfl ?_
  refine Bod.eqI (nI cl) (by first | assumption | rfl | exact congrArg nI (by omega) | (simp (disch := omega) only [rIn, rIe, rA, rIA, rLA, rJA, rVI, rQI, rVA, rQA, upd_at,  rAI, rLI, rJI, nI_add, pk_sub, kc_0, kc_1, kc_2, kc_3, kc_4, kc_5, reduceIte, Nat.reduceEqDiff, Nat.add_zero, rI_hold, rI_hold, rL_hold, hcl]; done)) ?_
  refine Bod.go dc_349_18 rfl ?_
  refine Bod.iastN cl rfl (by omega) (by omega) dc_349_19 (mk_95 _) (sa_95 _ _ _) (mu_A _ _ _ _) ?_
  refine Bod.go dc_349_20 rfl ?_
  refine Bod.get dc_349_21 fr_349_505 (mk_61 _) rfl ?_
  refine Bod.go dc_349_24 rfl ?_
  refine Bod.get dc_349_25 fr_349_502 (mk_61 _) rfl ?_
  refine Bod.eqI (nI cl) (by first | assumption | (simp (disch := omega) only [rIn, rIe, rA, rIA, rLA, rJA, rVI, rQI, rVA, rQA, upd_at,  rAI, rLI, rJI, nI_add, pk_sub, kc_0, kc_1, kc_2, kc_3, kc_4, kc_5, reduceIte, Nat.reduceEqDiff, Nat.add_zero, rI_hold, rI_hold, rL_hold, hcl]; done) | (simp (disch := omega) only [rIn, rIe, rA, rIA, rLA, rJA, rVI, rQI, rVA, rQA, upd_at,  rAI, rLI, rJI, nI_add, pk_sub, kc_0, kc_1, kc_2, kc_3, kc_4, kc_5, reduceIte, Nat.reduceEqDiff, Nat.add_zero, rI_hold, rI_hold, rL_hold, hcl]; exact congrArg nI (by omega))) ?_
  refine Bod.go dc_349_28 rfl ?_
  refine Bod.iastN cl rfl (by omega) (by omega) dc_349_29 (mk_96 _) (sa_96 _ _ _) (mu_A _ _ _ _) ?_
  refine Bod.go dc_349_30 rfl ?_
  refine Bod.get dc_349_31 fr_349_596 (mk_61 _) rfl ?_
  refine Bod.go dc_349_34 rfl ?_
  refine Bod.get dc_349_35 fr_349_502 (mk_61 _) rfl ?_
  refine Bod.eqI (nI cl) (by first | assumption | (simp (disch := omega) only [rIn, rIe, rA, rIA, rLA, rJA, rVI, rQI, rVA, rQA, upd_at,  rAI, rLI, rJI, nI_add, pk_sub, kc_0, kc_1, kc_2, kc_3, kc_4, kc_5, reduceIte, Nat.reduceEqDiff, Nat.add_zero, rI_hold, rI_hold, rL_hold, hcl]; done) | (simp (disch := omega) only [rIn, rIe, rA, rIA, rLA, rJA, rVI, rQI, rVA, rQA, upd_at,  rAI, rLI, rJI, nI_add, pk_sub, kc_0, kc_1, kc_2, kc_3, kc_4, kc_5, reduceIte, Nat.reduceEqDiff, Nat.add_zero, rI_hold, rI_hold, rL_hold, hcl]; exact congrArg nI (by omega))) ?_
  refine Bod.go dc_349_38 rfl ?_
  refine Bod.iastN cl rfl (by omega) (by omega) dc_349_40 (mk_97 _) (sa_97 _ _ _) (mu_A _ _ _ _) ?_
  refine Bod.go dc_349_41 rfl ?_
  refine Bod.get dc_349_42 fr_349_578 (mk_61 _) rfl ?_
  refine Bod.go dc_349_45 rfl ?_
  refine Bod.get dc_349_46 fr_349_502 (mk_61 _) rfl ?_
  refine Bod.eqI (nI cl) (by first | assumption | (simp (disch := omega) only [rIn, rIe, rA, rIA, rLA, rJA, rVI, rQI, rVA, rQA, upd_at,  rAI, rLI, rJI, nI_add, pk_sub, kc_0, kc_1, kc_2, kc_3, kc_4, kc_5, reduceIte, Nat.reduceEqDiff, Nat.add_zero, rI_hold, rI_hold, rL_hold, hcl]; done) | (simp (disch := omega) only [rIn, rIe, rA, rIA, rLA, rJA, rVI, rQI, rVA, rQA, upd_at,  rAI, rLI, rJI, nI_add, pk_sub, kc_0, kc_1, kc_2, kc_3, kc_4, kc_5, reduceIte, Nat.reduceEqDiff, Nat.add_zero, rI_hold, rI_hold, rL_hold, hcl]; exact congrArg nI (by omega))) ?_
  refine Bod.ic 0 (by decide) dc_349_49 ?_
  refine Bod.iastN cl rfl (by omega) (by omega) dc_349_50 (mk_98 _) (sa_98 _ _ _) (mu_A _ _ _ _) ?_
  refine Bod.go dc_349_51 rfl ?_
  refine Bod.get dc_349_52 fr_349_599 (mk_61 _) rfl ?_
  refine Bod.go dc_349_55 rfl ?_
  refine Bod.get dc_349_56 fr_349_502 (mk_61 _) rfl ?_
  refine Bod.eqI (nI cl) (by first | assumption | (simp (disch := omega) only [rIn, rIe, rA, rIA, rLA, rJA, rVI, rQI, rVA, rQA, upd_at,  rAI, rLI, rJI, nI_add, pk_sub, kc_0, kc_1, kc_2, kc_3, kc_4, kc_5, reduceIte, Nat.reduceEqDiff, Nat.add_zero, rI_hold, rI_hold, rL_hold, hcl]; done) | (simp (disch := omega) only [rIn, rIe, rA, rIA, rLA, rJA, rVI, rQI, rVA, rQA, upd_at,  rAI, rLI, rJI, nI_add, pk_sub, kc_0, kc_1, kc_2, kc_3, kc_4, kc_5, reduceIte, Nat.reduceEqDiff, Nat.add_zero, rI_hold, rI_hold, rL_hold, hcl]; exact congrArg nI (by omega))) ?_
  refine Bod.go dc_349_59 rfl ?_
  refine Bod.get dc_349_60 fr_349_558 (mk_61 _) rfl ?_
  refine Bod.eqI (nI tr) (by first | assumption | (simp (disch := omega) only [rIn, rIe, rA, rIA, rLA, rJA, rVI, rQI, rVA, rQA, upd_at,  rAI, rLI, rJI, nI_add, pk_sub, kc_0, kc_1, kc_2, kc_3, kc_4, kc_5, reduceIte, Nat.reduceEqDiff, Nat.add_zero, rI_hold, rI_hold, rL_hold, hcl, htr]; done) | (simp (disch := omega) only [rIn, rIe, rA, rIA, rLA, rJA, rVI, rQI, rVA, rQA, upd_at,  rAI, rLI, rJI, nI_add, pk_sub, kc_0, kc_1, kc_2, kc_3, kc_4, kc_5, reduceIte, Nat.reduceEqDiff, Nat.add_zero, rI_hold, rI_hold, rL_hold, hcl, htr]; exact congrArg nI (by omega))) ?_
  refine Bod.iastN cl rfl (by omega) (by omega) dc_349_63 (mk_99 _) (sa_99 _ _ _) (mu_A _ _ _ _) ?_
  refine Bod.go dc_349_64 rfl ?_
  refine Bod.get dc_349_65 fr_349_602 (mk_61 _) rfl ?_
  refine Bod.go dc_349_68 rfl ?_
  refine Bod.get dc_349_69 fr_349_502 (mk_61 _) rfl ?_
  refine Bod.eqI (nI cl) (by first | assumption | (simp (disch := omega) only [rIn, rIe, rA, rIA, rLA, rJA, rVI, rQI, rVA, rQA, upd_at,  rAI, rLI, rJI, nI_add, pk_sub, kc_0, kc_1, kc_2, kc_3, kc_4, kc_5, reduceIte, Nat.reduceEqDiff, Nat.add_zero, rI_hold, rI_hold, rL_hold, hcl, htr]; done) | (simp (disch := omega) only [rIn, rIe, rA, rIA, rLA, rJA, rVI, rQI, rVA, rQA, upd_at,  rAI, rLI, rJI, nI_add, pk_sub, kc_0, kc_1, kc_2, kc_3, kc_4, kc_5, reduceIte, Nat.reduceEqDiff, Nat.add_zero, rI_hold, rI_hold, rL_hold, hcl, htr]; exact congrArg nI (by omega))) ?_
  refine Bod.go dc_349_72 rfl ?_
  refine Bod.zastN cl rfl (by omega) (by omega) dc_349_74 (mk_100 _) (sa_100 _ _ _) (mu_A _ _ _ _) ?_
  refine Bod.go dc_349_75 rfl ?_
  refine Bod.go dc_349_76 rfl ?_
  refine Bod.get dc_349_77 fr_349_502 (mk_61 _) rfl ?_
  refine Bod.eqI (nI cl) (by first | assumption | (simp (disch := omega) only [rIn, rIe, rA, rIA, rLA, rJA, rVI, rQI, rVA, rQA, upd_at,  rAI, rLI, rJI, nI_add, pk_sub, kc_0, kc_1, kc_2, kc_3, kc_4, kc_5, reduceIte, Nat.reduceEqDiff, Nat.add_zero, rI_hold, rI_hold, rL_hold, hcl, htr]; done) | (simp (disch := omega) only [rIn, rIe, rA, rIA, rLA, rJA, rVI, rQI, rVA, rQA, upd_at,  rAI, rLI, rJI, nI_add, pk_sub, kc_0, kc_1, kc_2, kc_3, kc_4, kc_5, reduceIte, Nat.reduceEqDiff, Nat.add_zero, rI_hold, rI_hold, rL_hold, hcl, htr]; exact congrArg nI (by omega))) ?_
  refine Bod.ic 1 (by decide) dc_349_80 ?_
  refine Bod.addN (cl + 1) (by omega) dc_349_81 ?_
  refine Bod.put dc_349_82 fr_349_502 (mk_61 _) (Nat.le_of_ble_eq_true rfl) pf_14_59 (st_6159 _ _) (mu_I _ _ _) ?_
  exact Bod.retV dc_349_85 rt_349
theorem rFsN {d : Nat} {S Sf : cS} {v : Option Value} {lv : sm_L} {kd : Int32} {k : Nat} (q0 : sm_get lv 0 = some (.ref 61)) (q1 : sm_get lv 1 = some (.int kd)) (q2 : sm_get lv 2 = some (.int (nI k))) (hk : k < 1500) (hB : Bod (d + 8) 364 52 lv [] (wQ 86 k (some (108 + (sS S).length)) (thI (108 + (sS S).length) (wK (13, 0) 13 (ntS S)))) v Sf) : Bod (d + 8) 364 39 lv [] S v Sf := by
  have hs : (sS (wK (13, 0) 13 (ntS S)))[108 + (sS S).length - 108]? = some (13, 0) := new_at (S0 := S) rfl
  have hs2 : (sS (thI (108 + (sS S).length) (wK (13, 0) 13 (ntS S))))[108 + (sS S).length - 108]? = some (13, 0) := sS_old (S := wK (13, 0) 13 (ntS S)) (l := [(0, 4), (0, 4), (1, 4), (1, 4), (1, 4), (1, 4)]) (by
    show ((((((sS (wK (13, 0) 13 (ntS S)) ++ [(0, 4)]) ++ [(0, 4)]) ++ [(1, 4)]) ++ [(1, 4)]) ++ [(1, 4)]) ++ [(1, 4)]) = _
    simp only [List.append_assoc, List.cons_append, List.nil_append]) hs
  refine Bod.aldnG dc_364_39 q0 ?_
  refine Bod.get dc_364_40 fr_364_485 (mk_61 _) rfl ?_
  refine Bod.ildnG dc_364_43 q2 ?_
  obtain ⟨k1, w, hn⟩ := kn_364
  refine Bod.newthing dc_364_44 hn ?_
  refine Bod.go dc_364_47 rfl ?_
  obtain ⟨k2, kd2, w2, hq, hkd⟩ := kq_364
  refine Bod.call (r := [.ref (108 + (sS S).length), .int (nI k), .ref 86]) (fun cal n R hc => sx_spec dc_364_48 hq hkd (by rw [np_374]; rfl) (Nat.le_of_ble_eq_true rfl) (by rw [np_374]; exact hc)) (newThing_T (d := d + 7) (by omega) hs) ?_
  show Bod _ _ _ _ [_, _, _] _ _ _
  exact Bod.aastO k rfl hk (by omega) dc_364_51 (mk_86 _) (mk_thing (by omega) hs2) ht5_thing (sa_86 _ _ _) (mu_Q _ _ _ _) hB
