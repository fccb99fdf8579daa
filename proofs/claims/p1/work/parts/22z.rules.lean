/-! A CALL ANSWERS, a body comes to its end: over the state, for enough steps -/
def Ans (d j : Nat) (as : List Value) (S : cS) (v : Option Value) (S1 : cS) : Prop := ∃ k, ∀ n, k ≤ n → sm_ev none d n j as (mk S) (mu S) = some (v, mk S1, mu S1)
def Bod (d j pc : Nat) (lv : sm_L) (st : List Value) (S : cS) (v : Option Value) (S1 : cS) : Prop := ∃ k, ∀ n m, k ≤ n → k ≤ m → sm_run none (sm_ev none d m) j n (pc, lv, st, mk S, mu S) = some (v, mk S1, mu S1)
variable {d j pc k pc1 : Nat} {lv lv1 : sm_L} {st st1 r : List Value} {S S1 Sf : cS} {v : Option Value} {i : Instr}
theorem Ans.of {as : List Value} (hl : (lg_sl as).length ≤ sm_ml j) (h : Bod d j 0 (lv_args 0 as) [] S v S1) : Ans (d + 1) j as S v S1 := by
  obtain ⟨k, h⟩ := h
  exact ⟨k, fun n hn => (sx_ev hl).trans (h n n hn hn)⟩
theorem Ans.up {as : List Value} {d1 : Nat} (hd : d ≤ d1) (h : Ans d j as S v S1) : Ans d1 j as S v S1 := by
  obtain ⟨k, h⟩ := h
  exact ⟨k, fun n hn => sm_ev_none d d1 n n j _ _ _ _ hd (Nat.le_refl _) (h n hn)⟩
theorem Bod.of {lv1 : sm_L} (hs : ∀ cal n, sm_run none cal j (n + 1) (pc, lv, st, mk S, mu S) = sm_run none cal j n (pc1, lv1, st1, mk S1, mu S1)) (h : Bod d j pc1 lv1 st1 S1 v Sf) : Bod d j pc lv st S v Sf := by
  obtain ⟨k, h⟩ := h
  refine ⟨k + 1, fun n m hn hm => ?_⟩
  obtain ⟨n1, rfl⟩ : ∃ n1, n = n1 + 1 := ⟨n - 1, by omega⟩
  exact (hs _ n1).trans (h n1 m (by omega) (by omega))
theorem Bod.go (hd : decode (sm_cc j) pc = .ok (i, k)) (hs : sm_do none j i k pc lv st (mk S) (mu S) = some (.inl (pc1, lv1, st1, mk S1, mu S1))) (h : Bod d j pc1 lv1 st1 S1 v Sf) : Bod d j pc lv st S v Sf := Bod.of (fun _ _ => sx_go hd hs) h
theorem Bod.ret (hs : ∀ cal n, sm_run none cal j (n + 1) (pc, lv, st, mk S, mu S) = some (v, mk S1, mu S1)) : Bod d j pc lv st S v S1 := ⟨1, fun n m hn hm => by
  obtain ⟨n1, rfl⟩ : ∃ n1, n = n1 + 1 := ⟨n - 1, by omega⟩
  exact hs _ n1⟩
theorem Bod.retI {x : Int32} (hd : decode (sm_cc j) pc = .ok (.ireturn, 1)) (hr : sm_rt j = some .int) : Bod d j pc lv [.int x] S (some (.int x)) S := Bod.ret (fun _ _ => sx_ret_int hd hr)
theorem Bod.retZ {x : Int32} (hd : decode (sm_cc j) pc = .ok (.ireturn, 1)) (hr : sm_rt j = some .boolean) (hx : x = 0 ∨ x = 1) : Bod d j pc lv [.int x] S (some (.int x)) S := Bod.ret (fun _ _ => sx_ret_bool hd hr hx)
theorem Bod.retV (hd : decode (sm_cc j) pc = .ok (.return_, 1)) (hr : sm_rt j = none) : Bod d j pc lv [] S none S := Bod.ret (fun _ _ => sx_ret_void hd hr)
theorem sx_ret_long {X : Option (Nat × (Nat → Int32))} {cal : Nat → List Value → sm_H → Nat → Option sm_R} {n u : Nat} {σ : sm_H} {x : Int64} (hd : decode (sm_cc j) pc = .ok (.lreturn, 1)) (hr : sm_rt j = some .long) : sm_run X cal j (n + 1) (pc, lv, [.long x], σ, u) = some (some (.long x), σ, u) := sx_end0 hd (by
  unfold sm_do
  rw [hr]
  rfl)
theorem Bod.retJ {x : Int64} (hd : decode (sm_cc j) pc = .ok (.lreturn, 1)) (hr : sm_rt j = some .long) : Bod d j pc lv [.long x] S (some (.long x)) S := Bod.ret (fun _ _ => sx_ret_long hd hr)
theorem Bod.get {q k1 ci fk a : Nat} {w : Nat × Nat} {x : Value} {fs : List Value} (hd : decode (sm_cc j) pc = .ok (.getfield q, 3)) (hf : sm_at mt_f (sm_ow j) q = some (k1, ci, fk, w)) (hc : (mk S)[a]? = some (.inr (ci, fs))) (hv : fs[fk]? = some x) (h : Bod d j (pc + 3) lv (x :: st) S v Sf) : Bod d j pc lv (.ref a :: st) S v Sf := Bod.of (fun _ _ => sx_getfield hd hf (by
  unfold sx_fd
  rw [hc]
  simp only [if_true]
  exact hv)) h
theorem sx_putfield {X : Option (Nat × (Nat → Int32))} {cal : Nat → List Value → sm_H → Nat → Option sm_R} {n u : Nat} {σ : sm_H} {q k1 ci fk a ho w : Nat} {x : Value} {fs : List Value} (hd : decode (sm_cc j) pc = .ok (.putfield q, 3)) (hf : sm_at mt_f (sm_ow j) q = some (k1, ci, fk, ho, w)) (hc : σ[a]? = some (.inr (ci, fs))) (hk : fk < fs.length) (ht : fk < (sm_T ci).2.2 ∧ sm_fit (sm_ty ci fk) x = true ∧ ((sm_T ci).2.1 fk).2.2.2 = false) : sm_run X cal j (n + 1) (pc, lv, x :: .ref a :: st, σ, u) = sm_run X cal j n (pc + 3, lv, st, σ.set a (.inr (ci, fs.set fk x)), u) := sx_go hd (sd_wr rfl rfl rfl rfl (by
  unfold sm_wr
  simp only [hf, hc, if_true]
  rw [if_pos ⟨trivial, ht.1, hk, ht.2.1, fun e => by rw [ht.2.2] at e; cases e⟩]))
theorem Bod.put {q k1 ci fk a ho w : Nat} {x : Value} {fs : List Value} (hd : decode (sm_cc j) pc = .ok (.putfield q, 3)) (hf : sm_at mt_f (sm_ow j) q = some (k1, ci, fk, ho, w)) (hc : (mk S)[a]? = some (.inr (ci, fs))) (hk : fk < fs.length) (ht : fk < (sm_T ci).2.2 ∧ sm_fit (sm_ty ci fk) x = true ∧ ((sm_T ci).2.1 fk).2.2.2 = false) (hs : (mk S).set a (.inr (ci, fs.set fk x)) = mk S1) (hu : mu S1 = mu S) (h : Bod d j (pc + 3) lv st S1 v Sf) : Bod d j pc lv (x :: .ref a :: st) S v Sf := Bod.of (fun _ _ => (sx_putfield hd hf hc hk ht).trans (by rw [hs, hu])) h
theorem Bod.ifT {c : Jvm.ClassFile.Cond} {off : Int} {x : Int32} {t : Nat} (hd : decode (sm_cc j) pc = .ok (.ifCond c off, 3)) (ht : sm_tg pc off = some t) (hx : sm_c1 c x true false = true) (h : Bod d j t lv st S v Sf) : Bod d j pc lv (.int x :: st) S v Sf := Bod.of (fun _ _ => sx_if_t hd ht hx) h
theorem Bod.ifF {c : Jvm.ClassFile.Cond} {off : Int} {x : Int32} {t : Nat} (hd : decode (sm_cc j) pc = .ok (.ifCond c off, 3)) (ht : sm_tg pc off = some t) (hx : sm_c1 c x true false = false) (h : Bod d j (pc + 3) lv st S v Sf) : Bod d j pc lv (.int x :: st) S v Sf := Bod.of (fun _ _ => sx_if_f hd ht hx) h
theorem Bod.icT {c : Jvm.ClassFile.Cond} {off : Int} {x y : Int32} {t : Nat} (hd : decode (sm_cc j) pc = .ok (.if_icmp c off, 3)) (ht : sm_tg pc off = some t) (hx : sm_c2 c x y true false = true) (h : Bod d j t lv st S v Sf) : Bod d j pc lv (.int y :: .int x :: st) S v Sf := Bod.of (fun _ _ => sx_ic_t hd ht hx) h
theorem Bod.icF {c : Jvm.ClassFile.Cond} {off : Int} {x y : Int32} {t : Nat} (hd : decode (sm_cc j) pc = .ok (.if_icmp c off, 3)) (ht : sm_tg pc off = some t) (hx : sm_c2 c x y true false = false) (h : Bod d j (pc + 3) lv st S v Sf) : Bod d j pc lv (.int y :: .int x :: st) S v Sf := Bod.of (fun _ _ => sx_ic_f hd ht hx) h
theorem Bod.iald {a N : Nat} {f : Nat → Int32} {x : Int32} (hd : decode (sm_cc j) pc = .ok (.iaload, 1)) (hc : (mk S)[a]? = some (.inl (0, N, .inl f))) (hi : ¬ (x < 0 ∨ N ≤ x.toNatClampNeg)) (h : Bod d j (pc + 1) lv (.int (f x.toNatClampNeg) :: st) S v Sf) : Bod d j pc lv (.int x :: .ref a :: st) S v Sf := Bod.of (fun _ _ => sx_iald hd hc hi) h
theorem Bod.bald {a N t : Nat} {f : Nat → Int32} {x : Int32} (hd : decode (sm_cc j) pc = .ok (.baload, 1)) (hc : (mk S)[a]? = some (.inl (t, N, .inl f))) (ht : t = 2 ∨ t = 3) (hi : ¬ (x < 0 ∨ N ≤ x.toNatClampNeg)) (h : Bod d j (pc + 1) lv (.int (f x.toNatClampNeg) :: st) S v Sf) : Bod d j pc lv (.int x :: .ref a :: st) S v Sf := Bod.of (fun _ _ => sx_bald hd hc ht hi) h
theorem sx_lald {X : Option (Nat × (Nat → Int32))} {cal : Nat → List Value → sm_H → Nat → Option sm_R} {n u : Nat} {σ : sm_H} {a N : Nat} {f : Nat → Int64} {x : Int32} (hd : decode (sm_cc j) pc = .ok (.laload, 1)) (hc : σ[a]? = some (.inl (1, N, .inr (.inl f)))) (hi : ¬ (x < 0 ∨ N ≤ x.toNatClampNeg)) : sm_run X cal j (n + 1) (pc, lv, .int x :: .ref a :: st, σ, u) = sm_run X cal j n (pc + 1, lv, .long (f x.toNatClampNeg) :: st, σ, u) := sx_go hd (sd_rd rfl rfl rfl (by
  unfold sm_rd
  simp only [hc, if_true, if_neg hi]))
theorem Bod.lald {a N : Nat} {f : Nat → Int64} {x : Int32} (hd : decode (sm_cc j) pc = .ok (.laload, 1)) (hc : (mk S)[a]? = some (.inl (1, N, .inr (.inl f)))) (hi : ¬ (x < 0 ∨ N ≤ x.toNatClampNeg)) (h : Bod d j (pc + 1) lv (.long (f x.toNatClampNeg) :: st) S v Sf) : Bod d j pc lv (.int x :: .ref a :: st) S v Sf := Bod.of (fun _ _ => sx_lald hd hc hi) h
theorem sx_aald {X : Option (Nat × (Nat → Int32))} {cal : Nat → List Value → sm_H → Nat → Option sm_R} {n u : Nat} {σ : sm_H} {a N t : Nat} {f : Nat → Option Nat} {x : Int32} (hd : decode (sm_cc j) pc = .ok (.aaload, 1)) (hc : σ[a]? = some (.inl (t, N, .inr (.inr (.inr (.inr f)))))) (ht : 4 ≤ t ∧ t < mt_el.length) (hi : ¬ (x < 0 ∨ N ≤ x.toNatClampNeg)) : sm_run X cal j (n + 1) (pc, lv, .int x :: .ref a :: st, σ, u) = sm_run X cal j n (pc + 1, lv, va_rf (f x.toNatClampNeg) :: st, σ, u) := sx_go hd (sd_rd rfl rfl rfl (by
  unfold sm_rd
  simp only [hc, if_pos ht, if_neg hi]))
theorem Bod.aald {a N t : Nat} {f : Nat → Option Nat} {x : Int32} (hd : decode (sm_cc j) pc = .ok (.aaload, 1)) (hc : (mk S)[a]? = some (.inl (t, N, .inr (.inr (.inr (.inr f)))))) (ht : 4 ≤ t ∧ t < mt_el.length) (hi : ¬ (x < 0 ∨ N ≤ x.toNatClampNeg)) (h : Bod d j (pc + 1) lv (va_rf (f x.toNatClampNeg) :: st) S v Sf) : Bod d j pc lv (.int x :: .ref a :: st) S v Sf := Bod.of (fun _ _ => sx_aald hd hc ht hi) h
theorem Bod.iast {a N : Nat} {f : Nat → Int32} {x y : Int32} (hd : decode (sm_cc j) pc = .ok (.iastore, 1)) (hc : (mk S)[a]? = some (.inl (0, N, .inl f))) (hi : ¬ (x < 0 ∨ N ≤ x.toNatClampNeg)) (hs : (mk S).set a (.inl (0, N, .inl (upd f x.toNatClampNeg y))) = mk S1) (hu : mu S1 = mu S) (h : Bod d j (pc + 1) lv st S1 v Sf) : Bod d j pc lv (.int y :: .int x :: .ref a :: st) S v Sf := Bod.of (fun _ _ => (sx_iast hd hc hi).trans (by rw [hs, hu])) h
theorem sx_last {X : Option (Nat × (Nat → Int32))} {cal : Nat → List Value → sm_H → Nat → Option sm_R} {n u : Nat} {σ : sm_H} {a N : Nat} {f : Nat → Int64} {x : Int32} {y : Int64} (hd : decode (sm_cc j) pc = .ok (.lastore, 1)) (hc : σ[a]? = some (.inl (1, N, .inr (.inl f)))) (hi : ¬ (x < 0 ∨ N ≤ x.toNatClampNeg)) : sm_run X cal j (n + 1) (pc, lv, .long y :: .int x :: .ref a :: st, σ, u) = sm_run X cal j n (pc + 1, lv, st, σ.set a (.inl (1, N, .inr (.inl (vp_updL f x.toNatClampNeg y)))), u) := sx_go hd (sd_wr rfl rfl rfl rfl (by
  unfold sm_wr
  simp only [hc, if_true, if_neg hi]))
theorem Bod.last {a N : Nat} {f : Nat → Int64} {x : Int32} {y : Int64} (hd : decode (sm_cc j) pc = .ok (.lastore, 1)) (hc : (mk S)[a]? = some (.inl (1, N, .inr (.inl f)))) (hi : ¬ (x < 0 ∨ N ≤ x.toNatClampNeg)) (hs : (mk S).set a (.inl (1, N, .inr (.inl (vp_updL f x.toNatClampNeg y)))) = mk S1) (hu : mu S1 = mu S) (h : Bod d j (pc + 1) lv st S1 v Sf) : Bod d j pc lv (.long y :: .int x :: .ref a :: st) S v Sf := Bod.of (fun _ _ => (sx_last hd hc hi).trans (by rw [hs, hu])) h
theorem sx_bast {X : Option (Nat × (Nat → Int32))} {cal : Nat → List Value → sm_H → Nat → Option sm_R} {n u : Nat} {σ : sm_H} {a N : Nat} {f : Nat → Int32} {x y : Int32} (hd : decode (sm_cc j) pc = .ok (.bastore, 1)) (hc : σ[a]? = some (.inl (2, N, .inl f))) (hi : ¬ (x < 0 ∨ N ≤ x.toNatClampNeg)) : sm_run X cal j (n + 1) (pc, lv, .int y :: .int x :: .ref a :: st, σ, u) = sm_run X cal j n (pc + 1, lv, st, σ.set a (.inl (2, N, .inl (upd f x.toNatClampNeg (vp_nar .byte y)))), u) := sx_go hd (sd_wr rfl rfl rfl rfl (by
  unfold sm_wr
  simp only [hc, if_true, if_neg hi]))
theorem Bod.bast {a N : Nat} {f : Nat → Int32} {x y : Int32} (hd : decode (sm_cc j) pc = .ok (.bastore, 1)) (hc : (mk S)[a]? = some (.inl (2, N, .inl f))) (hi : ¬ (x < 0 ∨ N ≤ x.toNatClampNeg)) (hs : (mk S).set a (.inl (2, N, .inl (upd f x.toNatClampNeg (vp_nar .byte y)))) = mk S1) (hu : mu S1 = mu S) (h : Bod d j (pc + 1) lv st S1 v Sf) : Bod d j pc lv (.int y :: .int x :: .ref a :: st) S v Sf := Bod.of (fun _ _ => (sx_bast hd hc hi).trans (by rw [hs, hu])) h
theorem Bod.alen {a t : Nat} {x : vp_A} (hd : decode (sm_cc j) pc = .ok (.arraylength, 1)) (hc : (mk S)[a]? = some (.inl (t, x))) (ht : t < mt_el.length) (h : Bod d j (pc + 1) lv (.int (Int32.ofNat x.1) :: st) S v Sf) : Bod d j pc lv (.ref a :: st) S v Sf := Bod.of (fun _ _ => sx_alen hd hc ht) h
theorem Bod.istn {q : Fin 4} {x : Int32} (hd : decode (sm_cc j) pc = .ok (.istore_n q, 1)) (hl : (q : Nat) < sm_ml j) (h : Bod d j (pc + 1) (sm_p1 lv q (.int x)) st S v Sf) : Bod d j pc lv (.int x :: st) S v Sf := Bod.of (fun _ _ => sx_istore_n hd hl) h
theorem Bod.ist {q : Nat} {x : Int32} (hd : decode (sm_cc j) pc = .ok (.istore q, 2)) (hl : q < sm_ml j) (h : Bod d j (pc + 2) (sm_p1 lv q (.int x)) st S v Sf) : Bod d j pc lv (.int x :: st) S v Sf := Bod.of (fun _ _ => sx_go hd (sd_loc rfl (if_pos hl))) h
theorem Bod.lstn {q : Fin 4} {x : Int64} (hd : decode (sm_cc j) pc = .ok (.lstore_n q, 1)) (hl : (q : Nat) + 1 < sm_ml j) (h : Bod d j (pc + 1) (sm_p2 lv q (.long x)) st S v Sf) : Bod d j pc lv (.long x :: st) S v Sf := Bod.of (fun _ _ => sx_go hd (sd_loc rfl (if_pos hl))) h
theorem Bod.lst {q : Nat} {x : Int64} (hd : decode (sm_cc j) pc = .ok (.lstore q, 2)) (hl : q + 1 < sm_ml j) (h : Bod d j (pc + 2) (sm_p2 lv q (.long x)) st S v Sf) : Bod d j pc lv (.long x :: st) S v Sf := Bod.of (fun _ _ => sx_go hd (sd_loc rfl (if_pos hl))) h
theorem Bod.astn {q : Fin 4} {x : Nat} (hd : decode (sm_cc j) pc = .ok (.astore_n q, 1)) (hl : (q : Nat) < sm_ml j) (h : Bod d j (pc + 1) (sm_p1 lv q (.ref x)) st S v Sf) : Bod d j pc lv (.ref x :: st) S v Sf := Bod.of (fun _ _ => sx_astore_n hd hl) h
theorem Bod.ast {q : Nat} {x : Nat} (hd : decode (sm_cc j) pc = .ok (.astore q, 2)) (hl : q < sm_ml j) (h : Bod d j (pc + 2) (sm_p1 lv q (.ref x)) st S v Sf) : Bod d j pc lv (.ref x :: st) S v Sf := Bod.of (fun _ _ => sx_go hd (sd_loc rfl (if_pos hl))) h
theorem Bod.inc {q : Nat} {c : Int} {x : Int32} (hd : decode (sm_cc j) pc = .ok (.iinc q c, 3)) (hl : q < sm_ml j) (hg : sm_get lv q = some (.int x)) (h : Bod d j (pc + 3) (sm_p1 lv q (.int (x + Int32.ofInt c))) st S v Sf) : Bod d j pc lv st S v Sf := Bod.of (fun _ _ => sx_iinc hd hl hg) h
theorem Bod.ldc2 {q k1 w : Nat} {x : Int64} (hd : decode (sm_cc j) pc = .ok (.ldc2_w q, 3)) (hk : sm_at mt_cj (sm_ow j) q = some (k1, x, w)) (h : Bod d j (pc + 3) lv (.long x :: st) S v Sf) : Bod d j pc lv st S v Sf := Bod.of (fun _ _ => sx_ldc2 hd hk) h
theorem sx_ldc {X : Option (Nat × (Nat → Int32))} {cal : Nat → List Value → sm_H → Nat → Option sm_R} {n u : Nat} {σ : sm_H} {q k1 w : Nat} {x : Int32} (hd : decode (sm_cc j) pc = .ok (.ldc q, 2)) (hk : sm_at mt_ci (sm_ow j) q = some (k1, x, w)) : sm_run X cal j (n + 1) (pc, lv, st, σ, u) = sm_run X cal j n (pc + 2, lv, .int x :: st, σ, u) := sx_go hd (sd_rd rfl rfl rfl (by
  unfold sm_rd
  simp only [hk]))
theorem Bod.ldc {q k1 w : Nat} {x : Int32} (hd : decode (sm_cc j) pc = .ok (.ldc q, 2)) (hk : sm_at mt_ci (sm_ow j) q = some (k1, x, w)) (h : Bod d j (pc + 2) lv (.int x :: st) S v Sf) : Bod d j pc lv st S v Sf := Bod.of (fun _ _ => sx_ldc hd hk) h
/-- a call: what it answers, then on -/
theorem Bod.call {j1 : Nat} {as : List Value} {x : Option Value} (hs : ∀ cal n R, cal j1 as (mk S) (mu S) = some R → sm_run none cal j (n + 1) (pc, lv, st, mk S, mu S) = sm_run none cal j n (pc1, lv, R.1.toList ++ r, R.2.1, R.2.2)) (hA : Ans d j1 as S x S1) (h : Bod d j pc1 lv (x.toList ++ r) S1 v Sf) : Bod d j pc lv st S v Sf := by
  obtain ⟨k, h⟩ := h
  obtain ⟨k1, hA⟩ := hA
  refine ⟨k + k1 + 1, fun n m hn hm => ?_⟩
  obtain ⟨n1, rfl⟩ : ∃ n1, n = n1 + 1 := ⟨n - 1, by omega⟩
  exact (hs _ n1 _ (hA m (by omega))).trans (h n1 m (by omega) (by omega))
theorem Bod.virt {q k1 kd j1 a c : Nat} {w : Nat × Nat} {x : Option Value} {as : List Value} (hd : decode (sm_cc j) pc = .ok (.invokevirtual q, 3)) (hk : sm_at mt_k (sm_ow j) q = some (k1, kd, j1, w)) (hn : (kd = 0 ∨ kd = 1) ∧ c = sm_ow j1 ∧ c < mt_cl.length) (ha : st.drop (sm_np j1) = .ref a :: r) (has : .ref a :: (st.take (sm_np j1)).reverse = as) (hc : sx_ob (mk S) a = some c) (hr : (r.map fun v => v.category).sum ≤ 8) (hA : Ans d j1 as S x S1) (h : Bod d j (pc + 3) lv (x.toList ++ r) S1 v Sf) : Bod d j pc lv st S v Sf :=
  Bod.call (j1 := j1) (as := as) (fun cal n R hR => sx_virt hd hk hn ha hc hr (by rw [has]; exact hR)) hA h
theorem Bod.stat {q k1 kd j1 : Nat} {w : Nat × Nat} {x : Option Value} {as : List Value} (hd : decode (sm_cc j) pc = .ok (.invokestatic q, 3)) (hk : sm_at mt_k (sm_ow j) q = some (k1, kd, j1, w)) (hn : kd = 2 ∨ kd = 3) (ha : st.drop (sm_np j1) = r) (has : (st.take (sm_np j1)).reverse = as) (hl : sm_np j1 ≤ st.length) (hr : (r.map fun v => v.category).sum ≤ 8) (hA : Ans d j1 as S x S1) (h : Bod d j (pc + 3) lv (x.toList ++ r) S1 v Sf) : Bod d j pc lv st S v Sf := by
  subst ha
  exact Bod.call (j1 := j1) (as := as) (fun cal n R hR => sx_stat hd hk hn hl hr (by rw [has]; exact hR)) hA h
theorem pf_11_7 {x : Int32} : 7 < (sm_T 11).2.2 ∧ sm_fit (sm_ty 11 7) (.int x) = true ∧ ((sm_T 11).2.1 7).2.2.2 = false := by
  have h : 7 < (sm_T 11).2.2 ∧ sm_ty 11 7 = .int ∧ ((sm_T 11).2.1 7).2.2.2 = false := by decide +kernel
  refine ⟨h.1, ?_, h.2.2⟩
  rw [h.2.1]
  rfl
theorem pf_11_8 {x : Int32} : 8 < (sm_T 11).2.2 ∧ sm_fit (sm_ty 11 8) (.int x) = true ∧ ((sm_T 11).2.1 8).2.2.2 = false := by
  have h : 8 < (sm_T 11).2.2 ∧ sm_ty 11 8 = .int ∧ ((sm_T 11).2.1 8).2.2.2 = false := by decide +kernel
  refine ⟨h.1, ?_, h.2.2⟩
  rw [h.2.1]
  rfl
theorem pf_2_13 {x : Int32} : 13 < (sm_T 2).2.2 ∧ sm_fit (sm_ty 2 13) (.int x) = true ∧ ((sm_T 2).2.1 13).2.2.2 = false := by
  have h : 13 < (sm_T 2).2.2 ∧ sm_ty 2 13 = .int ∧ ((sm_T 2).2.1 13).2.2.2 = false := by decide +kernel
  refine ⟨h.1, ?_, h.2.2⟩
  rw [h.2.1]
  rfl
theorem pf_2_14 {x : Int32} : 14 < (sm_T 2).2.2 ∧ sm_fit (sm_ty 2 14) (.int x) = true ∧ ((sm_T 2).2.1 14).2.2.2 = false := by
  have h : 14 < (sm_T 2).2.2 ∧ sm_ty 2 14 = .int ∧ ((sm_T 2).2.1 14).2.2.2 = false := by decide +kernel
  refine ⟨h.1, ?_, h.2.2⟩
  rw [h.2.1]
  rfl
theorem pf_2_15 {x : Int32} : 15 < (sm_T 2).2.2 ∧ sm_fit (sm_ty 2 15) (.int x) = true ∧ ((sm_T 2).2.1 15).2.2.2 = false := by
  have h : 15 < (sm_T 2).2.2 ∧ sm_ty 2 15 = .int ∧ ((sm_T 2).2.1 15).2.2.2 = false := by decide +kernel
  refine ⟨h.1, ?_, h.2.2⟩
  rw [h.2.1]
  rfl
theorem pf_2_16 {x : Int32} : 16 < (sm_T 2).2.2 ∧ sm_fit (sm_ty 2 16) (.int x) = true ∧ ((sm_T 2).2.1 16).2.2.2 = false := by
  have h : 16 < (sm_T 2).2.2 ∧ sm_ty 2 16 = .int ∧ ((sm_T 2).2.1 16).2.2.2 = false := by decide +kernel
  refine ⟨h.1, ?_, h.2.2⟩
  rw [h.2.1]
  rfl
theorem pf_5_7 {x : Int32} : 7 < (sm_T 5).2.2 ∧ sm_fit (sm_ty 5 7) (.int x) = true ∧ ((sm_T 5).2.1 7).2.2.2 = false := by
  have h : 7 < (sm_T 5).2.2 ∧ sm_ty 5 7 = .int ∧ ((sm_T 5).2.1 7).2.2.2 = false := by decide +kernel
  refine ⟨h.1, ?_, h.2.2⟩
  rw [h.2.1]
  rfl
theorem pf_5_8 {x : Int32} : 8 < (sm_T 5).2.2 ∧ sm_fit (sm_ty 5 8) (.int x) = true ∧ ((sm_T 5).2.1 8).2.2.2 = false := by
  have h : 8 < (sm_T 5).2.2 ∧ sm_ty 5 8 = .int ∧ ((sm_T 5).2.1 8).2.2.2 = false := by decide +kernel
  refine ⟨h.1, ?_, h.2.2⟩
  rw [h.2.1]
  rfl
theorem pf_7_7 {x : Int32} : 7 < (sm_T 7).2.2 ∧ sm_fit (sm_ty 7 7) (.int x) = true ∧ ((sm_T 7).2.1 7).2.2.2 = false := by
  have h : 7 < (sm_T 7).2.2 ∧ sm_ty 7 7 = .int ∧ ((sm_T 7).2.1 7).2.2.2 = false := by decide +kernel
  refine ⟨h.1, ?_, h.2.2⟩
  rw [h.2.1]
  rfl
theorem pf_7_8 {x : Int32} : 8 < (sm_T 7).2.2 ∧ sm_fit (sm_ty 7 8) (.int x) = true ∧ ((sm_T 7).2.1 8).2.2.2 = false := by
  have h : 8 < (sm_T 7).2.2 ∧ sm_ty 7 8 = .int ∧ ((sm_T 7).2.1 8).2.2.2 = false := by decide +kernel
  refine ⟨h.1, ?_, h.2.2⟩
  rw [h.2.1]
  rfl
theorem pf_7_9 {x : Int32} : 9 < (sm_T 7).2.2 ∧ sm_fit (sm_ty 7 9) (.int x) = true ∧ ((sm_T 7).2.1 9).2.2.2 = false := by
  have h : 9 < (sm_T 7).2.2 ∧ sm_ty 7 9 = .int ∧ ((sm_T 7).2.1 9).2.2.2 = false := by decide +kernel
  refine ⟨h.1, ?_, h.2.2⟩
  rw [h.2.1]
  rfl
theorem pf_7_10 {x : Int32} (hx : x = 0 ∨ x = 1) : 10 < (sm_T 7).2.2 ∧ sm_fit (sm_ty 7 10) (.int x) = true ∧ ((sm_T 7).2.1 10).2.2.2 = false := by
  have h : 10 < (sm_T 7).2.2 ∧ sm_ty 7 10 = .boolean ∧ ((sm_T 7).2.1 10).2.2.2 = false := by decide +kernel
  refine ⟨h.1, ?_, h.2.2⟩
  rw [h.2.1]
  rcases hx with rfl | rfl <;> rfl
theorem pf_3_2 {x : Int32} : 2 < (sm_T 3).2.2 ∧ sm_fit (sm_ty 3 2) (.int x) = true ∧ ((sm_T 3).2.1 2).2.2.2 = false := by
  have h : 2 < (sm_T 3).2.2 ∧ sm_ty 3 2 = .int ∧ ((sm_T 3).2.1 2).2.2.2 = false := by decide +kernel
  refine ⟨h.1, ?_, h.2.2⟩
  rw [h.2.1]
  rfl
theorem pf_3_3 {x : Int32} : 3 < (sm_T 3).2.2 ∧ sm_fit (sm_ty 3 3) (.int x) = true ∧ ((sm_T 3).2.1 3).2.2.2 = false := by
  have h : 3 < (sm_T 3).2.2 ∧ sm_ty 3 3 = .int ∧ ((sm_T 3).2.1 3).2.2.2 = false := by decide +kernel
  refine ⟨h.1, ?_, h.2.2⟩
  rw [h.2.1]
  rfl
theorem pf_3_4 {x : Int32} : 4 < (sm_T 3).2.2 ∧ sm_fit (sm_ty 3 4) (.int x) = true ∧ ((sm_T 3).2.1 4).2.2.2 = false := by
  have h : 4 < (sm_T 3).2.2 ∧ sm_ty 3 4 = .int ∧ ((sm_T 3).2.1 4).2.2.2 = false := by decide +kernel
  refine ⟨h.1, ?_, h.2.2⟩
  rw [h.2.1]
  rfl
theorem pf_3_5 {x : Int32} : 5 < (sm_T 3).2.2 ∧ sm_fit (sm_ty 3 5) (.int x) = true ∧ ((sm_T 3).2.1 5).2.2.2 = false := by
  have h : 5 < (sm_T 3).2.2 ∧ sm_ty 3 5 = .int ∧ ((sm_T 3).2.1 5).2.2.2 = false := by decide +kernel
  refine ⟨h.1, ?_, h.2.2⟩
  rw [h.2.1]
  rfl
theorem pf_3_6 {x : Int32} : 6 < (sm_T 3).2.2 ∧ sm_fit (sm_ty 3 6) (.int x) = true ∧ ((sm_T 3).2.1 6).2.2.2 = false := by
  have h : 6 < (sm_T 3).2.2 ∧ sm_ty 3 6 = .int ∧ ((sm_T 3).2.1 6).2.2.2 = false := by decide +kernel
  refine ⟨h.1, ?_, h.2.2⟩
  rw [h.2.1]
  rfl
theorem pf_3_7 {x : Int32} : 7 < (sm_T 3).2.2 ∧ sm_fit (sm_ty 3 7) (.int x) = true ∧ ((sm_T 3).2.1 7).2.2.2 = false := by
  have h : 7 < (sm_T 3).2.2 ∧ sm_ty 3 7 = .int ∧ ((sm_T 3).2.1 7).2.2.2 = false := by decide +kernel
  refine ⟨h.1, ?_, h.2.2⟩
  rw [h.2.1]
  rfl
theorem pf_3_8 {x : Int32} : 8 < (sm_T 3).2.2 ∧ sm_fit (sm_ty 3 8) (.int x) = true ∧ ((sm_T 3).2.1 8).2.2.2 = false := by
  have h : 8 < (sm_T 3).2.2 ∧ sm_ty 3 8 = .int ∧ ((sm_T 3).2.1 8).2.2.2 = false := by decide +kernel
  refine ⟨h.1, ?_, h.2.2⟩
  rw [h.2.1]
  rfl
theorem pf_3_9 {x : Int32} : 9 < (sm_T 3).2.2 ∧ sm_fit (sm_ty 3 9) (.int x) = true ∧ ((sm_T 3).2.1 9).2.2.2 = false := by
  have h : 9 < (sm_T 3).2.2 ∧ sm_ty 3 9 = .int ∧ ((sm_T 3).2.1 9).2.2.2 = false := by decide +kernel
  refine ⟨h.1, ?_, h.2.2⟩
  rw [h.2.1]
  rfl
theorem pf_3_13 {x : Int32} : 13 < (sm_T 3).2.2 ∧ sm_fit (sm_ty 3 13) (.int x) = true ∧ ((sm_T 3).2.1 13).2.2.2 = false := by
  have h : 13 < (sm_T 3).2.2 ∧ sm_ty 3 13 = .int ∧ ((sm_T 3).2.1 13).2.2.2 = false := by decide +kernel
  refine ⟨h.1, ?_, h.2.2⟩
  rw [h.2.1]
  rfl
theorem pf_8_11 {x : Int32} : 11 < (sm_T 8).2.2 ∧ sm_fit (sm_ty 8 11) (.int x) = true ∧ ((sm_T 8).2.1 11).2.2.2 = false := by
  have h : 11 < (sm_T 8).2.2 ∧ sm_ty 8 11 = .int ∧ ((sm_T 8).2.1 11).2.2.2 = false := by decide +kernel
  refine ⟨h.1, ?_, h.2.2⟩
  rw [h.2.1]
  rfl
theorem pf_8_12 {x : Int32} : 12 < (sm_T 8).2.2 ∧ sm_fit (sm_ty 8 12) (.int x) = true ∧ ((sm_T 8).2.1 12).2.2.2 = false := by
  have h : 12 < (sm_T 8).2.2 ∧ sm_ty 8 12 = .int ∧ ((sm_T 8).2.1 12).2.2.2 = false := by decide +kernel
  refine ⟨h.1, ?_, h.2.2⟩
  rw [h.2.1]
  rfl
theorem pf_8_13 {x : Int32} : 13 < (sm_T 8).2.2 ∧ sm_fit (sm_ty 8 13) (.int x) = true ∧ ((sm_T 8).2.1 13).2.2.2 = false := by
  have h : 13 < (sm_T 8).2.2 ∧ sm_ty 8 13 = .int ∧ ((sm_T 8).2.1 13).2.2.2 = false := by decide +kernel
  refine ⟨h.1, ?_, h.2.2⟩
  rw [h.2.1]
  rfl
theorem pf_8_14 {x : Int32} : 14 < (sm_T 8).2.2 ∧ sm_fit (sm_ty 8 14) (.int x) = true ∧ ((sm_T 8).2.1 14).2.2.2 = false := by
  have h : 14 < (sm_T 8).2.2 ∧ sm_ty 8 14 = .int ∧ ((sm_T 8).2.1 14).2.2.2 = false := by decide +kernel
  refine ⟨h.1, ?_, h.2.2⟩
  rw [h.2.1]
  rfl
theorem pf_10_5 {x : Int32} : 5 < (sm_T 10).2.2 ∧ sm_fit (sm_ty 10 5) (.int x) = true ∧ ((sm_T 10).2.1 5).2.2.2 = false := by
  have h : 5 < (sm_T 10).2.2 ∧ sm_ty 10 5 = .int ∧ ((sm_T 10).2.1 5).2.2.2 = false := by decide +kernel
  refine ⟨h.1, ?_, h.2.2⟩
  rw [h.2.1]
  rfl
theorem pf_10_6 {x : Int32} : 6 < (sm_T 10).2.2 ∧ sm_fit (sm_ty 10 6) (.int x) = true ∧ ((sm_T 10).2.1 6).2.2.2 = false := by
  have h : 6 < (sm_T 10).2.2 ∧ sm_ty 10 6 = .int ∧ ((sm_T 10).2.1 6).2.2.2 = false := by decide +kernel
  refine ⟨h.1, ?_, h.2.2⟩
  rw [h.2.1]
  rfl
theorem pf_10_7 {x : Int32} : 7 < (sm_T 10).2.2 ∧ sm_fit (sm_ty 10 7) (.int x) = true ∧ ((sm_T 10).2.1 7).2.2.2 = false := by
  have h : 7 < (sm_T 10).2.2 ∧ sm_ty 10 7 = .int ∧ ((sm_T 10).2.1 7).2.2.2 = false := by decide +kernel
  refine ⟨h.1, ?_, h.2.2⟩
  rw [h.2.1]
  rfl
theorem pf_10_8 {x : Int32} : 8 < (sm_T 10).2.2 ∧ sm_fit (sm_ty 10 8) (.int x) = true ∧ ((sm_T 10).2.1 8).2.2.2 = false := by
  have h : 8 < (sm_T 10).2.2 ∧ sm_ty 10 8 = .int ∧ ((sm_T 10).2.1 8).2.2.2 = false := by decide +kernel
  refine ⟨h.1, ?_, h.2.2⟩
  rw [h.2.1]
  rfl
theorem pf_10_9 {x : Int32} : 9 < (sm_T 10).2.2 ∧ sm_fit (sm_ty 10 9) (.int x) = true ∧ ((sm_T 10).2.1 9).2.2.2 = false := by
  have h : 9 < (sm_T 10).2.2 ∧ sm_ty 10 9 = .int ∧ ((sm_T 10).2.1 9).2.2.2 = false := by decide +kernel
  refine ⟨h.1, ?_, h.2.2⟩
  rw [h.2.1]
  rfl
theorem pf_10_10 {x : Int32} : 10 < (sm_T 10).2.2 ∧ sm_fit (sm_ty 10 10) (.int x) = true ∧ ((sm_T 10).2.1 10).2.2.2 = false := by
  have h : 10 < (sm_T 10).2.2 ∧ sm_ty 10 10 = .int ∧ ((sm_T 10).2.1 10).2.2.2 = false := by decide +kernel
  refine ⟨h.1, ?_, h.2.2⟩
  rw [h.2.1]
  rfl
theorem pf_10_11 {x : Int32} : 11 < (sm_T 10).2.2 ∧ sm_fit (sm_ty 10 11) (.int x) = true ∧ ((sm_T 10).2.1 11).2.2.2 = false := by
  have h : 11 < (sm_T 10).2.2 ∧ sm_ty 10 11 = .int ∧ ((sm_T 10).2.1 11).2.2.2 = false := by decide +kernel
  refine ⟨h.1, ?_, h.2.2⟩
  rw [h.2.1]
  rfl
theorem pf_1_3 {x : Int32} : 3 < (sm_T 1).2.2 ∧ sm_fit (sm_ty 1 3) (.int x) = true ∧ ((sm_T 1).2.1 3).2.2.2 = false := by
  have h : 3 < (sm_T 1).2.2 ∧ sm_ty 1 3 = .int ∧ ((sm_T 1).2.1 3).2.2.2 = false := by decide +kernel
  refine ⟨h.1, ?_, h.2.2⟩
  rw [h.2.1]
  rfl
theorem pf_1_4 {x : Int32} : 4 < (sm_T 1).2.2 ∧ sm_fit (sm_ty 1 4) (.int x) = true ∧ ((sm_T 1).2.1 4).2.2.2 = false := by
  have h : 4 < (sm_T 1).2.2 ∧ sm_ty 1 4 = .int ∧ ((sm_T 1).2.1 4).2.2.2 = false := by decide +kernel
  refine ⟨h.1, ?_, h.2.2⟩
  rw [h.2.1]
  rfl
theorem pf_9_3 {x : Int32} : 3 < (sm_T 9).2.2 ∧ sm_fit (sm_ty 9 3) (.int x) = true ∧ ((sm_T 9).2.1 3).2.2.2 = false := by
  have h : 3 < (sm_T 9).2.2 ∧ sm_ty 9 3 = .int ∧ ((sm_T 9).2.1 3).2.2.2 = false := by decide +kernel
  refine ⟨h.1, ?_, h.2.2⟩
  rw [h.2.1]
  rfl
theorem pf_0_6 {x : Int32} : 6 < (sm_T 0).2.2 ∧ sm_fit (sm_ty 0 6) (.int x) = true ∧ ((sm_T 0).2.1 6).2.2.2 = false := by
  have h : 6 < (sm_T 0).2.2 ∧ sm_ty 0 6 = .int ∧ ((sm_T 0).2.1 6).2.2.2 = false := by decide +kernel
  refine ⟨h.1, ?_, h.2.2⟩
  rw [h.2.1]
  rfl
theorem pf_0_7 {x : Int32} : 7 < (sm_T 0).2.2 ∧ sm_fit (sm_ty 0 7) (.int x) = true ∧ ((sm_T 0).2.1 7).2.2.2 = false := by
  have h : 7 < (sm_T 0).2.2 ∧ sm_ty 0 7 = .int ∧ ((sm_T 0).2.1 7).2.2.2 = false := by decide +kernel
  refine ⟨h.1, ?_, h.2.2⟩
  rw [h.2.1]
  rfl
theorem pf_4_13 {x : Int32} : 13 < (sm_T 4).2.2 ∧ sm_fit (sm_ty 4 13) (.int x) = true ∧ ((sm_T 4).2.1 13).2.2.2 = false := by
  have h : 13 < (sm_T 4).2.2 ∧ sm_ty 4 13 = .int ∧ ((sm_T 4).2.1 13).2.2.2 = false := by decide +kernel
  refine ⟨h.1, ?_, h.2.2⟩
  rw [h.2.1]
  rfl
theorem pf_4_14 {x : Int32} : 14 < (sm_T 4).2.2 ∧ sm_fit (sm_ty 4 14) (.int x) = true ∧ ((sm_T 4).2.1 14).2.2.2 = false := by
  have h : 14 < (sm_T 4).2.2 ∧ sm_ty 4 14 = .int ∧ ((sm_T 4).2.1 14).2.2.2 = false := by decide +kernel
  refine ⟨h.1, ?_, h.2.2⟩
  rw [h.2.1]
  rfl
theorem pf_4_15 {x : Int32} : 15 < (sm_T 4).2.2 ∧ sm_fit (sm_ty 4 15) (.int x) = true ∧ ((sm_T 4).2.1 15).2.2.2 = false := by
  have h : 15 < (sm_T 4).2.2 ∧ sm_ty 4 15 = .int ∧ ((sm_T 4).2.1 15).2.2.2 = false := by decide +kernel
  refine ⟨h.1, ?_, h.2.2⟩
  rw [h.2.1]
  rfl
theorem pf_4_16 {x : Int32} : 16 < (sm_T 4).2.2 ∧ sm_fit (sm_ty 4 16) (.int x) = true ∧ ((sm_T 4).2.1 16).2.2.2 = false := by
  have h : 16 < (sm_T 4).2.2 ∧ sm_ty 4 16 = .int ∧ ((sm_T 4).2.1 16).2.2.2 = false := by decide +kernel
  refine ⟨h.1, ?_, h.2.2⟩
  rw [h.2.1]
  rfl
theorem pf_4_17 {x : Int32} : 17 < (sm_T 4).2.2 ∧ sm_fit (sm_ty 4 17) (.int x) = true ∧ ((sm_T 4).2.1 17).2.2.2 = false := by
  have h : 17 < (sm_T 4).2.2 ∧ sm_ty 4 17 = .int ∧ ((sm_T 4).2.1 17).2.2.2 = false := by decide +kernel
  refine ⟨h.1, ?_, h.2.2⟩
  rw [h.2.1]
  rfl
theorem pf_4_18 {x : Int32} : 18 < (sm_T 4).2.2 ∧ sm_fit (sm_ty 4 18) (.int x) = true ∧ ((sm_T 4).2.1 18).2.2.2 = false := by
  have h : 18 < (sm_T 4).2.2 ∧ sm_ty 4 18 = .int ∧ ((sm_T 4).2.1 18).2.2.2 = false := by decide +kernel
  refine ⟨h.1, ?_, h.2.2⟩
  rw [h.2.1]
  rfl
theorem pf_4_19 {x : Int32} : 19 < (sm_T 4).2.2 ∧ sm_fit (sm_ty 4 19) (.int x) = true ∧ ((sm_T 4).2.1 19).2.2.2 = false := by
  have h : 19 < (sm_T 4).2.2 ∧ sm_ty 4 19 = .int ∧ ((sm_T 4).2.1 19).2.2.2 = false := by decide +kernel
  refine ⟨h.1, ?_, h.2.2⟩
  rw [h.2.1]
  rfl
theorem pf_14_2 {x : Int32} : 2 < (sm_T 14).2.2 ∧ sm_fit (sm_ty 14 2) (.int x) = true ∧ ((sm_T 14).2.1 2).2.2.2 = false := by
  have h : 2 < (sm_T 14).2.2 ∧ sm_ty 14 2 = .int ∧ ((sm_T 14).2.1 2).2.2.2 = false := by decide +kernel
  refine ⟨h.1, ?_, h.2.2⟩
  rw [h.2.1]
  rfl
theorem pf_14_12 {x : Int32} : 12 < (sm_T 14).2.2 ∧ sm_fit (sm_ty 14 12) (.int x) = true ∧ ((sm_T 14).2.1 12).2.2.2 = false := by
  have h : 12 < (sm_T 14).2.2 ∧ sm_ty 14 12 = .int ∧ ((sm_T 14).2.1 12).2.2.2 = false := by decide +kernel
  refine ⟨h.1, ?_, h.2.2⟩
  rw [h.2.1]
  rfl
theorem pf_14_13 {x : Int32} : 13 < (sm_T 14).2.2 ∧ sm_fit (sm_ty 14 13) (.int x) = true ∧ ((sm_T 14).2.1 13).2.2.2 = false := by
  have h : 13 < (sm_T 14).2.2 ∧ sm_ty 14 13 = .int ∧ ((sm_T 14).2.1 13).2.2.2 = false := by decide +kernel
  refine ⟨h.1, ?_, h.2.2⟩
  rw [h.2.1]
  rfl
theorem pf_14_15 {x : Int32} : 15 < (sm_T 14).2.2 ∧ sm_fit (sm_ty 14 15) (.int x) = true ∧ ((sm_T 14).2.1 15).2.2.2 = false := by
  have h : 15 < (sm_T 14).2.2 ∧ sm_ty 14 15 = .int ∧ ((sm_T 14).2.1 15).2.2.2 = false := by decide +kernel
  refine ⟨h.1, ?_, h.2.2⟩
  rw [h.2.1]
  rfl
theorem pf_14_16 {x : Int32} : 16 < (sm_T 14).2.2 ∧ sm_fit (sm_ty 14 16) (.int x) = true ∧ ((sm_T 14).2.1 16).2.2.2 = false := by
  have h : 16 < (sm_T 14).2.2 ∧ sm_ty 14 16 = .int ∧ ((sm_T 14).2.1 16).2.2.2 = false := by decide +kernel
  refine ⟨h.1, ?_, h.2.2⟩
  rw [h.2.1]
  rfl
theorem pf_14_17 {x : Int32} : 17 < (sm_T 14).2.2 ∧ sm_fit (sm_ty 14 17) (.int x) = true ∧ ((sm_T 14).2.1 17).2.2.2 = false := by
  have h : 17 < (sm_T 14).2.2 ∧ sm_ty 14 17 = .int ∧ ((sm_T 14).2.1 17).2.2.2 = false := by decide +kernel
  refine ⟨h.1, ?_, h.2.2⟩
  rw [h.2.1]
  rfl
theorem pf_14_22 {x : Int32} : 22 < (sm_T 14).2.2 ∧ sm_fit (sm_ty 14 22) (.int x) = true ∧ ((sm_T 14).2.1 22).2.2.2 = false := by
  have h : 22 < (sm_T 14).2.2 ∧ sm_ty 14 22 = .int ∧ ((sm_T 14).2.1 22).2.2.2 = false := by decide +kernel
  refine ⟨h.1, ?_, h.2.2⟩
  rw [h.2.1]
  rfl
theorem pf_14_23 {x : Int32} : 23 < (sm_T 14).2.2 ∧ sm_fit (sm_ty 14 23) (.int x) = true ∧ ((sm_T 14).2.1 23).2.2.2 = false := by
  have h : 23 < (sm_T 14).2.2 ∧ sm_ty 14 23 = .int ∧ ((sm_T 14).2.1 23).2.2.2 = false := by decide +kernel
  refine ⟨h.1, ?_, h.2.2⟩
  rw [h.2.1]
  rfl
theorem pf_14_26 {x : Int32} : 26 < (sm_T 14).2.2 ∧ sm_fit (sm_ty 14 26) (.int x) = true ∧ ((sm_T 14).2.1 26).2.2.2 = false := by
  have h : 26 < (sm_T 14).2.2 ∧ sm_ty 14 26 = .int ∧ ((sm_T 14).2.1 26).2.2.2 = false := by decide +kernel
  refine ⟨h.1, ?_, h.2.2⟩
  rw [h.2.1]
  rfl
theorem pf_14_27 {x : Int32} : 27 < (sm_T 14).2.2 ∧ sm_fit (sm_ty 14 27) (.int x) = true ∧ ((sm_T 14).2.1 27).2.2.2 = false := by
  have h : 27 < (sm_T 14).2.2 ∧ sm_ty 14 27 = .int ∧ ((sm_T 14).2.1 27).2.2.2 = false := by decide +kernel
  refine ⟨h.1, ?_, h.2.2⟩
  rw [h.2.1]
  rfl
theorem pf_14_30 {x : Int32} : 30 < (sm_T 14).2.2 ∧ sm_fit (sm_ty 14 30) (.int x) = true ∧ ((sm_T 14).2.1 30).2.2.2 = false := by
  have h : 30 < (sm_T 14).2.2 ∧ sm_ty 14 30 = .int ∧ ((sm_T 14).2.1 30).2.2.2 = false := by decide +kernel
  refine ⟨h.1, ?_, h.2.2⟩
  rw [h.2.1]
  rfl
theorem pf_14_31 {x : Int32} : 31 < (sm_T 14).2.2 ∧ sm_fit (sm_ty 14 31) (.int x) = true ∧ ((sm_T 14).2.1 31).2.2.2 = false := by
  have h : 31 < (sm_T 14).2.2 ∧ sm_ty 14 31 = .int ∧ ((sm_T 14).2.1 31).2.2.2 = false := by decide +kernel
  refine ⟨h.1, ?_, h.2.2⟩
  rw [h.2.1]
  rfl
theorem pf_14_32 {x : Int32} : 32 < (sm_T 14).2.2 ∧ sm_fit (sm_ty 14 32) (.int x) = true ∧ ((sm_T 14).2.1 32).2.2.2 = false := by
  have h : 32 < (sm_T 14).2.2 ∧ sm_ty 14 32 = .int ∧ ((sm_T 14).2.1 32).2.2.2 = false := by decide +kernel
  refine ⟨h.1, ?_, h.2.2⟩
  rw [h.2.1]
  rfl
theorem pf_14_34 {x : Int32} : 34 < (sm_T 14).2.2 ∧ sm_fit (sm_ty 14 34) (.int x) = true ∧ ((sm_T 14).2.1 34).2.2.2 = false := by
  have h : 34 < (sm_T 14).2.2 ∧ sm_ty 14 34 = .int ∧ ((sm_T 14).2.1 34).2.2.2 = false := by decide +kernel
  refine ⟨h.1, ?_, h.2.2⟩
  rw [h.2.1]
  rfl
theorem pf_14_37 {x : Int32} : 37 < (sm_T 14).2.2 ∧ sm_fit (sm_ty 14 37) (.int x) = true ∧ ((sm_T 14).2.1 37).2.2.2 = false := by
  have h : 37 < (sm_T 14).2.2 ∧ sm_ty 14 37 = .int ∧ ((sm_T 14).2.1 37).2.2.2 = false := by decide +kernel
  refine ⟨h.1, ?_, h.2.2⟩
  rw [h.2.1]
  rfl
theorem pf_14_39 {x : Int32} : 39 < (sm_T 14).2.2 ∧ sm_fit (sm_ty 14 39) (.int x) = true ∧ ((sm_T 14).2.1 39).2.2.2 = false := by
  have h : 39 < (sm_T 14).2.2 ∧ sm_ty 14 39 = .int ∧ ((sm_T 14).2.1 39).2.2.2 = false := by decide +kernel
  refine ⟨h.1, ?_, h.2.2⟩
  rw [h.2.1]
  rfl
theorem pf_14_40 {x : Int32} : 40 < (sm_T 14).2.2 ∧ sm_fit (sm_ty 14 40) (.int x) = true ∧ ((sm_T 14).2.1 40).2.2.2 = false := by
  have h : 40 < (sm_T 14).2.2 ∧ sm_ty 14 40 = .int ∧ ((sm_T 14).2.1 40).2.2.2 = false := by decide +kernel
  refine ⟨h.1, ?_, h.2.2⟩
  rw [h.2.1]
  rfl
theorem pf_14_47 {x : Int32} : 47 < (sm_T 14).2.2 ∧ sm_fit (sm_ty 14 47) (.int x) = true ∧ ((sm_T 14).2.1 47).2.2.2 = false := by
  have h : 47 < (sm_T 14).2.2 ∧ sm_ty 14 47 = .int ∧ ((sm_T 14).2.1 47).2.2.2 = false := by decide +kernel
  refine ⟨h.1, ?_, h.2.2⟩
  rw [h.2.1]
  rfl
theorem pf_14_51 {x : Int32} : 51 < (sm_T 14).2.2 ∧ sm_fit (sm_ty 14 51) (.int x) = true ∧ ((sm_T 14).2.1 51).2.2.2 = false := by
  have h : 51 < (sm_T 14).2.2 ∧ sm_ty 14 51 = .int ∧ ((sm_T 14).2.1 51).2.2.2 = false := by decide +kernel
  refine ⟨h.1, ?_, h.2.2⟩
  rw [h.2.1]
  rfl
theorem pf_14_59 {x : Int32} : 59 < (sm_T 14).2.2 ∧ sm_fit (sm_ty 14 59) (.int x) = true ∧ ((sm_T 14).2.1 59).2.2.2 = false := by
  have h : 59 < (sm_T 14).2.2 ∧ sm_ty 14 59 = .int ∧ ((sm_T 14).2.1 59).2.2.2 = false := by decide +kernel
  refine ⟨h.1, ?_, h.2.2⟩
  rw [h.2.1]
  rfl
theorem pf_14_63 {x : Int32} : 63 < (sm_T 14).2.2 ∧ sm_fit (sm_ty 14 63) (.int x) = true ∧ ((sm_T 14).2.1 63).2.2.2 = false := by
  have h : 63 < (sm_T 14).2.2 ∧ sm_ty 14 63 = .int ∧ ((sm_T 14).2.1 63).2.2.2 = false := by decide +kernel
  refine ⟨h.1, ?_, h.2.2⟩
  rw [h.2.1]
  rfl
theorem pf_14_64 {x : Int32} : 64 < (sm_T 14).2.2 ∧ sm_fit (sm_ty 14 64) (.int x) = true ∧ ((sm_T 14).2.1 64).2.2.2 = false := by
  have h : 64 < (sm_T 14).2.2 ∧ sm_ty 14 64 = .int ∧ ((sm_T 14).2.1 64).2.2.2 = false := by decide +kernel
  refine ⟨h.1, ?_, h.2.2⟩
  rw [h.2.1]
  rfl
theorem pf_14_65 {x : Int32} : 65 < (sm_T 14).2.2 ∧ sm_fit (sm_ty 14 65) (.int x) = true ∧ ((sm_T 14).2.1 65).2.2.2 = false := by
  have h : 65 < (sm_T 14).2.2 ∧ sm_ty 14 65 = .int ∧ ((sm_T 14).2.1 65).2.2.2 = false := by decide +kernel
  refine ⟨h.1, ?_, h.2.2⟩
  rw [h.2.1]
  rfl
theorem pf_14_66 {x : Int32} : 66 < (sm_T 14).2.2 ∧ sm_fit (sm_ty 14 66) (.int x) = true ∧ ((sm_T 14).2.1 66).2.2.2 = false := by
  have h : 66 < (sm_T 14).2.2 ∧ sm_ty 14 66 = .int ∧ ((sm_T 14).2.1 66).2.2.2 = false := by decide +kernel
  refine ⟨h.1, ?_, h.2.2⟩
  rw [h.2.1]
  rfl
theorem pf_14_67 {x : Int32} : 67 < (sm_T 14).2.2 ∧ sm_fit (sm_ty 14 67) (.int x) = true ∧ ((sm_T 14).2.1 67).2.2.2 = false := by
  have h : 67 < (sm_T 14).2.2 ∧ sm_ty 14 67 = .int ∧ ((sm_T 14).2.1 67).2.2.2 = false := by decide +kernel
  refine ⟨h.1, ?_, h.2.2⟩
  rw [h.2.1]
  rfl
theorem pf_14_68 {x : Int32} : 68 < (sm_T 14).2.2 ∧ sm_fit (sm_ty 14 68) (.int x) = true ∧ ((sm_T 14).2.1 68).2.2.2 = false := by
  have h : 68 < (sm_T 14).2.2 ∧ sm_ty 14 68 = .int ∧ ((sm_T 14).2.1 68).2.2.2 = false := by decide +kernel
  refine ⟨h.1, ?_, h.2.2⟩
  rw [h.2.1]
  rfl
theorem pf_14_72 {x : Int32} : 72 < (sm_T 14).2.2 ∧ sm_fit (sm_ty 14 72) (.int x) = true ∧ ((sm_T 14).2.1 72).2.2.2 = false := by
  have h : 72 < (sm_T 14).2.2 ∧ sm_ty 14 72 = .int ∧ ((sm_T 14).2.1 72).2.2.2 = false := by decide +kernel
  refine ⟨h.1, ?_, h.2.2⟩
  rw [h.2.1]
  rfl
theorem pf_14_73 {x : Int32} (hx : x = 0 ∨ x = 1) : 73 < (sm_T 14).2.2 ∧ sm_fit (sm_ty 14 73) (.int x) = true ∧ ((sm_T 14).2.1 73).2.2.2 = false := by
  have h : 73 < (sm_T 14).2.2 ∧ sm_ty 14 73 = .boolean ∧ ((sm_T 14).2.1 73).2.2.2 = false := by decide +kernel
  refine ⟨h.1, ?_, h.2.2⟩
  rw [h.2.1]
  rcases hx with rfl | rfl <;> rfl
theorem pf_14_75 {x : Int32} : 75 < (sm_T 14).2.2 ∧ sm_fit (sm_ty 14 75) (.int x) = true ∧ ((sm_T 14).2.1 75).2.2.2 = false := by
  have h : 75 < (sm_T 14).2.2 ∧ sm_ty 14 75 = .int ∧ ((sm_T 14).2.1 75).2.2.2 = false := by decide +kernel
  refine ⟨h.1, ?_, h.2.2⟩
  rw [h.2.1]
  rfl
theorem pf_14_76 {x : Int32} : 76 < (sm_T 14).2.2 ∧ sm_fit (sm_ty 14 76) (.int x) = true ∧ ((sm_T 14).2.1 76).2.2.2 = false := by
  have h : 76 < (sm_T 14).2.2 ∧ sm_ty 14 76 = .int ∧ ((sm_T 14).2.1 76).2.2.2 = false := by decide +kernel
  refine ⟨h.1, ?_, h.2.2⟩
  rw [h.2.1]
  rfl
theorem pf_3_10 {x : Int64} : 10 < (sm_T 3).2.2 ∧ sm_fit (sm_ty 3 10) (.long x) = true ∧ ((sm_T 3).2.1 10).2.2.2 = false := by
  have h : 10 < (sm_T 3).2.2 ∧ sm_ty 3 10 = .long ∧ ((sm_T 3).2.1 10).2.2.2 = false := by decide +kernel
  refine ⟨h.1, ?_, h.2.2⟩
  rw [h.2.1]
  rfl
theorem pf_3_11 {x : Int64} : 11 < (sm_T 3).2.2 ∧ sm_fit (sm_ty 3 11) (.long x) = true ∧ ((sm_T 3).2.1 11).2.2.2 = false := by
  have h : 11 < (sm_T 3).2.2 ∧ sm_ty 3 11 = .long ∧ ((sm_T 3).2.1 11).2.2.2 = false := by decide +kernel
  refine ⟨h.1, ?_, h.2.2⟩
  rw [h.2.1]
  rfl
theorem pf_3_12 {x : Int64} : 12 < (sm_T 3).2.2 ∧ sm_fit (sm_ty 3 12) (.long x) = true ∧ ((sm_T 3).2.1 12).2.2.2 = false := by
  have h : 12 < (sm_T 3).2.2 ∧ sm_ty 3 12 = .long ∧ ((sm_T 3).2.1 12).2.2.2 = false := by decide +kernel
  refine ⟨h.1, ?_, h.2.2⟩
  rw [h.2.1]
  rfl
