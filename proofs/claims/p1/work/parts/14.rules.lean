/-! RULES: an instruction each, over the function -/
variable {X : Option (Nat × (Nat → Int32))} {cal : Nat → List Value → sm_H → Nat → Option sm_R} {j n pc k : Nat} {lv lv1 : sm_L} {st st1 r : List Value} {σ σ1 : sm_H} {u u1 : Nat} {i : Instr}
theorem sd_ops (h : sm_ops i st = some (k, st1)) : sm_do X j i k pc lv st σ u = some (.inl (pc + k, lv, st1, σ, u)) := by unfold sm_do; simp [h]
theorem sd_loc (h0 : sm_ops i st = none) (h : sm_loc (sm_ml j) i lv st = some (k, lv1, st1)) : sm_do X j i k pc lv st σ u = some (.inl (pc + k, lv1, st1, σ, u)) := by unfold sm_do; simp [h0, h]
theorem sd_br {pc1 : Nat} (h0 : sm_ops i st = none) (h1 : sm_loc (sm_ml j) i lv st = none) (h : sm_br i k pc st = some (pc1, st1)) : sm_do X j i k pc lv st σ u = some (.inl (pc1, lv, st1, σ, u)) := by unfold sm_do; simp [h0, h1, h]
theorem sd_rd (h0 : sm_ops i st = none) (h1 : sm_loc (sm_ml j) i lv st = none) (h2 : sm_br i k pc st = none) (h : sm_rd X (sm_ow j) i st σ = some (k, st1)) : sm_do X j i k pc lv st σ u = some (.inl (pc + k, lv, st1, σ, u)) := by unfold sm_do; simp [h0, h1, h2, h]
theorem sd_wr (h0 : sm_ops i st = none) (h1 : sm_loc (sm_ml j) i lv st = none) (h2 : sm_br i k pc st = none) (h3 : sm_rd X (sm_ow j) i st σ = none) (h : sm_wr (sm_ow j) (sm_ini j) i st σ = some (k, st1, σ1)) : sm_do X j i k pc lv st σ u = some (.inl (pc + k, lv, st1, σ1, u)) := by unfold sm_do; simp [h0, h1, h2, h3, h]
theorem sd_mk (h0 : sm_ops i st = none) (h1 : sm_loc (sm_ml j) i lv st = none) (h2 : sm_br i k pc st = none) (h3 : sm_rd X (sm_ow j) i st σ = none) (h4 : sm_wr (sm_ow j) (sm_ini j) i st σ = none) (h : sm_mk (sm_ow j) i st σ u = some (k, st1, σ1, u1)) : sm_do X j i k pc lv st σ u = some (.inl (pc + k, lv, st1, σ1, u1)) := by unfold sm_do; simp [h0, h1, h2, h3, h4, h]
theorem sd_cl {j1 : Nat} {as : List Value} (h0 : sm_ops i st = none) (h1 : sm_loc (sm_ml j) i lv st = none) (h2 : sm_br i 3 pc st = none) (h3 : sm_rd X (sm_ow j) i st σ = none) (h4 : sm_wr (sm_ow j) (sm_ini j) i st σ = none) (h5 : sm_mk (sm_ow j) i st σ u = none) (h6 : sm_na (sm_ow j) i st σ = none) (h : sm_cl (sm_ow j) i st σ = some (j1, as, r)) : sm_do X j i 3 pc lv st σ u = some (.inr (.inl (j1, as, pc + 3, lv, r, σ, u))) := by unfold sm_do; simp [h0, h1, h2, h3, h4, h5, h6, h]
theorem sx_go {K : sm_K} (hd : decode (sm_cc j) pc = .ok (i, k)) (hs : sm_do X j i k pc lv st σ u = some (.inl K)) : sm_run X cal j (n + 1) (pc, lv, st, σ, u) = sm_run X cal j n K := by
  have h : sm_step X j (pc, lv, st, σ, u) = some (.inl K) := by
    unfold sm_step
    simp only [hd]
    exact hs
  conv => lhs; unfold sm_run
  rw [h]
theorem sx_call0 {j1 pc1 : Nat} {as : List Value} {v : Option Value} {σ2 : sm_H} {u2 : Nat} (hd : decode (sm_cc j) pc = .ok (i, k)) (hs : sm_do X j i k pc lv st σ u = some (.inr (.inl (j1, as, pc1, lv1, r, σ1, u1)))) (hc : cal j1 as σ1 u1 = some (v, σ2, u2)) : sm_run X cal j (n + 1) (pc, lv, st, σ, u) = sm_run X cal j n (pc1, lv1, v.toList ++ r, σ2, u2) := by
  have h : sm_step X j (pc, lv, st, σ, u) = some (.inr (.inl (j1, as, pc1, lv1, r, σ1, u1))) := by
    unfold sm_step
    simp only [hd]
    exact hs
  conv => lhs; unfold sm_run
  rw [h]
  simp only [hc]
theorem sx_end0 {R0 : sm_R} (hd : decode (sm_cc j) pc = .ok (i, k)) (hs : sm_do X j i k pc lv st σ u = some (.inr (.inr R0))) : sm_run X cal j (n + 1) (pc, lv, st, σ, u) = some R0 := by
  have h : sm_step X j (pc, lv, st, σ, u) = some (.inr (.inr R0)) := by
    unfold sm_step
    simp only [hd]
    exact hs
  conv => lhs; unfold sm_run
  rw [h]
theorem sx_istore_n {q : Fin 4} {x : Int32} (hd : decode (sm_cc j) pc = .ok (.istore_n q, 1)) (hl : (q : Nat) < sm_ml j) : sm_run X cal j (n + 1) (pc, lv, .int x :: st, σ, u) = sm_run X cal j n (pc + 1, sm_p1 lv q (.int x), st, σ, u) := sx_go hd (sd_loc rfl (if_pos hl))
theorem sx_astore_n {q : Fin 4} {x : Nat} (hd : decode (sm_cc j) pc = .ok (.astore_n q, 1)) (hl : (q : Nat) < sm_ml j) : sm_run X cal j (n + 1) (pc, lv, .ref x :: st, σ, u) = sm_run X cal j n (pc + 1, sm_p1 lv q (.ref x), st, σ, u) := sx_go hd (sd_loc rfl (if_pos hl))
theorem sx_iinc {q : Nat} {c : Int} {x : Int32} (hd : decode (sm_cc j) pc = .ok (.iinc q c, 3)) (hl : q < sm_ml j) (hg : sm_get lv q = some (.int x)) : sm_run X cal j (n + 1) (pc, lv, st, σ, u) = sm_run X cal j n (pc + 3, sm_p1 lv q (.int (x + Int32.ofInt c)), st, σ, u) := sx_go hd (sd_loc rfl (by
  unfold sm_loc
  simp [hg, hl]))
theorem sx_c1 {α : Type} {c : Jvm.ClassFile.Cond} {x : Int32} {a b : α} : sm_c1 c x a b = if sm_c1 c x true false = true then a else b := by
  cases c <;> unfold sm_c1 <;> dsimp only <;> split <;> rfl
theorem sx_c2 {α : Type} {c : Jvm.ClassFile.Cond} {x y : Int32} {a b : α} : sm_c2 c x y a b = if sm_c2 c x y true false = true then a else b := by
  cases c <;> unfold sm_c2 <;> dsimp only <;> split <;> rfl
theorem sx_if_t {c : Jvm.ClassFile.Cond} {off : Int} {x : Int32} {t : Nat} (hd : decode (sm_cc j) pc = .ok (.ifCond c off, 3)) (ht : sm_tg pc off = some t) (h : sm_c1 c x true false = true) : sm_run X cal j (n + 1) (pc, lv, .int x :: st, σ, u) = sm_run X cal j n (t, lv, st, σ, u) := sx_go hd (sd_br rfl rfl (by
  show (if 3 = 3 then (sm_tg pc off).map (fun t => (sm_c1 c x t (pc + 3), st)) else none) = _
  rw [if_pos rfl, ht, Option.map_some, sx_c1, if_pos h]))
theorem sx_if_f {c : Jvm.ClassFile.Cond} {off : Int} {x : Int32} {t : Nat} (hd : decode (sm_cc j) pc = .ok (.ifCond c off, 3)) (ht : sm_tg pc off = some t) (h : sm_c1 c x true false = false) : sm_run X cal j (n + 1) (pc, lv, .int x :: st, σ, u) = sm_run X cal j n (pc + 3, lv, st, σ, u) := sx_go hd (sd_br rfl rfl (by
  show (if 3 = 3 then (sm_tg pc off).map (fun t => (sm_c1 c x t (pc + 3), st)) else none) = _
  rw [if_pos rfl, ht, Option.map_some, sx_c1, h, if_neg (by decide)]))
theorem sx_ic_t {c : Jvm.ClassFile.Cond} {off : Int} {x y : Int32} {t : Nat} (hd : decode (sm_cc j) pc = .ok (.if_icmp c off, 3)) (ht : sm_tg pc off = some t) (h : sm_c2 c x y true false = true) : sm_run X cal j (n + 1) (pc, lv, .int y :: .int x :: st, σ, u) = sm_run X cal j n (t, lv, st, σ, u) := sx_go hd (sd_br rfl rfl (by
  show (if 3 = 3 then (sm_tg pc off).map (fun t => (sm_c2 c x y t (pc + 3), st)) else none) = _
  rw [if_pos rfl, ht, Option.map_some, sx_c2, if_pos h]))
theorem sx_ic_f {c : Jvm.ClassFile.Cond} {off : Int} {x y : Int32} {t : Nat} (hd : decode (sm_cc j) pc = .ok (.if_icmp c off, 3)) (ht : sm_tg pc off = some t) (h : sm_c2 c x y true false = false) : sm_run X cal j (n + 1) (pc, lv, .int y :: .int x :: st, σ, u) = sm_run X cal j n (pc + 3, lv, st, σ, u) := sx_go hd (sd_br rfl rfl (by
  show (if 3 = 3 then (sm_tg pc off).map (fun t => (sm_c2 c x y t (pc + 3), st)) else none) = _
  rw [if_pos rfl, ht, Option.map_some, sx_c2, h, if_neg (by decide)]))
/-- a field of an object of a class; an object's class -/
def sx_fd (σ : sm_H) (a ci fk : Nat) : Option Value := match σ[a]? with
  | some (.inr (c, fs)) => if c = ci then fs[fk]? else none
  | _ => none
def sx_ob (σ : sm_H) (a : Nat) : Option Nat := match σ[a]? with
  | some (.inr (c, _)) => some c
  | _ => none
theorem sx_getfield {q k1 ci fk a : Nat} {w : Nat × Nat} {v : Value} (hd : decode (sm_cc j) pc = .ok (.getfield q, 3)) (hf : sm_at mt_f (sm_ow j) q = some (k1, ci, fk, w)) (hv : sx_fd σ a ci fk = some v) : sm_run X cal j (n + 1) (pc, lv, .ref a :: st, σ, u) = sm_run X cal j n (pc + 3, lv, v :: st, σ, u) := sx_go hd (sd_rd rfl rfl rfl (by
  unfold sx_fd at hv
  unfold sm_rd
  simp only [hf]
  split at hv
  · rename_i c fs hc
    rw [hc]
    by_cases hcc : c = ci
    · rw [if_pos hcc] at hv
      simp only [if_pos hcc, hv, Option.map_some]
    · rw [if_neg hcc] at hv
      cases hv
  · cases hv))
theorem sx_virt {q k1 kd j1 a c : Nat} {w : Nat × Nat} {v : Option Value} {σ2 : sm_H} {u2 : Nat} (hd : decode (sm_cc j) pc = .ok (.invokevirtual q, 3)) (hk : sm_at mt_k (sm_ow j) q = some (k1, kd, j1, w)) (hn : (kd = 0 ∨ kd = 1) ∧ c = sm_ow j1 ∧ c < mt_cl.length) (ha : st.drop (sm_np j1) = .ref a :: r) (hc : sx_ob σ a = some c) (hr : (r.map fun v => v.category).sum ≤ 8) (hcal : cal j1 (.ref a :: (st.take (sm_np j1)).reverse) σ u = some (v, σ2, u2)) : sm_run X cal j (n + 1) (pc, lv, st, σ, u) = sm_run X cal j n (pc + 3, lv, v.toList ++ r, σ2, u2) := by
  refine sx_call0 hd (sd_cl (j1 := j1) (r := r) rfl rfl rfl rfl rfl rfl rfl ?_) hcal
  unfold sm_cl
  simp only [hk, if_pos hn.1, ha]
  unfold sx_ob at hc
  split at hc
  · rename_i c1 fs h1
    cases hc
    rw [h1]
    simp only [if_pos (And.intro hn.2.1 (And.intro hn.2.2 hr))]
  · cases hc
theorem sx_stat {q k1 kd j1 : Nat} {w : Nat × Nat} {v : Option Value} {σ2 : sm_H} {u2 : Nat} (hd : decode (sm_cc j) pc = .ok (.invokestatic q, 3)) (hk : sm_at mt_k (sm_ow j) q = some (k1, kd, j1, w)) (hn : kd = 2 ∨ kd = 3) (hl : sm_np j1 ≤ st.length) (hr : ((st.drop (sm_np j1)).map fun v => v.category).sum ≤ 8) (hcal : cal j1 (st.take (sm_np j1)).reverse σ u = some (v, σ2, u2)) : sm_run X cal j (n + 1) (pc, lv, st, σ, u) = sm_run X cal j n (pc + 3, lv, v.toList ++ st.drop (sm_np j1), σ2, u2) := by
  refine sx_call0 hd (sd_cl (j1 := j1) rfl rfl rfl rfl rfl rfl ?_ ?_) hcal
  · unfold sm_na
    simp only [hk]
    rcases hn with rfl | rfl <;> rfl
  · unfold sm_cl
    simp only [hk, if_pos (And.intro hn (And.intro hl hr))]
theorem sx_ret_int {x : Int32} (hd : decode (sm_cc j) pc = .ok (.ireturn, 1)) (hr : sm_rt j = some .int) : sm_run X cal j (n + 1) (pc, lv, [.int x], σ, u) = some (some (.int x), σ, u) := sx_end0 hd (by
  unfold sm_do
  rw [hr]
  rfl)
theorem sx_ret_bool {x : Int32} (hd : decode (sm_cc j) pc = .ok (.ireturn, 1)) (hr : sm_rt j = some .boolean) (hx : x = 0 ∨ x = 1) : sm_run X cal j (n + 1) (pc, lv, [.int x], σ, u) = some (some (.int x), σ, u) := sx_end0 hd (by
  have h : sm_end (sm_rt j) .ireturn [.int x] = some (some (.int x)) := by
    rw [hr]
    exact if_pos hx
  unfold sm_do
  rw [h]
  rfl)
theorem sx_ldc2 {q k1 w : Nat} {x : Int64} (hd : decode (sm_cc j) pc = .ok (.ldc2_w q, 3)) (hk : sm_at mt_cj (sm_ow j) q = some (k1, x, w)) : sm_run X cal j (n + 1) (pc, lv, st, σ, u) = sm_run X cal j n (pc + 3, lv, .long x :: st, σ, u) := sx_go hd (sd_rd rfl rfl rfl (by
  unfold sm_rd
  simp only [hk]))
theorem sx_ev {d : Nat} {as : List Value} (h : (lg_sl as).length ≤ sm_ml j) : sm_ev X (d + 1) n j as σ u = sm_run X (sm_ev X d n) j n (0, lv_args 0 as, [], σ, u) := by
  conv => lhs; unfold sm_ev
  rw [if_pos h]
theorem sx_new {q k1 ci : Nat} {w : Nat × Nat × Nat} (hd : decode (sm_cc j) pc = .ok (.new q, 3)) (hk : sm_at mt_n (sm_ow j) q = some (k1, ci, w)) : sm_run X cal j (n + 1) (pc, lv, st, σ, u) = sm_run X cal j n (pc + 3, lv, .ref σ.length :: st, σ ++ [.inr (ci, sm_new ci)], u + (sm_T ci).2.2) := sx_go hd (sd_mk rfl rfl rfl rfl rfl (by
  unfold sm_mk
  simp only [hk]))
theorem sx_spec {q k1 kd j1 a : Nat} {w : Nat × Nat} {v : Option Value} {σ2 : sm_H} {u2 : Nat} (hd : decode (sm_cc j) pc = .ok (.invokespecial q, 3)) (hk : sm_at mt_k (sm_ow j) q = some (k1, kd, j1, w)) (hn : kd = 4 ∨ kd = 5) (ha : st.drop (sm_np j1) = .ref a :: r) (hr : (r.map fun v => v.category).sum ≤ 8) (hcal : cal j1 (.ref a :: (st.take (sm_np j1)).reverse) σ u = some (v, σ2, u2)) : sm_run X cal j (n + 1) (pc, lv, st, σ, u) = sm_run X cal j n (pc + 3, lv, v.toList ++ r, σ2, u2) := by
  refine sx_call0 hd (sd_cl (j1 := j1) (r := r) rfl rfl rfl rfl rfl rfl ?_ ?_) hcal
  · cases st with
    | nil => rfl
    | cons x st =>
      cases x <;> first
        | rfl
        | (unfold sm_na
           dsimp only
           rw [hk]
           rcases hn with rfl | rfl <;> rfl)
  · unfold sm_cl
    simp only [hk, if_pos hn, ha, if_pos hr]
