/-! COPIES of arrays -/

theorem dyn_F {k : Nat} {f : Nat → Int32} {S : cS} (hk : k < 108) (sh : List (Nat × Nat)) : dyn (wF k f S) 108 sh = dyn S 108 sh := dyn_congr sh 108 (fun b q h1 _ => cell_congr q (fun _ _ => rfl) (fun _ _ => rfl) (fun _ _ => rfl) (if_neg (by omega)) rfl)
theorem sf_byt {S : cS} {a N : Nat} {f : Nat → Int32} (ha : 108 ≤ a) (h : (sS S)[a - 108]? = some (2, N)) : (mk S).set a (.inl (2, N, .inl f)) = mk (wF a f S) :=
  mk_setd ha h (fx_F ha) rfl (fun b q _ h2 => cell_congr q (fun _ _ => rfl) (fun _ _ => rfl) (fun _ _ => rfl) (if_neg h2) rfl) (by
    show Sum.inl (2, N, Sum.inl (sA (wF a f S) a)) = _
    rw [show sA (wF a f S) a = f from if_pos rfl])
theorem sf_62 (S : cS) (f : Nat → Int32) : (mk S).set 62 (.inl (2, 768, .inl f)) = mk (wF 62 f S) := stx (by decide) rfl (dyn_F (by decide) _)
theorem sf_85 (S : cS) (f : Nat → Int32) : (mk S).set 85 (.inl (0, 15000, .inl f)) = mk (wF 85 f S) := stx (by decide) rfl (dyn_F (by decide) _)
theorem rF (a : Nat) (f : Nat → Int32) (S : cS) (b : Nat) : sA (wF a f S) b = if b = a then f else sA S b := rfl
theorem rG (a : Nat) (f : Nat → Int64) (S : cS) (b : Nat) : sL (wG a f S) b = if b = a then f else sL S b := rfl
theorem sx_cpy {X : Option (Nat × (Nat → Int32))} {cal : Nat → List Value → sm_H → Nat → Option sm_R} {j n pc q k1 j2 b : Nat} {w : Nat} {lv : sm_L} {st r : List Value} {σ σ1 : sm_H} {u : Nat} (hd : decode (sm_cc j) pc = .ok (.invokestatic q, 3)) (hk : sm_at mt_k (sm_ow j) q = some (k1, 7, j2, b, w)) (h : sm_cpy st σ = some (r, σ1)) : sm_run X cal j (n + 1) (pc, lv, st, σ, u) = sm_run X cal j n (pc + 3, lv, r, σ1, u) := by
  refine sx_go (k := 3) hd ?_
  have h6 : sm_na (sm_ow j) (.invokestatic q) st σ = some (3, r, σ1) := by
    unfold sm_na
    simp only [hk, h, Option.map_some]
  have h0 : sm_ops (.invokestatic q) st = none := by rcases st with _ | ⟨a, _ | ⟨b, st⟩⟩ <;> rfl
  have h1 : sm_loc (sm_ml j) (.invokestatic q) lv st = none := by rcases st with _ | ⟨a, st⟩ <;> rfl
  have h2 : sm_br (.invokestatic q) 3 pc st = none := by rcases st with _ | ⟨a, _ | ⟨b, st⟩⟩ <;> rfl
  have h3 : sm_rd X (sm_ow j) (.invokestatic q) st σ = none := by rcases st with _ | ⟨a, _ | ⟨b, st⟩⟩ <;> rfl
  have h4 : sm_wr (sm_ow j) (sm_ini j) (.invokestatic q) st σ = none := by rcases st with _ | ⟨a, _ | ⟨b, _ | ⟨c, st⟩⟩⟩ <;> rfl
  have h5 : sm_mk (sm_ow j) (.invokestatic q) st σ u = none := by rcases st with _ | ⟨a, st⟩ <;> rfl
  unfold sm_do
  simp [h0, h1, h2, h3, h4, h5, h6]
theorem Bod.cpyI {d j pc q k1 j2 b w : Nat} {lv : sm_L} {r : List Value} {S S1 Sf : cS} {v : Option Value} {a0 a n0 n1 sp dp m : Nat} {f g : Nat → Int32} (hd : decode (sm_cc j) pc = .ok (.invokestatic q, 3)) (hk : sm_at mt_k (sm_ow j) q = some (k1, 7, j2, b, w)) (hc : (mk S)[a0]? = some (.inl (0, n0, .inl f))) (hc2 : (mk S)[a]? = some (.inl (0, n1, .inl g))) (h0 : sp + m ≤ n0) (h1 : dp + m ≤ n1) (hn0 : n0 < 2 ^ 31) (hn1 : n1 < 2 ^ 31) (hr : (r.map fun v => v.category).sum ≤ 8) (hs : (mk S).set a (.inl (0, n1, .inl (va_cpy f g sp dp m))) = mk S1) (hu : mu S1 = mu S) (h : Bod d j (pc + 3) lv r S1 v Sf) : Bod d j pc lv (.int (nI m) :: .int (nI dp) :: .ref a :: .int (nI sp) :: .ref a0 :: r) S v Sf := by
  refine Bod.of (fun cal n => (sx_cpy hd hk (r := r) (σ1 := mk S1) ?_).trans (by rw [hu])) h
  show (if nI sp < 0 ∨ nI dp < 0 ∨ nI m < 0 ∨ 8 < (r.map fun v => v.category).sum then none else _) = _
  rw [if_neg (fun c => by
    rcases c with c | c | c | c
    · exact nI_pos (by omega) c
    · exact nI_pos (by omega) c
    · exact nI_pos (by omega) c
    · omega)]
  simp only [hc, hc2, nI_clamp (show sp < 2 ^ 31 by omega), nI_clamp (show dp < 2 ^ 31 by omega), nI_clamp (show m < 2 ^ 31 by omega)]
  rw [if_pos ⟨h0, h1⟩, hs]
theorem Bod.cpyB {d j pc q k1 j2 b w : Nat} {lv : sm_L} {r : List Value} {S S1 Sf : cS} {v : Option Value} {a0 a n0 n1 sp dp m : Nat} {f g : Nat → Int32} (hd : decode (sm_cc j) pc = .ok (.invokestatic q, 3)) (hk : sm_at mt_k (sm_ow j) q = some (k1, 7, j2, b, w)) (hc : (mk S)[a0]? = some (.inl (2, n0, .inl f))) (hc2 : (mk S)[a]? = some (.inl (2, n1, .inl g))) (h0 : sp + m ≤ n0) (h1 : dp + m ≤ n1) (hn0 : n0 < 2 ^ 31) (hn1 : n1 < 2 ^ 31) (hr : (r.map fun v => v.category).sum ≤ 8) (hb : ∀ i, i < m → fits .byte (.int (f (sp + i))) = true) (hs : (mk S).set a (.inl (2, n1, .inl (va_cpy f g sp dp m))) = mk S1) (hu : mu S1 = mu S) (h : Bod d j (pc + 3) lv r S1 v Sf) : Bod d j pc lv (.int (nI m) :: .int (nI dp) :: .ref a :: .int (nI sp) :: .ref a0 :: r) S v Sf := by
  refine Bod.of (fun cal n => (sx_cpy hd hk (r := r) (σ1 := mk S1) ?_).trans (by rw [hu])) h
  show (if nI sp < 0 ∨ nI dp < 0 ∨ nI m < 0 ∨ 8 < (r.map fun v => v.category).sum then none else _) = _
  rw [if_neg (fun c => by
    rcases c with c | c | c | c
    · exact nI_pos (by omega) c
    · exact nI_pos (by omega) c
    · exact nI_pos (by omega) c
    · omega)]
  simp only [hc, hc2, nI_clamp (show sp < 2 ^ 31 by omega), nI_clamp (show dp < 2 ^ 31 by omega), nI_clamp (show m < 2 ^ 31 by omega)]
  rw [if_pos ⟨h0, h1, hb⟩, hs]
theorem Bod.cpyL {d j pc q k1 j2 b w : Nat} {lv : sm_L} {r : List Value} {S S1 Sf : cS} {v : Option Value} {a0 a n0 n1 sp dp m : Nat} {f g : Nat → Int64} (hd : decode (sm_cc j) pc = .ok (.invokestatic q, 3)) (hk : sm_at mt_k (sm_ow j) q = some (k1, 7, j2, b, w)) (hc : (mk S)[a0]? = some (.inl (1, n0, .inr (.inl f)))) (hc2 : (mk S)[a]? = some (.inl (1, n1, .inr (.inl g)))) (h0 : sp + m ≤ n0) (h1 : dp + m ≤ n1) (hn0 : n0 < 2 ^ 31) (hn1 : n1 < 2 ^ 31) (hr : (r.map fun v => v.category).sum ≤ 8) (hs : (mk S).set a (.inl (1, n1, .inr (.inl (va_cpy f g sp dp m)))) = mk S1) (hu : mu S1 = mu S) (h : Bod d j (pc + 3) lv r S1 v Sf) : Bod d j pc lv (.int (nI m) :: .int (nI dp) :: .ref a :: .int (nI sp) :: .ref a0 :: r) S v Sf := by
  refine Bod.of (fun cal n => (sx_cpy hd hk (r := r) (σ1 := mk S1) ?_).trans (by rw [hu])) h
  show (if nI sp < 0 ∨ nI dp < 0 ∨ nI m < 0 ∨ 8 < (r.map fun v => v.category).sum then none else _) = _
  rw [if_neg (fun c => by
    rcases c with c | c | c | c
    · exact nI_pos (by omega) c
    · exact nI_pos (by omega) c
    · exact nI_pos (by omega) c
    · omega)]
  simp only [hc, hc2, nI_clamp (show sp < 2 ^ 31 by omega), nI_clamp (show dp < 2 ^ 31 by omega), nI_clamp (show m < 2 ^ 31 by omega)]
  rw [if_pos ⟨h0, h1⟩, hs]
theorem sx_areturn {X : Option (Nat × (Nat → Int32))} {cal : Nat → List Value → sm_H → Nat → Option sm_R} {j n pc a : Nat} {lv : sm_L} {σ : sm_H} {u : Nat} {c : FieldType} (hd : decode (sm_cc j) pc = .ok (.areturn, 1)) (hr : sm_rt j = some (.array c)) : sm_run X cal j (n + 1) (pc, lv, [.ref a], σ, u) = some (some (.ref a), σ, u) := by
  refine sx_end0 (k := 1) hd ?_
  have h8 : sm_end (sm_rt j) .areturn [.ref a] = some (some (.ref a)) := by
    unfold sm_end
    rw [hr]
  unfold sm_do
  simp [h8, show sm_ops .areturn [Value.ref a] = none from rfl, show sm_loc (sm_ml j) .areturn lv [Value.ref a] = none from rfl, show sm_br .areturn 1 pc [Value.ref a] = none from rfl, show sm_rd X (sm_ow j) .areturn [Value.ref a] σ = none from rfl, show sm_wr (sm_ow j) (sm_ini j) .areturn [Value.ref a] σ = none from rfl, show sm_mk (sm_ow j) .areturn [Value.ref a] σ u = none from rfl, show sm_na (sm_ow j) .areturn [Value.ref a] σ = none from rfl, show sm_cl (sm_ow j) .areturn [Value.ref a] σ = none from rfl]
theorem Bod.retA {d j pc a : Nat} {lv : sm_L} {S : cS} {c : FieldType} (hd : decode (sm_cc j) pc = .ok (.areturn, 1)) (hr : sm_rt j = some (.array c)) : Bod d j pc lv [.ref a] S (some (.ref a)) S := Bod.ret (fun _ _ => sx_areturn hd hr)
