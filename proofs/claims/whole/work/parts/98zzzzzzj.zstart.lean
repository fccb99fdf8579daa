/-! COMPILING OF THE REFERENCE: where the statements begin -/
/-- the parser's places zeroed -/
def tcW (m : Nat) (S : cS) : cS := wA 73 0 (nI 0) (wI 6140 (nI 0) (wI 6139 (nI 0) (wI 6137 (nI 0) (wI 6134 (nI 0) (wI 6130 (nI 0) (wI 6127 (nI 0) (wI 6126 (nI 0) (wI 6123 (nI 0) (wI 6122 (nI 0) (wI 6117 (nI 0) (wI 6116 (nI 0) (wI 6115 (nI 0) (wV 6114 (.ref m) S)))))))))))))
theorem wI_m {k i : Nat} {x y : Int32} {S : cS} {L : List Nat} (h : sI S i = if i ∈ L then x else y) : sI (wI k x S) i = if i ∈ k :: L then x else y := by
  by_cases e : i = k
  · rw [e, rIe, if_pos (List.mem_cons_self ..)]
  · rw [rIn _ _ e, h]
    by_cases q : i ∈ L
    · rw [if_pos q, if_pos (List.mem_cons_of_mem _ q)]
    · rw [if_neg q, if_neg (fun z => by
        rcases List.mem_cons.mp z with z | z
        · exact e z
        · exact q z)]
theorem tcW_i (m : Nat) (S : cS) (i : Nat) : sI (tcW m S) i = if i ∈ [6140, 6139, 6137, 6134, 6130, 6127, 6126, 6123, 6122, 6117, 6116, 6115] then nI 0 else sI S i :=
  (rAI 73 0 (nI 0) _ i).trans (wI_m (wI_m (wI_m (wI_m (wI_m (wI_m (wI_m (wI_m (wI_m (wI_m (wI_m (wI_m (L := []) ((congrFun (rVI _ _ _) i).trans (if_neg (List.not_mem_nil)).symm)))))))))))))
theorem tcW_v (m : Nat) (S : cS) (k : Nat) : sV (tcW m S) k = if k = 6114 then .ref m else sV S k := by
  unfold tcW
  rw [rAV, rIV, rIV, rIV, rIV, rIV, rIV, rIV, rIV, rIV, rIV, rIV, rIV]
  rfl
theorem tcW_a (m : Nat) (S : cS) (a : Nat) (h : a ≠ 73) : sA (tcW m S) a = sA S a := by
  unfold tcW
  rw [rAn _ _ _ h]
  rfl
theorem tcW_l (m : Nat) (S : cS) : sL (tcW m S) = sL S ∧ sS (tcW m S) = sS S ∧ sQ (tcW m S) = sQ S ∧ sJ (tcW m S) = sJ S ∧ mu (tcW m S) = mu S ∧ sA (tcW m S) 73 0 = nI 0 := ⟨rfl, rfl, rfl, rfl, rfl, by unfold tcW; rw [rAe]; rfl⟩
section
variable {S : cS} {m f n : Nat}
theorem arI_i : sI (arI m f n S) = sI S := rfl
theorem arL_i : sI (arL m f n S) = sI S := rfl
theorem arI_l : sL (arI m f n S) = sL S := rfl
theorem arL_A : sA (arL m f n S) = sA S := rfl
theorem arI_u : mu (arI m f n S) = mu S + n := rfl
theorem arL_u : mu (arL m f n S) = mu S + n := rfl
theorem arI_q : sQ (arI m f n S) = sQ S ∧ sJ (arI m f n S) = sJ S := ⟨rfl, rfl⟩
theorem arL_q : sQ (arL m f n S) = sQ S ∧ sJ (arL m f n S) = sJ S := ⟨rfl, rfl⟩
end
theorem nc_a (S : cS) : sA (ncS S) = sA S := by
  unfold ncS
  rw [rVA, rVA, rVA, rVA, rVA, rVA, rVA, rVA]; rfl
theorem nc_l (S : cS) : sL (ncS S) = sL S := by
  unfold ncS
  rw [rVL, rVL, rVL, rVL, rVL, rVL, rVL, rVL]; rfl
theorem nc_q (S : cS) : sQ (ncS S) = sQ S ∧ sJ (ncS S) = sJ S := by
  unfold ncS
  rw [rVQ, rVQ, rVQ, rVQ, rVQ, rVQ, rVQ, rVQ, rVJ, rVJ, rVJ, rVJ, rVJ, rVJ, rVJ, rVJ]; exact ⟨rfl, rfl⟩
/-- a row more: what it leaves -/
theorem wK_r (x : Nat × Nat) (n : Nat) (S : cS) : sI (wK x n S) = sI S ∧ sV (wK x n S) = sV S ∧ sA (wK x n S) = sA S ∧ sL (wK x n S) = sL S ∧ sQ (wK x n S) = sQ S ∧ sJ (wK x n S) = sJ S ∧ sS (wK x n S) = sS S ++ [x] ∧ mu (wK x n S) = mu S + n := ⟨rfl, rfl, rfl, rfl, rfl, rfl, rfl, rfl⟩
theorem nw_s (S : cS) : sS (nwC S) = sS S ++ [(12, 0), (0, 64), (1, 8), (1, 8), (1, 8), (0, 4), (0, 4), (0, 4), (0, 4)] := by
  unfold nwC
  rw [arI_s, arI_s, arI_s, arI_s, arL_s, arL_s, arL_s, arI_s, show sS (wK (12, 0) 12 (ncS S)) = sS S ++ [(12, 0)] from rfl]
  simp only [List.append_assoc, List.cons_append, List.nil_append]
theorem nw_u (S : cS) : mu (nwC S) = mu S + 116 := by
  unfold nwC
  rw [arI_u, arI_u, arI_u, arI_u, arL_u, arL_u, arL_u, arI_u, (wK_r _ _ _).2.2.2.2.2.2.2, show mu (ncS S) = mu S from rfl]
theorem nw_0 (S : cS) : (sS (wK (12, 0) 12 (ncS S))).length = (sS S).length + 1 := by
  show (sS S ++ [(12, 0)]).length = _
  rw [List.length_append]; rfl
theorem nw_q (S : cS) : sQ (nwC S) = sQ S ∧ sJ (nwC S) = sJ S := by
  unfold nwC
  rw [arI_q.1, arI_q.1, arI_q.1, arI_q.1, arL_q.1, arL_q.1, arL_q.1, arI_q.1, (wK_r _ _ _).2.2.2.2.1, (nc_q S).1, arI_q.2, arI_q.2, arI_q.2, arI_q.2, arL_q.2, arL_q.2, arL_q.2, arI_q.2, (wK_r _ _ _).2.2.2.2.2.1, (nc_q S).2]
  exact ⟨rfl, rfl⟩
theorem nw_i (S : cS) : sI (nwC S) = sI (ncS S) := by
  unfold nwC
  rw [arI_i, arI_i, arI_i, arI_i, arL_i, arL_i, arL_i, arI_i, (wK_r _ _ _).1]
theorem rf_e {a b : Nat} (h : a = b) : Value.ref a = Value.ref b := by rw [h]
theorem nw_v (S : cS) (k : Nat) : sV (nwC S) k = if k = 100 * (108 + (sS S).length) + 10 then .ref (108 + (sS S).length + 8) else if k = 100 * (108 + (sS S).length) + 9 then .ref (108 + (sS S).length + 7) else if k = 100 * (108 + (sS S).length) + 8 then .ref (108 + (sS S).length + 6) else if k = 100 * (108 + (sS S).length) + 7 then .ref (108 + (sS S).length + 5) else if k = 100 * (108 + (sS S).length) + 4 then .ref (108 + (sS S).length + 4) else if k = 100 * (108 + (sS S).length) + 3 then .ref (108 + (sS S).length + 3) else if k = 100 * (108 + (sS S).length) + 2 then .ref (108 + (sS S).length + 2) else if k = 100 * (108 + (sS S).length) + 0 then .ref (108 + (sS S).length + 1) else sV (ncS S) k := by
  unfold nwC
  rw [arI_v, arI_v, arI_v, arI_v, arL_v, arL_v, arL_v, arI_v, (wK_r _ _ _).2.1]
  rw [arI_n, arI_n, arI_n, arL_n, arL_n, arL_n, arI_n, nw_0]
  generalize (sS S).length = L
  generalize sV (ncS S) k = y
  repeat' split
  all_goals first | rfl | exact rf_e (by omega)
theorem nw_a (S : cS) (a : Nat) (h : a < 108 + (sS S).length) : sA (nwC S) a = sA S a ∧ sL (nwC S) a = sL S a := by
  unfold nwC
  constructor
  · rw [arI_a _ (by simp only [arI_n, arL_n, nw_0]; omega), arI_a _ (by simp only [arI_n, arL_n, nw_0]; omega), arI_a _ (by simp only [arI_n, arL_n, nw_0]; omega), arI_a _ (by simp only [arI_n, arL_n, nw_0]; omega), arL_A, arL_A, arL_A, arI_a _ (by simp only [arI_n, arL_n, nw_0]; omega), (wK_r _ _ _).2.2.1, nc_a]
  · rw [arI_l, arI_l, arI_l, arI_l, arL_g _ (by simp only [arI_n, arL_n, nw_0]; omega), arL_g _ (by simp only [arI_n, arL_n, nw_0]; omega), arL_g _ (by simp only [arI_n, arL_n, nw_0]; omega), arI_l, (wK_r _ _ _).2.2.2.1, nc_l]
/-- behind place 83 of compile: a new code, the parser's places zeroed -/
def tc0 (S : cS) : cS := tcW (108 + (sS S).length) (nwC S)
def own9 (own : Nat → Nat × Nat) (m : Nat) : Nat → Nat × Nat := fun a => if a < m then own a else (25 + (a - m), m)
section
variable {β : Nat → Nat} {n : Nat} {E : Nat → Nat → Bool} {V : Nat → Int32} {T : Nat → Nat × Nat} {own : Nat → Nat × Nat} {m u k1 : Nat} {S : cS} {H B0 W : Nat}
theorem own9_a {a : Nat} (h : a < m) : own9 own m a = own a := if_pos h
theorem own9_i (i : Nat) : (own9 own m (m + i)).1 = 25 + i := by
  unfold own9
  rw [if_neg (by omega)]
  show 25 + (m + i - m) = _
  omega
theorem tc0_i (S : cS) (i : Nat) (h : i < 10800) : sI (tc0 S) i = if i ∈ [6140, 6139, 6137, 6134, 6130, 6127, 6126, 6123, 6122, 6117, 6116, 6115] then nI 0 else sI S i := by
  unfold tc0
  rw [tcW_i, nw_i, ncS_I, if_neg (c := _ ∨ _) (by omega)]
theorem tc0_j (S : cS) (k : Nat) (h : k = 1 ∨ k = 5 ∨ k = 6 ∨ k = 11) : sI (tc0 S) (100 * (108 + (sS S).length) + k) = nI 0 := by
  unfold tc0
  rw [tcW_i, nw_i, ncS_I, if_pos (c := _ ∨ _) (by omega)]
  exact ite_self _
theorem tc0_v (S : cS) (k : Nat) : sV (tc0 S) k = if k = 6114 then .ref (108 + (sS S).length) else sV (nwC S) k := tcW_v _ _ _
theorem tc0_a (S : cS) (a : Nat) (h : a < 108 + (sS S).length) : (a ≠ 73 → sA (tc0 S) a = sA S a) ∧ sL (tc0 S) a = sL S a := by
  obtain ⟨h1, h2⟩ := nw_a S a h
  unfold tc0
  exact ⟨fun h3 => (tcW_a _ _ _ h3).trans h1, (congrFun (tcW_l _ _).1 a).trans h2⟩
theorem tc0_q (S : cS) : sQ (tc0 S) = sQ S ∧ sJ (tc0 S) = sJ S ∧ mu (tc0 S) = mu S + 116 ∧ sA (tc0 S) 73 0 = nI 0 := by
  obtain ⟨h1, h2, h3, h4, h5, h6⟩ := tcW_l (108 + (sS S).length) (nwC S)
  unfold tc0
  exact ⟨h3.trans (nw_q S).1, h4.trans (nw_q S).2, h5.trans (nw_u S), h6⟩
theorem tc0_s (S : cS) : sS (tc0 S) = sS S ++ [(12, 0), (0, 64), (1, 8), (1, 8), (1, 8), (0, 4), (0, 4), (0, 4), (0, 4)] := by
  unfold tc0
  exact (tcW_l _ _).2.1.trans (nw_s S)
theorem tc0_n (S : cS) : (sS (tc0 S)).length = (sS S).length + 9 := by rw [tc0_s, List.length_append]; rfl
theorem tc0_g (S : cS) (i : Nat) (x : Nat × Nat) (h : [(12, 0), (0, 64), (1, 8), (1, 8), (1, 8), (0, 4), (0, 4), (0, 4), (0, 4)][i]? = some x) : (sS (tc0 S))[(108 + (sS S).length + i) - 108]? = some x := by
  rw [tc0_s, show 108 + (sS S).length + i - 108 = (sS S).length + i by omega, List.getElem?_append_right (by omega), Nat.add_sub_cancel_left]
  exact h
/-- the breaks' arrays -/
def bkR (own : Nat → Nat × Nat) (B0 : Nat) (S : cS) : Prop := 64 ≤ B0 ∧ B0 ≤ 6000 ∧ ∃ gb gl : Nat, (sV S 6128 = .ref gb ∧ isK S gb 0 B0 ∧ (own gb).1 = 34) ∧ (sV S 6129 = .ref gl ∧ isK S gl 0 B0 ∧ (own gl).1 = 35)
theorem tc0_O (hO : OW own S) (h86 : ∀ p t, p < 1500 → sQ S 86 p = some t → 108 ≤ t ∧ t < 108 + (sS S).length) : OW (own9 own (108 + (sS S).length)) (tc0 S) := by
  refine ⟨fun a ha => ?_, fun a h1 h2 h3 h4 => ?_, fun k a hk ha => ?_, fun p t hp hq f f1 f2 => ?_⟩
  · rw [own9_a (by omega)]; exact hO.1 a ha
  · rw [own9_a (by omega)]; exact hO.2.1 a h1 h2 h3 h4
  · rw [(tc0_q S).1] at ha
    obtain ⟨q1, q2⟩ := hO.2.2.1 k a hk ha
    exact ⟨by rw [own9_a q2]; exact q1, by rw [tc0_n]; omega⟩
  · have hq' : sQ S 86 p = some t := by rw [← (tc0_q S).1]; exact hq
    obtain ⟨v, c1, c2, c3⟩ := hO.2.2.2 p t hp hq' f f1 f2
    obtain ⟨t1, t2⟩ := h86 p t hp hq'
    refine ⟨v, ?_, by rw [tc0_n]; omega, by rw [own9_a c2]; exact c3⟩
    rw [tc0_v, if_neg (by omega), nw_v, if_neg (by omega), if_neg (by omega), if_neg (by omega), if_neg (by omega), if_neg (by omega), if_neg (by omega), if_neg (by omega), if_neg (by omega), ncS_V _ _ (by omega)]
    exact c1
theorem tc0_E (hO : OW own S) (h86 : ∀ p t, p < 1500 → sQ S 86 p = some t → 108 ≤ t ∧ t < 108 + (sS S).length) (hb : bkR own B0 S) : zE (own9 own (108 + (sS S).length)) (108 + (sS S).length) 0 (tc0 S) H B0 0 0 0 0 0 (tc0 S) := by
  have hm : 108 ≤ 108 + (sS S).length := by omega
  have hs := tc0_g S 0 _ rfl
  rw [Nat.add_zero] at hs
  have nv : ∀ f, f < 100 → sV (tc0 S) (100 * (108 + (sS S).length) + f) = sV (nwC S) (100 * (108 + (sS S).length) + f) := fun f hf => by rw [tc0_v, if_neg (by omega)]
  have kk : ∀ i t N, [(12, 0), (0, 64), (1, 8), (1, 8), (1, 8), (0, 4), (0, 4), (0, 4), (0, 4)][i]? = some (t, N) → isK (tc0 S) (108 + (sS S).length + i) t N := fun i t N h => Or.inr ⟨by omega, tc0_g S i _ h⟩
  obtain ⟨b1, b2, gb, gl, ⟨b3, b4, b5⟩, ⟨b6, b7, b8⟩⟩ := hb
  have vb : ∀ k, k < 10800 → k ≠ 6114 → sV (tc0 S) k = sV S k := fun k hk h => by
    rw [tc0_v, if_neg h, nw_v, if_neg (by omega), if_neg (by omega), if_neg (by omega), if_neg (by omega), if_neg (by omega), if_neg (by omega), if_neg (by omega), if_neg (by omega), ncS_V _ _ (by omega)]
  refine ⟨_, 64, 8, 8, 4, B0, ⟨hm, hs, tc0_j S 1 (by omega), by omega, by omega, by omega, _, ?_, kk 1 0 64 rfl, own9_i 1⟩, ⟨hm, hs, tc0_j S 5 (by omega), by omega, by omega, by omega, _, ?_, kk 2 1 8 rfl, own9_i 2⟩, ⟨hm, hs, tc0_j S 6 (by omega), by omega, by omega, by omega, _, _, ?_, ?_, kk 3 1 8 rfl, kk 4 1 8 rfl, own9_i 3, own9_i 4⟩, ⟨hm, hs, tc0_j S 11 (by omega), by omega, by omega, by omega, _, _, _, _, ⟨?_, kk 5 0 4 rfl, own9_i 5⟩, ⟨?_, kk 6 0 4 rfl, own9_i 6⟩, ⟨?_, kk 7 0 4 rfl, own9_i 7⟩, ⟨?_, kk 8 0 4 rfl, own9_i 8⟩⟩, ⟨(tc0_i S 6130 (by omega)).trans (if_pos (by decide)), by omega, b1, b2, gb, gl, ⟨(vb _ (by omega) (by omega)).trans b3, isK_K (tc0_s S) b4, by rw [own9_a (isK_lt b4)]; exact b5⟩, ⟨(vb _ (by omega) (by omega)).trans b6, isK_K (tc0_s S) b7, by rw [own9_a (isK_lt b7)]; exact b8⟩⟩, tc0_O hO h86, ?_, ⟨rfl, rfl, fun _ _ => rfl, fun _ _ => rfl, ⟨[], (List.append_nil _).symm⟩, fun _ _ _ _ => rfl, fun _ _ _ => rfl⟩, fun _ _ => rfl, by omega, by omega, by omega, by omega⟩
  · rw [nv 0 (by omega), nw_v, if_neg (by omega), if_neg (by omega), if_neg (by omega), if_neg (by omega), if_neg (by omega), if_neg (by omega), if_neg (by omega), if_pos rfl]
  · rw [nv 2 (by omega), nw_v, if_neg (by omega), if_neg (by omega), if_neg (by omega), if_neg (by omega), if_neg (by omega), if_neg (by omega), if_pos rfl]
  · rw [nv 3 (by omega), nw_v, if_neg (by omega), if_neg (by omega), if_neg (by omega), if_neg (by omega), if_neg (by omega), if_pos rfl]
  · rw [nv 4 (by omega), nw_v, if_neg (by omega), if_neg (by omega), if_neg (by omega), if_neg (by omega), if_pos rfl]
  · rw [nv 7 (by omega), nw_v, if_neg (by omega), if_neg (by omega), if_neg (by omega), if_pos rfl]
  · rw [nv 8 (by omega), nw_v, if_neg (by omega), if_neg (by omega), if_pos rfl]
  · rw [nv 9 (by omega), nw_v, if_neg (by omega), if_pos rfl]
  · rw [nv 10 (by omega), nw_v, if_pos rfl]
  · rw [tc0_v, if_pos rfl]
end
