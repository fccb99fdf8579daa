/-! NAMES ON BOTH SIDES: a constant (16 | 1, 2, 3) -/
/-- long j of array f of the reference's code m, at a run's start T -/
def rlT (P : Nat → Prop) (T : cS) (m f j : Nat) (e : Int64) : Prop := ∃ a N zm : Nat, 108 ≤ m ∧ (sS T)[m - 108]? = some (12, zm) ∧ sV T (100 * m + f) = .ref a ∧ isK T a 1 N ∧ N < 2 ^ 20 ∧ P a ∧ j < N ∧ sL T a j = e
/-- int j of array f -/
def riT (P : Nat → Prop) (T : cS) (m f j : Nat) (e : Int32) : Prop := ∃ a N zm : Nat, 108 ≤ m ∧ (sS T)[m - 108]? = some (12, zm) ∧ sV T (100 * m + f) = .ref a ∧ isK T a 0 N ∧ N < 2 ^ 20 ∧ P a ∧ j < N ∧ sA T a j = e
/-- the reference's words for a constant -/
def cvO (P : Nat → Prop) (T : cS) (m q : Nat) (hi lo : Int64) (q' : Nat) : Prop := (hi = 1152921504606846976 ∧ lo = 0 ∧ rwT P T m q (nI 1) ∧ q' = q + 1) ∨ (hi = 2305843009213693952 ∧ ∃ j, j < 2 ^ 20 ∧ rwT P T m q (nI 2) ∧ rwT P T m (q + 1) (nI j) ∧ rlT P T m 2 j lo ∧ q' = q + 2) ∨ ∃ j a b, j < 2 ^ 20 ∧ rwT P T m q (nI 3) ∧ rwT P T m (q + 1) (nI j) ∧ rlT P T m 3 j a ∧ rlT P T m 4 j b ∧ srel hi lo a b ∧ q' = q + 2
section
variable {P : Nat → Prop} {T : cS} {gT : Nat} {Q : Nat → Prop} {β β' : Nat → Nat} {F : Nat → Nat → Nat → Prop} {loc par : Nat → Nat → Nat} {ty : Nat → Nat × Nat} {G : Nat → Nat → Nat → Nat × Nat × LL → Prop} {D D' K : List Nat} {z nn g0 g1 g3 g4 g5 gn d n m p q q' pT k j f c : Nat} {tq : Nat → Nat × Nat} {C r : List Lv} {x : Lv} {S S' S0 S1 X W Sc Sr : cS} {w : Nat → Int32} {St : (Nat → Prop) → cS → Prop} {ok : List Lv → Prop} {hi lo a b e : Int64} {ei : Int32}
theorem ob_0 (h : c_kind hi ≠ nI 4) : c_obj hi lo = nI 0 := if_neg (fun c => h (by unfold c_kind; rw [c]; decide))
theorem rl_of (hX : XR P T gT Q β F D z nn g0 g1 g3 g4 g5 gn tq C S Sr) (hf : f < 100) (hw : rlT P T m f j e) : ∃ a N zm : Nat, 108 ≤ m ∧ (sS Sr)[m - 108]? = some (12, zm) ∧ sV Sr (100 * m + f) = .ref a ∧ isK Sr a 1 N ∧ N < 2 ^ 20 ∧ (a < 62 ∨ 106 < a) ∧ j < N ∧ sL Sr a j = e := by
  obtain ⟨a, N, zm, h1, h2, h3, h4, h5, h6, h7, h8⟩ := hw
  obtain ⟨_, _, _, ⟨l, b4⟩, b5, _, b7, _⟩ := hX.2.2.2.2.2.2.2.2.2.1
  have hlt := (List.getElem?_eq_some_iff.mp h2).1
  have h11 := hX.2.2.2.2.2.2.2.2.2.2.1 a h6
  have h105 := isK_105 h4
  exact ⟨a, N, zm, h1, by rw [b4, List.getElem?_append_left hlt]; exact h2, by rw [(b7 m zm h1 h2 f hf).2]; exact h3, isK_A b4 h4, h5, by omega, h7, by rw [(b5 a h6).2]; exact h8⟩
theorem ri_of (hX : XR P T gT Q β F D z nn g0 g1 g3 g4 g5 gn tq C S Sr) (hf : f < 100) (hw : riT P T m f j ei) : ∃ a N zm : Nat, 108 ≤ m ∧ (sS Sr)[m - 108]? = some (12, zm) ∧ sV Sr (100 * m + f) = .ref a ∧ isK Sr a 0 N ∧ N < 2 ^ 20 ∧ (a < 62 ∨ 106 < a) ∧ j < N ∧ sA Sr a j = ei := by
  obtain ⟨a, N, zm, h1, h2, h3, h4, h5, h6, h7, h8⟩ := hw
  obtain ⟨_, _, _, ⟨l, b4⟩, b5, _, b7, _⟩ := hX.2.2.2.2.2.2.2.2.2.1
  have hlt := (List.getElem?_eq_some_iff.mp h2).1
  have h11 := hX.2.2.2.2.2.2.2.2.2.2.1 a h6
  have h105 := isK_105 h4
  exact ⟨a, N, zm, h1, by rw [b4, List.getElem?_append_left hlt]; exact h2, by rw [(b7 m zm h1 h2 f hf).2]; exact h3, isK_A b4 h4, h5, by omega, h7, by rw [(b5 a h6).1]; exact h8⟩
theorem const_S (h : CI F loc par ty G tq (x :: r) S) (hpc : PC w pT S) (hck : clk S) (h5 : sI S 5216 = nI (vP x)) (hp : vP x + 1 < pT) (hw0 : w (vP x) = nI 16) (hw1 : w (vP x + 1) = nI c) (hc : c < 5200) (hk : c_kind hi = nI 1 ∨ c_kind hi = nI 2 ∨ c_kind hi = nI 3) (h25 : sL S 25 c = hi) (h26 : sL S 26 c = lo) (h6 : vH x + 1 ≤ 600) (hq : vQ x + 2 < 2 ^ 20) (hq2 : q' < 2 ^ 20) (hr : ∀ P T, St P T → cvO P T (vM x) (vQ x) hi lo q') (hok : ok (vAt x (vP x + 2) q' (vH x + 1, vU x, vL x) :: r)) : stp St F loc par G tq w pT (d + 21) (x :: r) S ok := by
  have m161 := ml_161
  have m162 := ml_162
  have m350 := ml_350
  have hr30 : r.length ≤ 30 := h.2.2.2.2.2.2.1.2.2.2
  have hr1 := rd_T (d := d + 19) hpc h5 (by omega)
  rw [hw0] at hr1
  have hr2 := rd_T (d := d + 18) (PC_I (i := 5216) (k := nI (vP x + 1)) hpc (by decide)) (rIe _ _ _) hp
  rw [hw1, wI_wI] at hr2
  have hk4 : c_kind hi ≠ nI 4 := fun c => by
    rcases hk with c' | c' | c' <;> rw [c'] at c <;> exact absurd c (by decide)
  have hk5 : c_kind hi ≠ nI 5 := fun c => by
    rcases hk with c' | c' | c' <;> rw [c'] at c <;> exact absurd c (by decide)
  have hk0 : c_kind hi ≠ 0 := fun c => by
    rcases hk with c' | c' | c' <;> rw [c'] at c <;> exact absurd c (by decide)
  have q1 := constantHi_T (d := d + 17) (S := wI 5216 (nI (vP x + 1 + 1)) S) hc
  have q2 := constantLo_T (d := d + 17) (S := wI 5216 (nI (vP x + 1 + 1)) S) hc
  have e1 : sL (wI 5216 (nI (vP x + 1 + 1)) S) 25 c = hi := h25
  have e2 : sL (wI 5216 (nI (vP x + 1 + 1)) S) 26 c = lo := h26
  rw [e1] at q1
  rw [e2] at q2
  refine psh_S (hi := hi) (lo := lo) (p0 := vP x + 2) (p := vP x + 2) (q := q') (o := 0) (S0 := wI 5216 (nI (vP x + 1)) S) h hpc hck (by omega) hr1 rfl (fun S' _ h52 hA => ?_) (ob_0 hk4) (by omega) (Or.inl rfl) hk0 (Or.inl ⟨rfl, hk5⟩) h6 hq2 (fun P T gT Q β D z nn g0 g1 g3 g4 g5 gn Sr hS hX => ?_) hok
  · have ha : Ans (d + 20) 162 [.ref 52, .int (nI c)] (wI 5216 (nI (vP x + 1 + 1)) S) (some (.int (nI 0))) S' := Ans.of (by rw [m162]; exact Nat.le_of_ble_eq_true rfl) (Bod.lv (by rfl) (mCo_1 (d := d + 11) (q1.up (by omega)) (q2.up (by omega)) (hA.up (by omega))))
    rw [wI_id h52]
    exact Ans.of (by rw [m161]; exact Nat.le_of_ble_eq_true rfl) (Bod.lv (by rfl) (mNm_1 (d := d + 12) (op := 16) (by omega) rfl (hr2.up (by omega)) (by omega) (ha.up (by omega))))
  · obtain ⟨t1, t2, t3, t4⟩ := XR_top hX
    rcases hr P T hS with ⟨c1, c2, c3, c4⟩ | ⟨c1, j, hj, c3, c4, c5, c6⟩ | ⟨j, a, b, hj, c3, c4, c5, c6, c7, c8⟩
    · subst c4
      obtain ⟨a, N, zm, g1, g2, g3, g4, gN', g6, g7, g8⟩ := rw_of hX c3
      exact ⟨nI 0, 0, 0, Or.inr (Or.inl ⟨c1, c2, rfl⟩), fun W hA => rRn_1 (ftR_of (XR_top hX) hr30 (rw_of hX c3) (by omega) (by omega)) (Or.inr rfl) (Ans.of (by rw [m350]; exact Nat.le_of_ble_eq_true rfl) (Bod.lv (by rfl) (rOn_3 (d := d + 13) t1 (by omega) (by omega) t2 t3 g1 t4 g2 g3 g4 gN' g7 g8 (by omega) rfl (hA.up (by omega)))))⟩
    · subst c6
      obtain ⟨a, N, zm, g1, g2, g3, g4, gN', g6, g7, g8, g9, g10, g11⟩ := rw_two hX c3 c4
      obtain ⟨a2, N2, zm2, u1, u2, u3, u4, u5, u6, u7, u8⟩ := rl_of hX (by omega) c5
      have e8 : sL (wA 95 r.length (nI (vQ x + 2)) Sr) a2 j = lo := u8
      refine ⟨nI 1, lo, 0, Or.inr (Or.inr (Or.inl ⟨c1, rfl, rfl⟩)), fun W hA => rRn_1 (ftR_of (XR_top hX) hr30 (rw_of hX c3) (by omega) (by omega)) (Or.inr rfl) (Ans.of (by rw [m350]; exact Nat.le_of_ble_eq_true rfl) (Bod.lv (by rfl) (rOn_4 (d := d + 13) t1 (by omega) (by omega) t2 t3 g1 t4 g2 g3 g4 gN' g7 g8 (by omega) rfl u3 u4 u5 g9 (g11 _ _) hj u7 (c1 := ?_))))⟩
      show Ans (d + 21) 353 [.ref 61, .long (sL (wA 95 r.length (nI (vQ x + 2)) Sr) a2 j)] (wA 95 r.length (nI (vQ x + 2)) Sr) none W
      rw [e8]
      exact Ans.of (by rw [ml_353]; exact Nat.le_of_ble_eq_true rfl) (Bod.lv (by rfl) (rPi_1 (d := d + 12) (hA.up (by omega))))
    · subst c8
      obtain ⟨aa, N, zm, g1, g2, g3, g4, gN', g6, g7, g8, g9, g10, g11⟩ := rw_two hX c3 c4
      obtain ⟨a2, N2, zm2, u1, u2, u3, u4, u5, u6, u7, u8⟩ := rl_of hX (by omega) c5
      obtain ⟨a3, N3, zm3, v1, v2, v3, v4, v5, v6, v7, v8⟩ := rl_of hX (by omega) c6
      refine ⟨nI 2, a, b, Or.inr (Or.inr (Or.inr (Or.inl ⟨rfl, c7⟩))), fun W hA => rRn_1 (ftR_of (XR_top hX) hr30 (rw_of hX c3) (by omega) (by omega)) (Or.inr rfl) (Ans.of (by rw [m350]; exact Nat.le_of_ble_eq_true rfl) (Bod.lv (by rfl) (rOn_5 (d := d + 13) t1 (by omega) (by omega) t2 t3 g1 t4 g2 g3 g4 gN' g7 g8 (by omega) rfl u3 u4 u5 g9 (g11 _ _) hj u7 v3 v4 v5 v7 (c1 := ?_))))⟩
      show Ans (d + 21) 352 [.ref 61, .int (nI 2), .long (sL (wA 95 r.length (nI (vQ x + 2)) Sr) a2 j), .long (sL (wA 95 r.length (nI (vQ x + 2)) Sr) a3 j)] (wA 95 r.length (nI (vQ x + 2)) Sr) none W
      rw [show sL (wA 95 r.length (nI (vQ x + 2)) Sr) a2 j = a from u8, show sL (wA 95 r.length (nI (vQ x + 2)) Sr) a3 j = b from v8]
      exact hA.up (by omega)
end
