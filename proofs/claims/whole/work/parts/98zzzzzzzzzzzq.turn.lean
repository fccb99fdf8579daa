/-! A STEP OF BOTH MACHINES: operands, places; a deed as a step -/
/-- the class's program -/
def PC (w : Nat → Int32) (pT : Nat) (S : cS) : Prop := sA S 24 = w ∧ sI S 2307 = nI pT ∧ pT ≤ 40960
/-- word q of the reference's code m is e; at a run's start T -/
def rwT (P : Nat → Prop) (T : cS) (m q : Nat) (e : Int32) : Prop := ∃ a N zm : Nat, 108 ≤ m ∧ (sS T)[m - 108]? = some (12, zm) ∧ sV T (100 * m + 0) = .ref a ∧ isK T a 0 N ∧ N < 2 ^ 20 ∧ P a ∧ q < N ∧ sA T a q = e
/-- .. at any state -/
def rwS (S : cS) (m q : Nat) (e : Int32) : Prop := ∃ a N zm : Nat, 108 ≤ m ∧ (sS S)[m - 108]? = some (12, zm) ∧ sV S (100 * m + 0) = .ref a ∧ isK S a 0 N ∧ N < 2 ^ 20 ∧ (a < 62 ∨ 106 < a) ∧ q < N ∧ sA S a q = e
/-- what once looks at first: the frame, its place, its code -/
def tpS (S : cS) (n m q : Nat) : Prop := sI S 6159 = nI (n + 1) ∧ sA S 95 n = nI q ∧ q < 2 ^ 20 ∧ sQ S 94 n = some m
section
variable {P : Nat → Prop} {T : cS} {gT : Nat} {Q : Nat → Prop} {β β' : Nat → Nat} {F : Nat → Nat → Nat → Prop} {loc par : Nat → Nat → Nat} {ty : Nat → Nat × Nat} {G : Nat → Nat → Nat → Nat × Nat × LL → Prop} {D D' K : List Nat} {z nn g0 g1 g3 g4 g5 gn d d' v n m p q q' pT : Nat} {tq : Nat → Nat × Nat} {C r : List Lv} {x : Lv} {S S' S1 X W Sc Sr : cS} {w : Nat → Int32} {e e1 : Int32}
theorem PC_r (h : PC w pT S) (hF : CFr S S') : PC w pT S' := ⟨(hF.2.2.2.1 24 (by decide)).trans h.1, (hF.2.2.1 2307 (by decide)).trans h.2.1, h.2.2⟩
theorem PC_I {i : Nat} {k : Int32} (h : PC w pT S) (hi : i ≠ 2307) : PC w pT (wI i k S) := ⟨h.1, (show sI (wI i k S) 2307 = sI S 2307 from if_neg (fun c => hi c.symm)).trans h.2.1, h.2.2⟩
theorem rd_T (h : PC w pT S) (h5 : sI S 5216 = nI p) (hp : p < pT) : Ans (d + 2) 127 [.ref 52] S (some (.int (w p))) (wI 5216 (nI (p + 1)) S) := by
  rw [← h.1]
  exact operand_ev h5 h.2.1 hp h.2.2
theorem CI_pl {k : Int32} (h : CI F loc par ty G tq C S) : CI F loc par ty G tq C (wI 5216 k S) := CI_F (L1 := [5216]) (L2 := []) (L3 := []) h ⟨rfl, fun _ _ => rfl, rfl, rfl, rfl, rfl, fun i hi => if_neg (fun c => hi (List.mem_singleton.mpr c)), fun _ _ => rfl⟩ (by decide) (fun a ha => by cases ha) (fun a ha => by cases ha)
theorem XR_pl {k : Int32} (h : XR P T gT Q β F D z nn g0 g1 g3 g4 g5 gn tq C S Sr) : XR P T gT Q β F D z nn g0 g1 g3 g4 g5 gn tq C (wI 5216 k S) Sr := by
  obtain ⟨a1, a2, a3, a4, a5, a6, a7, a8, a9, a10, a11⟩ := h
  have eI : ∀ i, i ≠ 5216 → sI (wI 5216 k S) i = sI S i := fun i hi => if_neg hi
  refine ⟨HR_c a1 (fun q => Iff.rfl) (fun j _ => ⟨rfl, rfl, rfl, rfl, rfl, fun _ _ => rfl⟩), a2, a3, stkR_s a4 rfl rfl rfl rfl rfl, a5, a6, a7, lnC_E a8 rfl (eI 5217 (by decide)) rfl, ?_, a10, a11⟩
  obtain ⟨⟨b1, b2⟩, ⟨o, o1, o2, o3, o4⟩, hu⟩ := a9
  exact ⟨⟨by rw [eI 5218 (by decide)]; exact b1, by rw [eI 5219 (by decide)]; exact b2⟩, ⟨o, o1, by rw [eI 4906 (by decide)]; exact o2, o3, o4⟩, hu⟩
theorem CI_at (h : CI F loc par ty G tq (x :: r) S) (p q : Nat) : CI F loc par ty G tq (vAt x p q (vS x) :: r) S := by
  obtain ⟨a1, a2, a3, a4, a5, a6, a7, a8, a9⟩ := h
  refine ⟨a1, a2, a3, a4, ?_, a6, a7, a8, a9⟩
  cases r with
  | nil => exact a5
  | cons y r => exact a5
theorem rCal_95 {k : Int32} (h : rCal β S C) (hn : C.length ≤ n) : rCal β (wA 95 n k S) C := by
  induction C with
  | nil => exact h
  | cons x r ih =>
    rw [List.length_cons] at hn
    obtain ⟨⟨h1, h2, h3, h4, h5, h6, h7⟩, h8⟩ := h
    refine ⟨⟨h1, ?_, h3, h4, h5, h6, h7⟩, ih h8 (by omega)⟩
    show (if 95 = 95 then va_up (sA S 95) n k else sA S 95) r.length = _
    rw [if_pos rfl]
    rw [show va_up (sA S 95) n k r.length = sA S 95 r.length from if_neg (by omega)]
    exact h2
theorem XR_at (h : XR P T gT Q β F D z nn g0 g1 g3 g4 g5 gn tq (x :: r) S Sr) (hq : q' < 2 ^ 20) (p : Nat) : XR P T gT Q β F D z nn g0 g1 g3 g4 g5 gn tq (vAt x p q' (vS x) :: r) S (wA 95 r.length (nI q') Sr) := by
  obtain ⟨a1, a2, a3, a4, a5, a6, a7, a8, a9, a10, a11⟩ := h
  have eA : ∀ a, a ≠ 95 → sA (wA 95 r.length (nI q') Sr) a = sA Sr a := fun a ha => if_neg ha
  have hgs := a3.2.2.2.2.2.2.2.1
  have hN : tnE Sr (wA 95 r.length (nI q') Sr) g0 g1 := ⟨eA g0 (nG_ne hgs.1 (by omega)), eA g1 (nG_ne hgs.2.1 (by omega)), rfl, rfl⟩
  refine ⟨HR_M (rM_A ⟨by omega, by omega⟩ (rM.refl _)) hN a1, NMw_E a2 rfl rfl rfl rfl hN (eA g3 (nG_ne hgs.2.2.1 (by omega))) rfl rfl, rTb_E a3 rfl (fun _ _ _ => rfl) rfl, stkR_s (C := x :: r) a4 rfl rfl (eA 91 (by omega)) rfl rfl, ?_, a6, triX_E (C := x :: r) a7 (fun a ha => eA a (fun c => by rw [c] at ha; revert ha; decide)), lnC_E (C := x :: r) a8 rfl rfl (eA 98 (by omega)), ?_, ?_, a11⟩
  · obtain ⟨⟨h1, h2, h3, h4, h5, h6, h7⟩, h8⟩ := a5
    refine ⟨⟨h1, ?_, h3, h4, h5, h6, hq⟩, rCal_95 h8 (Nat.le_refl _)⟩
    show (if 95 = 95 then va_up (sA Sr 95) r.length (nI q') else sA Sr 95) r.length = nI q'
    rw [if_pos rfl]
    exact if_pos rfl
  · obtain ⟨b1, ⟨o, o1, o2, o3, o4⟩, hu⟩ := a9
    exact ⟨b1, ⟨o, o1, o2, o3, fun i hi => by rw [eA 106 (by omega)]; exact o4 i hi⟩, hu⟩
  · obtain ⟨b1, b2, b3, b4, b5, b6, b7, b8, b9⟩ := a10
    exact ⟨b1, b2, b3, b4, fun a ha => ⟨by rw [eA a (by have := (a11.1 a ha).2; omega)]; exact (b5 a ha).1, (b5 a ha).2⟩, b6, b7, b8, b9⟩
theorem isK_105 {S : cS} {a t N : Nat} (h : isK S a t N) : a ≠ 105 := fun c => by
  subst c
  rcases h with ⟨_, c⟩ | ⟨c, _⟩
  · have e : fixK 105 = none := by decide
    rw [e] at c
    cases c
  · omega
/-- the words of a text are what they were -/
theorem rw_of (hX : XR P T gT Q β F D z nn g0 g1 g3 g4 g5 gn tq C S Sr) (hw : rwT P T m q e) : rwS Sr m q e := by
  obtain ⟨a, N, zm, h1, h2, h3, h4, h5, h6, h7, h8⟩ := hw
  obtain ⟨_, _, _, ⟨l, b4⟩, b5, _, b7, _⟩ := hX.2.2.2.2.2.2.2.2.2.1
  have hlt := (List.getElem?_eq_some_iff.mp h2).1
  have h11 := hX.2.2.2.2.2.2.2.2.2.2.1 a h6
  have h105 := isK_105 h4
  exact ⟨a, N, zm, h1, by rw [b4, List.getElem?_append_left hlt]; exact h2, by rw [(b7 m zm h1 h2 0 (by omega)).2]; exact h3, isK_A b4 h4, h5, by omega, h7, by rw [(b5 a h6).1]; exact h8⟩
/-- what once looks at first -/
theorem XR_top (hX : XR P T gT Q β F D z nn g0 g1 g3 g4 g5 gn tq (x :: r) S Sr) : tpS Sr r.length (vM x) (vQ x) := ⟨hX.2.2.2.2.2.1.2.1, hX.2.2.2.2.1.1.2.1, hX.2.2.2.2.1.1.2.2.2.2.2.2, hX.2.2.2.2.1.1.1⟩
def spW : List Nat := [0, 1, 2, 3, 4, 5, 6, 7, 11, 12, 13, 14, 17, 32, 34, 40, 42]
def wdW : List Nat := [8, 16, 18, 19, 22, 24, 26, 37, 38]
/-- once, for a deed without an operand -/
theorem tpS_F {tp : Nat} (h : tpS S n m q) (hF : sFr tp S W) : tpS W n m q := by
  obtain ⟨h1, h2, h3, h4⟩ := h
  exact ⟨by rw [hF.2.2.2.2.2.1 _ (by omega)]; exact h1, by rw [hF.2.2.2.2.2.2.1 _ (by omega) (by omega) (by omega)]; exact h2, h3, by rw [hF.2.1]; exact h4⟩
theorem tpS_at (h : tpS S n m q) (hq : q' < 2 ^ 20) : tpS (wA 95 n (nI q') S) n m q' := by
  obtain ⟨h1, h2, h3, h4⟩ := h
  refine ⟨h1, ?_, hq, h4⟩
  show (if 95 = 95 then va_up (sA S 95) n (nI q') else sA S 95) n = nI q'
  rw [if_pos rfl]
  exact if_pos rfl
theorem rwS_at {k : Int32} (h : rwS S m q e) : rwS (wA 95 n k S) m q e := by
  obtain ⟨a, N, zm, h1, h2, h3, h4, h5, h6, h7, h8⟩ := h
  refine ⟨a, N, zm, h1, h2, h3, h4, h5, h6, h7, ?_⟩
  show (if a = 95 then _ else sA S a) q = e
  rw [if_neg (by omega)]
  exact h8
theorem rwS_F {tp : Nat} (h : rwS S m q e) (hF : sFr tp S W) : rwS W m q e := by
  obtain ⟨a, N, zm, h1, h2, h3, h4, h5, h6, h7, h8⟩ := h
  exact ⟨a, N, zm, h1, by rw [hF.1]; exact h2, by rw [hF.2.2.1]; exact h3, isK_A (l := []) (by rw [hF.1, List.append_nil]) h4, h5, h6, h7, by rw [hF.2.2.2.2.2.2.1 a (by omega) (by omega) (by omega)]; exact h8⟩
theorem once_n {k : Nat} (hX : tpS Sr n m q) (hr : n ≤ 30) (hw : rwS Sr m q (nI k)) (hk : k < 64) (hs : k ∉ spW) (hn : k ∉ wdW) {b : Int32} (hb : b = 0 ∨ b = 1) (hA : Ans (d + 8) 400 [.ref 61, .int (nI k), .int (nI 0)] (wA 95 n (nI (q + 1)) Sr) (some (.int b)) W) : Ans (d + 9) 350 [.ref 61] Sr (some (.int b)) W := by
  have m350 := ml_350
  obtain ⟨t1, t2, t3, t4⟩ := hX
  obtain ⟨a, N, zm, h1, h2, h3, h4, h5, h6, h7, h8⟩ := hw
  have ne : ∀ j, j ∈ spW ∨ j ∈ wdW → k ≠ j := fun j hj c => by
    rcases hj with hj | hj
    · exact hs (c ▸ hj)
    · exact hn (c ▸ hj)
  rcases hb with e0 | e0
  · subst e0
    exact Ans.of (by rw [m350]; exact Nat.le_of_ble_eq_true rfl) (Bod.lv (by rfl) (rOn_51 (d := d) t1 (by omega) (by omega) t2 t3 h1 t4 h2 h3 h4 h5 h7 h8 (by omega) hk (ne 0 (by decide)) (ne 1 (by decide)) (ne 2 (by decide)) (ne 3 (by decide)) (ne 4 (by decide)) (ne 5 (by decide)) (ne 6 (by decide)) (ne 7 (by decide)) (ne 11 (by decide)) (ne 12 (by decide)) (ne 13 (by decide)) (ne 14 (by decide)) (ne 17 (by decide)) (ne 32 (by decide)) (ne 34 (by decide)) (ne 40 (by decide)) (ne 42 (by decide)) (ne 8 (by decide)) (ne 16 (by decide)) (ne 18 (by decide)) (ne 19 (by decide)) (ne 22 (by decide)) (ne 24 (by decide)) (ne 26 (by decide)) (ne 37 (by decide)) (ne 38 (by decide)) hA))
  · subst e0
    exact Ans.of (by rw [m350]; exact Nat.le_of_ble_eq_true rfl) (Bod.lv (by rfl) (rOn_50 (d := d) t1 (by omega) (by omega) t2 t3 h1 t4 h2 h3 h4 h5 h7 h8 (by omega) hk (ne 0 (by decide)) (ne 1 (by decide)) (ne 2 (by decide)) (ne 3 (by decide)) (ne 4 (by decide)) (ne 5 (by decide)) (ne 6 (by decide)) (ne 7 (by decide)) (ne 11 (by decide)) (ne 12 (by decide)) (ne 13 (by decide)) (ne 14 (by decide)) (ne 17 (by decide)) (ne 32 (by decide)) (ne 34 (by decide)) (ne 40 (by decide)) (ne 42 (by decide)) (ne 8 (by decide)) (ne 16 (by decide)) (ne 18 (by decide)) (ne 19 (by decide)) (ne 22 (by decide)) (ne 24 (by decide)) (ne 26 (by decide)) (ne 37 (by decide)) (ne 38 (by decide)) hA))
end
