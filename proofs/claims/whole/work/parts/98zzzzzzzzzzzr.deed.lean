/-! A STEP OF BOTH MACHINES: deeds as steps -/
section
variable {P : Nat → Prop} {T : cS} {gT : Nat} {Q : Nat → Prop} {β β' : Nat → Nat} {F : Nat → Nat → Nat → Prop} {loc par : Nat → Nat → Nat} {ty : Nat → Nat × Nat} {G : Nat → Nat → Nat → Nat × Nat × LL → Prop} {D D' K : List Nat} {z nn g0 g1 g3 g4 g5 gn d d' v n m p q q' pT k e1 oc : Nat} {tq : Nat → Nat × Nat} {C r : List Lv} {x : Lv} {S S' S1 X W Sc Sr : cS} {w : Nat → Int32} {s' : Nat × Nat × LL}
/-- once, for a deed with an operand -/
theorem once_w (hX : tpS Sr n m q) (hr : n ≤ 30) (hw : rwS Sr m q (nI k)) (hw2 : rwS Sr m (q + 1) (nI e1)) (he : e1 < 2 ^ 20) (hn : k ∈ wdW) {b : Int32} (hb : b = 0 ∨ b = 1) (hA : Ans (d + 8) 400 [.ref 61, .int (nI k), .int (nI e1)] (wA 95 n (nI (q + 2)) Sr) (some (.int b)) W) : Ans (d + 9) 350 [.ref 61] Sr (some (.int b)) W := by
  have m350 := ml_350
  obtain ⟨t1, t2, t3, t4⟩ := hX
  obtain ⟨a0, N0, zm0, _, _, h3', _, _, _, _, h8'⟩ := hw
  obtain ⟨a, N, zm, h1, h2, h3, h4, h5, h6, h7, h8⟩ := hw2
  have ea : a0 = a := Value.ref.inj (h3'.symm.trans h3)
  subst ea
  have h9 : sA (wA 95 (n + 1 - 1) (nI (q + 2)) Sr) a0 (q + 1) = nI e1 := by
    show (if a0 = 95 then _ else sA Sr a0) (q + 1) = _
    rw [if_neg (by omega)]
    exact h8
  simp only [wdW, List.mem_cons, List.not_mem_nil, or_false] at hn
  rcases hn with c | c | c | c | c | c | c | c | c
  · subst c
    rcases hb with e0 | e0
    · subst e0
      exact Ans.of (by rw [m350]; exact Nat.le_of_ble_eq_true rfl) (Bod.lv (by rfl) (rOn_35 (d := d) t1 (by omega) (by omega) t2 t3 h1 t4 h2 h3 h4 h5 (by omega) h8' (by omega) (by omega) (by omega) (by omega) (by omega) (by omega) (by omega) (by omega) (by omega) (by omega) (by omega) (by omega) (by omega) (by omega) (by omega) (by omega) (by omega) (by omega) (by omega)  rfl h7 h9 he hA))
    · subst e0
      exact Ans.of (by rw [m350]; exact Nat.le_of_ble_eq_true rfl) (Bod.lv (by rfl) (rOn_34 (d := d) t1 (by omega) (by omega) t2 t3 h1 t4 h2 h3 h4 h5 (by omega) h8' (by omega) (by omega) (by omega) (by omega) (by omega) (by omega) (by omega) (by omega) (by omega) (by omega) (by omega) (by omega) (by omega) (by omega) (by omega) (by omega) (by omega) (by omega) (by omega)  rfl h7 h9 he hA))
  · subst c
    rcases hb with e0 | e0
    · subst e0
      exact Ans.of (by rw [m350]; exact Nat.le_of_ble_eq_true rfl) (Bod.lv (by rfl) (rOn_37 (d := d) t1 (by omega) (by omega) t2 t3 h1 t4 h2 h3 h4 h5 (by omega) h8' (by omega) (by omega) (by omega) (by omega) (by omega) (by omega) (by omega) (by omega) (by omega) (by omega) (by omega) (by omega) (by omega) (by omega) (by omega) (by omega) (by omega) (by omega) (by omega) (by omega) rfl h7 h9 he hA))
    · subst e0
      exact Ans.of (by rw [m350]; exact Nat.le_of_ble_eq_true rfl) (Bod.lv (by rfl) (rOn_36 (d := d) t1 (by omega) (by omega) t2 t3 h1 t4 h2 h3 h4 h5 (by omega) h8' (by omega) (by omega) (by omega) (by omega) (by omega) (by omega) (by omega) (by omega) (by omega) (by omega) (by omega) (by omega) (by omega) (by omega) (by omega) (by omega) (by omega) (by omega) (by omega) (by omega) rfl h7 h9 he hA))
  · subst c
    rcases hb with e0 | e0
    · subst e0
      exact Ans.of (by rw [m350]; exact Nat.le_of_ble_eq_true rfl) (Bod.lv (by rfl) (rOn_39 (d := d) t1 (by omega) (by omega) t2 t3 h1 t4 h2 h3 h4 h5 (by omega) h8' (by omega) (by omega) (by omega) (by omega) (by omega) (by omega) (by omega) (by omega) (by omega) (by omega) (by omega) (by omega) (by omega) (by omega) (by omega) (by omega) (by omega) (by omega) (by omega) (by omega) (by omega) rfl h7 h9 he hA))
    · subst e0
      exact Ans.of (by rw [m350]; exact Nat.le_of_ble_eq_true rfl) (Bod.lv (by rfl) (rOn_38 (d := d) t1 (by omega) (by omega) t2 t3 h1 t4 h2 h3 h4 h5 (by omega) h8' (by omega) (by omega) (by omega) (by omega) (by omega) (by omega) (by omega) (by omega) (by omega) (by omega) (by omega) (by omega) (by omega) (by omega) (by omega) (by omega) (by omega) (by omega) (by omega) (by omega) (by omega) rfl h7 h9 he hA))
  · subst c
    rcases hb with e0 | e0
    · subst e0
      exact Ans.of (by rw [m350]; exact Nat.le_of_ble_eq_true rfl) (Bod.lv (by rfl) (rOn_41 (d := d) t1 (by omega) (by omega) t2 t3 h1 t4 h2 h3 h4 h5 (by omega) h8' (by omega) (by omega) (by omega) (by omega) (by omega) (by omega) (by omega) (by omega) (by omega) (by omega) (by omega) (by omega) (by omega) (by omega) (by omega) (by omega) (by omega) (by omega) (by omega) (by omega) (by omega) (by omega) rfl h7 h9 he hA))
    · subst e0
      exact Ans.of (by rw [m350]; exact Nat.le_of_ble_eq_true rfl) (Bod.lv (by rfl) (rOn_40 (d := d) t1 (by omega) (by omega) t2 t3 h1 t4 h2 h3 h4 h5 (by omega) h8' (by omega) (by omega) (by omega) (by omega) (by omega) (by omega) (by omega) (by omega) (by omega) (by omega) (by omega) (by omega) (by omega) (by omega) (by omega) (by omega) (by omega) (by omega) (by omega) (by omega) (by omega) (by omega) rfl h7 h9 he hA))
  · subst c
    rcases hb with e0 | e0
    · subst e0
      exact Ans.of (by rw [m350]; exact Nat.le_of_ble_eq_true rfl) (Bod.lv (by rfl) (rOn_43 (d := d) t1 (by omega) (by omega) t2 t3 h1 t4 h2 h3 h4 h5 (by omega) h8' (by omega) (by omega) (by omega) (by omega) (by omega) (by omega) (by omega) (by omega) (by omega) (by omega) (by omega) (by omega) (by omega) (by omega) (by omega) (by omega) (by omega) (by omega) (by omega) (by omega) (by omega) (by omega) (by omega) rfl h7 h9 he hA))
    · subst e0
      exact Ans.of (by rw [m350]; exact Nat.le_of_ble_eq_true rfl) (Bod.lv (by rfl) (rOn_42 (d := d) t1 (by omega) (by omega) t2 t3 h1 t4 h2 h3 h4 h5 (by omega) h8' (by omega) (by omega) (by omega) (by omega) (by omega) (by omega) (by omega) (by omega) (by omega) (by omega) (by omega) (by omega) (by omega) (by omega) (by omega) (by omega) (by omega) (by omega) (by omega) (by omega) (by omega) (by omega) (by omega) rfl h7 h9 he hA))
  · subst c
    rcases hb with e0 | e0
    · subst e0
      exact Ans.of (by rw [m350]; exact Nat.le_of_ble_eq_true rfl) (Bod.lv (by rfl) (rOn_45 (d := d) t1 (by omega) (by omega) t2 t3 h1 t4 h2 h3 h4 h5 (by omega) h8' (by omega) (by omega) (by omega) (by omega) (by omega) (by omega) (by omega) (by omega) (by omega) (by omega) (by omega) (by omega) (by omega) (by omega) (by omega) (by omega) (by omega) (by omega) (by omega) (by omega) (by omega) (by omega) (by omega) (by omega) rfl h7 h9 he hA))
    · subst e0
      exact Ans.of (by rw [m350]; exact Nat.le_of_ble_eq_true rfl) (Bod.lv (by rfl) (rOn_44 (d := d) t1 (by omega) (by omega) t2 t3 h1 t4 h2 h3 h4 h5 (by omega) h8' (by omega) (by omega) (by omega) (by omega) (by omega) (by omega) (by omega) (by omega) (by omega) (by omega) (by omega) (by omega) (by omega) (by omega) (by omega) (by omega) (by omega) (by omega) (by omega) (by omega) (by omega) (by omega) (by omega) (by omega) rfl h7 h9 he hA))
  · subst c
    rcases hb with e0 | e0
    · subst e0
      exact Ans.of (by rw [m350]; exact Nat.le_of_ble_eq_true rfl) (Bod.lv (by rfl) (rOn_47 (d := d) t1 (by omega) (by omega) t2 t3 h1 t4 h2 h3 h4 h5 (by omega) h8' (by omega) (by omega) (by omega) (by omega) (by omega) (by omega) (by omega) (by omega) (by omega) (by omega) (by omega) (by omega) (by omega) (by omega) (by omega) (by omega) (by omega) (by omega) (by omega) (by omega) (by omega) (by omega) (by omega) (by omega) (by omega) rfl h7 h9 he hA))
    · subst e0
      exact Ans.of (by rw [m350]; exact Nat.le_of_ble_eq_true rfl) (Bod.lv (by rfl) (rOn_46 (d := d) t1 (by omega) (by omega) t2 t3 h1 t4 h2 h3 h4 h5 (by omega) h8' (by omega) (by omega) (by omega) (by omega) (by omega) (by omega) (by omega) (by omega) (by omega) (by omega) (by omega) (by omega) (by omega) (by omega) (by omega) (by omega) (by omega) (by omega) (by omega) (by omega) (by omega) (by omega) (by omega) (by omega) (by omega) rfl h7 h9 he hA))
  · subst c
    rcases hb with e0 | e0
    · subst e0
      exact Ans.of (by rw [m350]; exact Nat.le_of_ble_eq_true rfl) (Bod.lv (by rfl) (rOn_49 (d := d) t1 (by omega) (by omega) t2 t3 h1 t4 h2 h3 h4 h5 (by omega) h8' (by omega) (by omega) (by omega) (by omega) (by omega) (by omega) (by omega) (by omega) (by omega) (by omega) (by omega) (by omega) (by omega) (by omega) (by omega) (by omega) (by omega) (by omega) (by omega) (by omega) (by omega) (by omega) (by omega) (by omega) (by omega) (by omega) rfl h7 h9 he hA))
    · subst e0
      exact Ans.of (by rw [m350]; exact Nat.le_of_ble_eq_true rfl) (Bod.lv (by rfl) (rOn_48 (d := d) t1 (by omega) (by omega) t2 t3 h1 t4 h2 h3 h4 h5 (by omega) h8' (by omega) (by omega) (by omega) (by omega) (by omega) (by omega) (by omega) (by omega) (by omega) (by omega) (by omega) (by omega) (by omega) (by omega) (by omega) (by omega) (by omega) (by omega) (by omega) (by omega) (by omega) (by omega) (by omega) (by omega) (by omega) (by omega) rfl h7 h9 he hA))
  · subst c
    rcases hb with e0 | e0
    · subst e0
      exact Ans.of (by rw [m350]; exact Nat.le_of_ble_eq_true rfl) (Bod.lv (by rfl) (rOn_53 (d := d) t1 (by omega) (by omega) t2 t3 h1 t4 h2 h3 h4 h5 (by omega) h8' (by omega) (by omega) (by omega) (by omega) (by omega) (by omega) (by omega) (by omega) (by omega) (by omega) (by omega) (by omega) (by omega) (by omega) (by omega) (by omega) (by omega) (by omega) (by omega) (by omega) (by omega) (by omega) (by omega) (by omega) (by omega) (by omega) (by omega) rfl h7 h9 he hA))
    · subst e0
      exact Ans.of (by rw [m350]; exact Nat.le_of_ble_eq_true rfl) (Bod.lv (by rfl) (rOn_52 (d := d) t1 (by omega) (by omega) t2 t3 h1 t4 h2 h3 h4 h5 (by omega) h8' (by omega) (by omega) (by omega) (by omega) (by omega) (by omega) (by omega) (by omega) (by omega) (by omega) (by omega) (by omega) (by omega) (by omega) (by omega) (by omega) (by omega) (by omega) (by omega) (by omega) (by omega) (by omega) (by omega) (by omega) (by omega) (by omega) (by omega) rfl h7 h9 he hA))
/-- one turn of the class's loop -/
def tnC (d : Nat) (S S' : cS) : Prop := ∀ {tn : Nat} {v : Option Value} {Sf : cS}, tn < 1000000000 → (∀ lv1 ex, sm_get lv1 0 = some (.ref 52) → sm_get lv1 3 = some (.int ex) → sm_get lv1 4 = some (.int (nI 1)) → sm_get lv1 5 = some (.int (nI (tn + 1))) → Bod d 126 28 lv1 [] S' v Sf) → ∀ lv ex, sm_get lv 0 = some (.ref 52) → sm_get lv 3 = some (.int ex) → sm_get lv 4 = some (.int (nI 1)) → sm_get lv 5 = some (.int (nI tn)) → Bod d 126 28 lv [] S v Sf
/-- one turn with error e: isCaught is asked at S' -/
def tnE' (d : Nat) (S S' : cS) (e : Nat) : Prop := ∀ {tn : Nat} {v : Option Value} {Sf S4 : cS} {b : Nat}, tn < 1000000000 → (b = 0 ∨ b = 1) → Ans d 266 [.ref 52, .int (nI e)] S' (some (.int (nI b))) S4 → (∀ lv1, sm_get lv1 0 = some (.ref 52) → sm_get lv1 3 = some (.int (nI e)) → sm_get lv1 4 = some (.int (nI b)) → sm_get lv1 5 = some (.int (nI (tn + 1))) → Bod d 126 28 lv1 [] S4 v Sf) → ∀ lv ex, sm_get lv 0 = some (.ref 52) → sm_get lv 3 = some (.int ex) → sm_get lv 4 = some (.int (nI 1)) → sm_get lv 5 = some (.int (nI tn)) → Bod d 126 28 lv [] S v Sf
/-- the reference's next word is no end -/
def ftR (Sr : cS) : Prop := ∃ cl m zm a N q e : Nat, sI Sr 6159 = nI cl ∧ cl < 32 ∧ 1 ≤ cl ∧ 108 ≤ m ∧ sQ Sr 94 (cl - 1) = some m ∧ (sS Sr)[m - 108]? = some (12, zm) ∧ sV Sr (100 * m + 0) = .ref a ∧ isK Sr a 0 N ∧ N < 2 ^ 20 ∧ sA Sr 95 (cl - 1) = nI q ∧ q < N ∧ sA Sr a q = nI e ∧ e < 64 ∧ e ≠ 41
/-- words of the reference, one behind the other -/
def rRn (d : Nat) : Nat → cS → Int32 → cS → Prop
  | 0, S, b, W => b = 1 ∧ W = S
  | n + 1, S, b, W => ftR S ∧ ((b = 0 ∧ Ans d 350 [.ref 61] S (some (.int 0)) W) ∨ ∃ S1, Ans d 350 [.ref 61] S (some (.int 1)) S1 ∧ rRn d n S1 b W)
theorem rRn_1 {d : Nat} {S W : cS} {b : Int32} (hf : ftR S) (hb : b = 0 ∨ b = 1) (hA : Ans d 350 [.ref 61] S (some (.int b)) W) : ∃ n, rRn d n S b W := by
  rcases hb with c | c
  · subst c
    exact ⟨1, hf, Or.inl ⟨rfl, hA⟩⟩
  · subst c
    exact ⟨1, hf, Or.inr ⟨W, hA, rfl, rfl⟩⟩
theorem rRn_c {d : Nat} {S S1 W : cS} {b : Int32} (hf : ftR S) (hA : Ans d 350 [.ref 61] S (some (.int 1)) S1) (h : ∃ n, rRn d n S1 b W) : ∃ n, rRn d n S b W := by
  obtain ⟨n, h⟩ := h
  exact ⟨n + 1, hf, Or.inr ⟨S1, hA, h⟩⟩
/-- a step of both: it goes on at places p', q' with label s', or gives an error -/
def stepO (St : (Nat → Prop) → cS → Prop) (F : Nat → Nat → Nat → Prop) (loc par : Nat → Nat → Nat) (ty : Nat → Nat × Nat) (G : Nat → Nat → Nat → Nat × Nat × LL → Prop) (tq : Nat → Nat × Nat) (d : Nat) (x : Lv) (r : List Lv) (p' q' : Nat) (s' : Nat × Nat × LL) (S : cS) : Prop :=
  (∃ S', tnC d S S' ∧ CI F loc par ty G tq (vAt x p' q' s' :: r) S' ∧ sI S' 5216 = nI p' ∧ (∃ k, CFr (wI 5216 k S) S') ∧ ∀ P T gT Q β D z nn g0 g1 g3 g4 g5 gn Sr, St P T → XR P T gT Q β F D z nn g0 g1 g3 g4 g5 gn tq (x :: r) S Sr → ∃ Q' β' D' nn' h0 h1 h3 h4 h5 hn W, (∃ n, rRn (d + 1) n Sr 1 W) ∧ XR P T gT Q' β' F D' z nn' h0 h1 h3 h4 h5 hn tq (vAt x p' q' s' :: r) S' W) ∨ ∃ e S', (1 ≤ e ∧ e ≤ 99) ∧ tnE' d S S' e ∧ CI F loc par ty G tq (vAt x p' q' (vS x) :: r) S' ∧ (∃ k, CFr (wI 5216 k S) S') ∧ ∀ P T gT Q β D z nn g0 g1 g3 g4 g5 gn Sr, St P T → XR P T gT Q β F D z nn g0 g1 g3 g4 g5 gn tq (x :: r) S Sr → ∃ Q' β' D' nn' h0 h1 h3 h4 h5 hn W, (∃ n, rRn (d + 1) n Sr 0 W) ∧ sI W 6164 = nI e ∧ XRe P T gT Q' β' F D' z nn' h0 h1 h3 h4 h5 hn tq (vAt x p' q' (vS x)) r S' W
theorem ne_0 {e : Nat} (h : 1 ≤ e ∧ e ≤ 99) : sm_c1 .ne (nI e) true false = true := by
  show (if nI e = 0 then false else true) = true
  exact if_neg (nI_ne (b := 0) (by omega) (by omega) (by omega) : nI e ≠ nI 0)
/-- a deed of the class without an operand -/
theorem turn_0 {St : (Nat → Prop) → cS → Prop} {R : cS → Int32 → cS → Prop} (h : CI F loc par ty G tq (x :: r) S) (hpc : PC w pT S) (h5 : sI S 5216 = nI (vP x)) (hp : vP x < pT) (ho : 25 ≤ oc ∧ oc ≤ 43) (hw0 : w (vP x) = nI oc) (hq' : q' < 2 ^ 20) (hon : ∀ {P T gT Q β D z nn g0 g1 g3 g4 g5 gn Sr W} {b : Int32}, St P T → XR P T gT Q β F D z nn g0 g1 g3 g4 g5 gn tq (x :: r) S Sr → (b = 0 ∨ b = 1) → R (wA 95 r.length (nI q') Sr) b W → ∃ n, rRn (d + 9) n Sr b W) (hd : opG F loc par ty G tq (d + 8) 189 [.ref 53, .int (nI oc)] R (vAt x (vP x + 1) q' (vS x)) r s' (wI 5216 (nI (vP x + 1)) S)) : stepO St F loc par ty G tq (d + 8) x r (vP x + 1) q' s' S := by
  have hr := rd_T (d := d + 6) hpc h5 hp
  rw [hw0] at hr
  have e5 : ∀ {S'}, CFr (wI 5216 (nI (vP x + 1)) S) S' → sI S' 5216 = nI (vP x + 1) := fun {S'} hF => (hF.2.2.1 5216 (by decide)).trans (rIe _ _ _)
  rcases hd with ⟨S', h1, h2, h3, h4⟩ | ⟨e, S', he, h1, h2, h3, h4⟩
  · refine Or.inl ⟨S', fun {tn v Sf} htn hc lv ex q0 q3 q4 q5 => ?_, h2 _ _, e5 h3, ⟨_, h3⟩, fun P T gT Q β D z nn g0 g1 g3 g4 g5 gn Sr hS hX => ?_⟩
    · exact mPfL_17 (d := d) q0 q3 q4 q5 (by omega) htn (by omega) hr (by omega) (by omega) (by omega) h1 (by decide) (by omega) (fun lv1 p0 p3 p4 p5 => hc lv1 _ p0 p3 p4 p5)
    · obtain ⟨Q', β', D', nn', h0, h1', h3', h4', h5', hn, W, w1, w2⟩ := h4 P T gT Q β D z nn g0 g1 g3 g4 g5 gn _ (XR_pl (XR_at hX hq' (vP x + 1)))
      exact ⟨Q', β', D', nn', h0, h1', h3', h4', h5', hn, W, hon hS hX (Or.inr rfl) w1, w2⟩
  · refine Or.inr ⟨e, S', he, fun {tn v Sf S4 b} htn hb hA hc lv ex q0 q3 q4 q5 => ?_, h2, ⟨_, h3⟩, fun P T gT Q β D z nn g0 g1 g3 g4 g5 gn Sr hS hX => ?_⟩
    · rcases hb with e0 | e0
      · subst e0
        exact mPfL_15 (d := d) q0 q3 q4 q5 (by omega) htn (by omega) hr (by omega) (by omega) (by omega) h1 (ne_0 he) hA (fun lv1 p0 p3 p4 p5 => hc lv1 p0 p3 p4 p5)
      · subst e0
        exact mPfL_14 (d := d) q0 q3 q4 q5 (by omega) htn (by omega) hr (by omega) (by omega) (by omega) h1 (ne_0 he) hA (fun lv1 p0 p3 p4 p5 => hc lv1 p0 p3 p4 p5)
    · obtain ⟨Q', β', D', nn', h0, h1', h3', h4', h5', hn, W, w1, w2, w3⟩ := h4 P T gT Q β D z nn g0 g1 g3 g4 g5 gn _ (XR_pl (XR_at hX hq' (vP x + 1)))
      exact ⟨Q', β', D', nn', h0, h1', h3', h4', h5', hn, W, hon hS hX (Or.inl rfl) w1, w2, w3⟩
/-- a deed of the class with an operand -/
theorem turn_1 {St : (Nat → Prop) → cS → Prop} {R : cS → Int32 → cS → Prop} {a1 : Nat} (h : CI F loc par ty G tq (x :: r) S) (hpc : PC w pT S) (h5 : sI S 5216 = nI (vP x)) (hp : vP x + 1 < pT) (ho : 44 ≤ oc ∧ oc ≤ 50) (hw0 : w (vP x) = nI oc) (hw1 : w (vP x + 1) = nI a1) (ha1 : a1 < 2 ^ 20) (hq' : q' < 2 ^ 20) (hon : ∀ {P T gT Q β D z nn g0 g1 g3 g4 g5 gn Sr W} {b : Int32}, St P T → XR P T gT Q β F D z nn g0 g1 g3 g4 g5 gn tq (x :: r) S Sr → (b = 0 ∨ b = 1) → R (wA 95 r.length (nI q') Sr) b W → ∃ n, rRn (d + 9) n Sr b W) (hd : opG F loc par ty G tq (d + 8) 217 [.ref 53, .int (nI oc), .int (nI a1)] R (vAt x (vP x + 2) q' (vS x)) r s' (wI 5216 (nI (vP x + 2)) S)) : stepO St F loc par ty G tq (d + 8) x r (vP x + 2) q' s' S := by
  have hr := rd_T (d := d + 6) hpc h5 (by omega)
  rw [hw0] at hr
  have hr2 := rd_T (d := d + 6) (PC_I (i := 5216) (k := nI (vP x + 1)) hpc (by decide)) (rIe _ _ _) hp
  rw [hw1, wI_wI] at hr2
  have e5 : ∀ {S'}, CFr (wI 5216 (nI (vP x + 2)) S) S' → sI S' 5216 = nI (vP x + 2) := fun {S'} hF => (hF.2.2.1 5216 (by decide)).trans (rIe _ _ _)
  rcases hd with ⟨S', h1, h2, h3, h4⟩ | ⟨e, S', he, h1, h2, h3, h4⟩
  · refine Or.inl ⟨S', fun {tn v Sf} htn hc lv ex q0 q3 q4 q5 => ?_, h2 _ _, e5 h3, ⟨_, h3⟩, fun P T gT Q β D z nn g0 g1 g3 g4 g5 gn Sr hS hX => ?_⟩
    · exact mPfL_13 (d := d) q0 q3 q4 q5 (by omega) htn (by omega) hr (by omega) (by omega) (by omega) (by omega) (by omega) hr2 h1 (by decide) (by omega) (fun lv1 p0 p3 p4 p5 => hc lv1 _ p0 p3 p4 p5)
    · obtain ⟨Q', β', D', nn', h0, h1', h3', h4', h5', hn, W, w1, w2⟩ := h4 P T gT Q β D z nn g0 g1 g3 g4 g5 gn _ (XR_pl (XR_at hX hq' (vP x + 2)))
      exact ⟨Q', β', D', nn', h0, h1', h3', h4', h5', hn, W, hon hS hX (Or.inr rfl) w1, w2⟩
  · refine Or.inr ⟨e, S', he, fun {tn v Sf S4 b} htn hb hA hc lv ex q0 q3 q4 q5 => ?_, h2, ⟨_, h3⟩, fun P T gT Q β D z nn g0 g1 g3 g4 g5 gn Sr hS hX => ?_⟩
    · rcases hb with e0 | e0
      · subst e0
        exact mPfL_11 (d := d) q0 q3 q4 q5 (by omega) htn (by omega) hr (by omega) (by omega) (by omega) (by omega) (by omega) hr2 h1 (ne_0 he) hA (fun lv1 p0 p3 p4 p5 => hc lv1 p0 p3 p4 p5)
      · subst e0
        exact mPfL_10 (d := d) q0 q3 q4 q5 (by omega) htn (by omega) hr (by omega) (by omega) (by omega) (by omega) (by omega) hr2 h1 (ne_0 he) hA (fun lv1 p0 p3 p4 p5 => hc lv1 p0 p3 p4 p5)
    · obtain ⟨Q', β', D', nn', h0, h1', h3', h4', h5', hn, W, w1, w2, w3⟩ := h4 P T gT Q β D z nn g0 g1 g3 g4 g5 gn _ (XR_pl (XR_at hX hq' (vP x + 2)))
      exact ⟨Q', β', D', nn', h0, h1', h3', h4', h5', hn, W, hon hS hX (Or.inl rfl) w1, w2, w3⟩
theorem ftR_of {k : Nat} (hX : tpS Sr n m q) (hr : n ≤ 30) (hw : rwS Sr m q (nI k)) (hk : k < 64) (h41 : k ≠ 41) : ftR Sr := by
  obtain ⟨h1, h2, h3, h4⟩ := hX
  obtain ⟨a, N, zm, w1, w2, w3, w4, w5, w6, w7, w8⟩ := hw
  exact ⟨n + 1, m, zm, a, N, q, k, h1, by omega, by omega, w1, h4, w2, w3, w4, w5, h2, w7, w8, hk, h41⟩
/-- one word of the reference -/
theorem hon_n {k : Nat} (hX : tpS Sr n m q) (hr : n ≤ 30) (hw : rwS Sr m q (nI k)) (hk : k < 64) (h41 : k ≠ 41) (hs : k ∉ spW) (hn : k ∉ wdW) {b : Int32} (hb : b = 0 ∨ b = 1) (hA : Ans (d + 8) 400 [.ref 61, .int (nI k), .int (nI 0)] (wA 95 n (nI (q + 1)) Sr) (some (.int b)) W) : ∃ i, rRn (d + 9) i Sr b W :=
  rRn_1 (ftR_of hX hr hw hk h41) hb (once_n hX hr hw hk hs hn hb hA)
/-- .. with an operand -/
theorem hon_w (hX : tpS Sr n m q) (hr : n ≤ 30) (hw : rwS Sr m q (nI k)) (hw2 : rwS Sr m (q + 1) (nI e1)) (he : e1 < 2 ^ 20) (hn : k ∈ wdW) {b : Int32} (hb : b = 0 ∨ b = 1) (hA : Ans (d + 8) 400 [.ref 61, .int (nI k), .int (nI e1)] (wA 95 n (nI (q + 2)) Sr) (some (.int b)) W) : ∃ i, rRn (d + 9) i Sr b W := by
  have hk : k < 64 ∧ k ≠ 41 := by
    simp only [wdW, List.mem_cons, List.not_mem_nil, or_false] at hn
    omega
  exact rRn_1 (ftR_of hX hr hw hk.1 hk.2) hb (once_w hX hr hw hw2 he hn hb hA)
/-- two words, one behind the other -/
theorem hon_2 {k2 e2 q2 : Nat} (hX : tpS Sr n m q) (hr : n ≤ 30) (hq : q + 1 < 2 ^ 20) (hw : rwS Sr m q (nI k)) (hk : k < 64 ∧ k ≠ 41 ∧ k ∉ spW ∧ k ∉ wdW) (hw2 : rwS Sr m (q + 1) (nI k2)) (h2 : (k2 < 64 ∧ k2 ≠ 41 ∧ k2 ∉ spW ∧ k2 ∉ wdW ∧ e2 = 0 ∧ q2 = q + 2) ∨ (k2 ∈ wdW ∧ e2 < 2 ^ 20 ∧ rwS Sr m (q + 2) (nI e2) ∧ q2 = q + 3)) {b : Int32} (hb : b = 0 ∨ b = 1) (hA : rT2 (d + 8) n (nI (q + 1)) (nI q2) k k2 e2 (wA 95 n (nI q2) Sr) b W) : ∃ i, rRn (d + 9) i Sr b W := by
  obtain ⟨W1, a1, hF, a2⟩ := hA
  rw [wA_wA'] at a1 hF
  refine rRn_c (ftR_of hX hr hw hk.1 hk.2.1) (once_n hX hr hw hk.1 hk.2.2.1 hk.2.2.2 (Or.inr rfl) a1) ?_
  have t1 := tpS_F (tpS_at hX hq) hF
  have w1 := rwS_F (rwS_at (k := nI (q + 1)) hw2) hF
  rcases h2 with ⟨c1, c2, c3, c4, c5, c6⟩ | ⟨c1, c2, c3, c4⟩
  · subst c5
    subst c6
    exact hon_n t1 hr w1 c1 c2 c3 c4 hb a2
  · subst c4
    exact hon_w t1 hr w1 (rwS_F (rwS_at (k := nI (q + 1)) c3) hF) c2 c1 hb a2
end
