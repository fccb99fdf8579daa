/-! CALLS, THE REFERENCE: a frame's thing is filled -/
/-- thing r0 with z values V; all else as in S -/
def frR (S W : cS) (r0 s z : Nat) (V : Nat → Int32 × Int64 × Int64) : Prop := ∃ v2 v3 v4 v5 v6 v7 n m, tRef W r0 s v2 v3 v4 v5 v6 v7 n m ∧ dsV v2 v3 v4 v5 v6 v7 ∧ tLn n m ∧ (∀ j, j < m → ∃ e, e < 2 ^ 20 ∧ sA W v3 j = nI e) ∧ sI W (100 * s + 1) = nI z ∧ z ≤ n ∧ (∀ e, e < z → sA W v2 e = (V e).1 ∧ sL W v4 e = (V e).2.1 ∧ sL W v5 e = (V e).2.2) ∧ tF r0 s S W ∧ (∀ i, i ≠ 100 * s + 1 → sI W i = sI S i) ∧ (∀ a, a < 108 → sA W a = sA S a ∧ sL W a = sL S a) ∧ (∃ l, sS W = sS S ++ l) ∧ sQ W = sQ S
section
variable {d n m p q k j f s o t i e z y u v kd md nb f1 gv r0 fi all ba mk lo nn f0 : Nat} {S S' S1 X W Sf : cS} {V : Nat → Int32 × Int64 × Int64} {vv : Option Value} {kq : Int32} {xa xb : Int64}
theorem frR_add (h : frR S W r0 s z V) (hz : z < 304) (hS : ∀ (f v : Nat), 2 ≤ f → f ≤ 7 → sV S (100 * s + f) = .ref v → v < 108 + (sS S).length) : ∃ W', Ans (d + 10) 375 [.ref s, .int kq, .long xa, .long xb] W none W' ∧ frR S W' r0 s (z + 1) (fun e => if e = z then (kq, xa, xb) else V e) ∧ ∃ N, (sS W)[s - 108]? = some (13, N) := by
  obtain ⟨v2, v3, v4, v5, v6, v7, n, m, a1, a2, a3, a4, a5, a6, a7, a8, a9, a10, ⟨l, a11⟩, a12⟩ := h
  obtain ⟨W', A4, w2, w4, w5, n', t4, d4, n4, i4, o4, x4, y4, z4, e3, e6, e7, eA4, eL4, eI4, ⟨l4, eS4⟩, ln4, F4⟩ := radd_T (d := d) (kd := kq) (xa := xa) (xb := xb) a1 a2 a5 a6 hz a3
  have hg := a1
  obtain ⟨_, _, hN, _, _, _, _, _, _, _, _, _, _, _, _, _, _, u2, u3, u4, u5, u6, u7⟩ := hg
  refine ⟨W', A4, ⟨w2, v3, w4, w5, v6, v7, n', m, t4, d4, ln4, fun j hj => by rw [e3]; exact a4 j hj, i4, n4, fun e he => ?_, a8.trans F4 hS, fun i hi => (eI4 i hi).trans (a9 i hi), fun a ha => ?_, ⟨l ++ l4, by rw [eS4, a11, List.append_assoc]⟩, F4.2.1.trans a12⟩, hN⟩
  · by_cases c : e = z
    · subst c
      show _ = (if e = e then (kq, xa, xb) else V e).1 ∧ _ = (if e = e then (kq, xa, xb) else V e).2.1 ∧ _ = (if e = e then (kq, xa, xb) else V e).2.2
      rw [if_pos rfl]
      exact ⟨x4, y4, z4⟩
    · show _ = (if e = z then (kq, xa, xb) else V e).1 ∧ _ = (if e = z then (kq, xa, xb) else V e).2.1 ∧ _ = (if e = z then (kq, xa, xb) else V e).2.2
      rw [if_neg c]
      obtain ⟨p1, p2, p3⟩ := o4 e (by omega)
      obtain ⟨q1, q2, q3⟩ := a7 e (by omega)
      exact ⟨p1.trans q1, p2.trans q2, p3.trans q3⟩
  · exact ⟨(eA4 a (by omega) (by omega)).trans (a10 a ha).1, (eL4 a (by omega) (by omega) (by omega)).trans (a10 a ha).2⟩
theorem frR_set (h : frR S W r0 s z V) (he : e < z) (hS : ∀ (f v : Nat), 2 ≤ f → f ≤ 7 → sV S (100 * s + f) = .ref v → v < 108 + (sS S).length) : ∃ W', Ans (d + 9) 358 [.ref s, .int (nI e), .int kq, .long xa, .long xb] W none W' ∧ frR S W' r0 s z (fun w => if w = e then (kq, xa, xb) else V w) ∧ ∃ N, (sS W)[s - 108]? = some (13, N) := by
  obtain ⟨v2, v3, v4, v5, v6, v7, n, m, a1, a2, a3, a4, a5, a6, a7, a8, a9, a10, ⟨l, a11⟩, a12⟩ := h
  have hA := rset_T (d := d) (kd := kq) (xa := xa) (xb := xb) a1 (show e < n by omega)
  have hT := setW_tF (e := e) (kd := kq) (a := xa) (b := xb) a1 a2.2.1
  have hg := a1
  obtain ⟨g1, g2, hN, g4, g5, g6, g7, g8, g9, g10, g11, g12, g13, g14, g15, g16, g17, u2, u3, u4, u5, u6, u7⟩ := hg
  obtain ⟨c23, c45, c46, c47, c56, c57, c67⟩ := a2
  have eA : ∀ b, sA (keyW e v2 v4 v5 kq xa xb W) b = if b = v2 then va_up (sA W v2) e kq else sA W b := fun b => rfl
  have eL : ∀ b, b ≠ v4 → b ≠ v5 → sL (keyW e v2 v4 v5 kq xa xb W) b = sL W b := fun b h4 h5 => by
    unfold keyW
    rw [rL, if_neg h5, rL, if_neg h4]
    rfl
  have eL4 : ∀ w, sL (keyW e v2 v4 v5 kq xa xb W) v4 w = if w = e then xa else sL W v4 w := fun w => by
    unfold keyW
    rw [rL, if_neg c45, rL, if_pos rfl]
    rfl
  have eL5 : ∀ w, sL (keyW e v2 v4 v5 kq xa xb W) v5 w = if w = e then xb else sL W v5 w := fun w => by
    unfold keyW
    rw [rL, if_pos rfl, rL, if_neg (fun c => c45 c.symm)]
    rfl
  refine ⟨keyW e v2 v4 v5 kq xa xb W, hA, ⟨v2, v3, v4, v5, v6, v7, n, m, a1, ⟨c23, c45, c46, c47, c56, c57, c67⟩, a3, fun j hj => by rw [eA, if_neg (fun c => c23 c.symm)]; exact a4 j hj, a5, a6, fun w hw => ?_, a8.trans hT hS, a9, fun b hb => ?_, ⟨l, a11⟩, a12⟩, hN⟩
  · obtain ⟨q1, q2, q3⟩ := a7 w hw
    rw [eA, if_pos rfl, eL4, eL5]
    show (if w = e then kq else sA W v2 w) = (if w = e then (kq, xa, xb) else V w).1 ∧ _ = (if w = e then (kq, xa, xb) else V w).2.1 ∧ _ = (if w = e then (kq, xa, xb) else V w).2.2
    by_cases c : w = e
    · rw [if_pos c, if_pos c, if_pos c, if_pos c]
      exact ⟨rfl, rfl, rfl⟩
    · rw [if_neg c, if_neg c, if_neg c, if_neg c]
      exact ⟨q1, q2, q3⟩
  · rw [eA, if_neg (by omega), eL b (by omega) (by omega)]
    exact a10 b hb
/-- the loop that opens the names: none of them bound -/
theorem frR_open {io : Int32} (hlo : lo ≤ 300) (hs : 108 ≤ s) (hf0 : 108 ≤ f0) (hfi : fi < 2 ^ 20) (hba : ba < 2 ^ 20) (hnn : nn < 2 ^ 20) (hmk : mk < 2 ^ 20) (hall : all < 2 ^ 20) (hio : io = Int32.ofInt (-1) ∨ ∃ o, o < 2 ^ 20 ∧ io = nI o) (hS : ∀ (f v : Nat), 2 ≤ f → f ≤ 7 → sV S (100 * s + f) = .ref v → v < 108 + (sS S).length) : ∀ {rem z : Nat} {W : cS}, z + rem = lo → frR S W r0 s z V → (∀ e, e < z → V e = (Int32.ofInt (-1), 0, 0)) → ∃ W', frR S W' r0 s lo (fun _ => (Int32.ofInt (-1), 0, 0)) ∧ ∀ {v : Option Value} {Sf : cS}, (∀ lv1, sm_get lv1 0 = some (.ref 61) → sm_get lv1 2 = some (.int (nI ba)) → sm_get lv1 3 = some (.int (nI nn)) → sm_get lv1 4 = some (.int io) → sm_get lv1 5 = some (.int (nI mk)) → sm_get lv1 6 = some (.ref f0) → sm_get lv1 7 = some (.int (nI all)) → sm_get lv1 8 = some (.int (nI lo)) → sm_get lv1 9 = some (.int (nI fi)) → sm_get lv1 10 = some (.ref s) → sm_get lv1 11 = some (.int (nI lo)) → Bod (d + 10) 396 131 lv1 [] W' v Sf) → ∀ lv1, sm_get lv1 0 = some (.ref 61) → sm_get lv1 2 = some (.int (nI ba)) → sm_get lv1 3 = some (.int (nI nn)) → sm_get lv1 4 = some (.int io) → sm_get lv1 5 = some (.int (nI mk)) → sm_get lv1 6 = some (.ref f0) → sm_get lv1 7 = some (.int (nI all)) → sm_get lv1 8 = some (.int (nI lo)) → sm_get lv1 9 = some (.int (nI fi)) → sm_get lv1 10 = some (.ref s) → sm_get lv1 11 = some (.int (nI z)) → Bod (d + 10) 396 131 lv1 [] W v Sf := by
  intro rem
  induction rem generalizing V with
  | zero =>
    intro z W hz hW hV
    have e : z = lo := by omega
    subst e
    refine ⟨W, ?_, fun hc lv1 q0 q2 q3 q4 q5 q6 q7 q8 q9 q10 q11 => hc lv1 q0 q2 q3 q4 q5 q6 q7 q8 q9 q10 q11⟩
    obtain ⟨v2, v3, v4, v5, v6, v7, n, m, a1, a2, a3, a4, a5, a6, a7, a8⟩ := hW
    exact ⟨v2, v3, v4, v5, v6, v7, n, m, a1, a2, a3, a4, a5, a6, fun e he => by rw [← hV e he]; exact a7 e he, a8⟩
  | succ rem ih =>
    intro z W hz hW hV
    obtain ⟨W1, A, hW1, N, hN⟩ := frR_add (d := d) (kq := Int32.ofInt (-1)) (xa := 0) (xb := 0) hW (by omega) hS
    obtain ⟨W2, h2, hc2⟩ := ih (z := z + 1) (by omega) hW1 (fun e he => by
      by_cases c : e = z
      · exact if_pos c
      · exact (if_neg c).trans (hV e (by omega)))
    refine ⟨W2, h2, fun hc lv1 q0 q2 q3 q4 q5 q6 q7 q8 q9 q10 q11 => ?_⟩
    rcases hio with c | ⟨o, o1, c⟩
    · subst c
      exact rBgAN_2 (d := d + 2) (zf0 := 0) q0 q2 q3 q4 q5 q6 q7 q8 q9 q10 q11 hba hnn hmk hall (by omega) hfi (by omega) hf0 hs (by omega) A hN (fun lv2 p0 p2 p3 p4 p5 p6 p7 p8 p9 p10 p11 => hc2 hc lv2 p0 p2 p3 p4 p5 p6 p7 p8 p9 p10 p11)
    · subst c
      exact rBgAI_2 (d := d + 2) (zf0 := 0) q0 q2 q3 q4 q5 q6 q7 q8 q9 q10 q11 hba hnn o1 hmk hall (by omega) hfi (by omega) hf0 hs (by omega) A hN (fun lv2 p0 p2 p3 p4 p5 p6 p7 p8 p9 p10 p11 => hc2 hc lv2 p0 p2 p3 p4 p5 p6 p7 p8 p9 p10 p11)
/-- entry e of the frame: its instance, then n values of the stack from t0 on, then none -/
def rfV (S : cS) (f1 n t0 : Nat) (io : Int64) (e : Nat) : Int32 × Int64 × Int64 := if e < f1 then (nI 3, io, 0) else if e < f1 + n then (sA S 91 (t0 + (e - f1)), sL S 92 (t0 + (e - f1)), sL S 93 (t0 + (e - f1))) else (Int32.ofInt (-1), 0, 0)
/-- the loop that puts the values -/
theorem frR_args {t0 : Nat} {iq : Int64} (hlo : lo ≤ 300) (hs : 108 ≤ s) (hf0 : 108 ≤ f0) (hfi : fi < 2 ^ 20) (hba : ba < 2 ^ 20) (hmk : mk < 2 ^ 20) (ht0 : t0 + nn < 20480) (hf1 : f1 < 2) (hall : all = f1 + nn) (hal : all ≤ lo) (h51 : sI S 6151 = nI (t0 + nn)) (hk : ∀ n, n < nn → ∃ y, y < 2 ^ 20 ∧ sA S 91 (t0 + n) = nI y) (hS : ∀ (f v : Nat), 2 ≤ f → f ≤ 7 → sV S (100 * s + f) = .ref v → v < 108 + (sS S).length) : ∀ {rem n : Nat} {W : cS}, n + rem = nn → frR S W r0 s lo (rfV S f1 n t0 iq) → ∃ W', frR S W' r0 s lo (rfV S f1 nn t0 iq) ∧ ∀ {v : Option Value} {Sf : cS}, (∀ lv1, sm_get lv1 0 = some (.ref 61) → sm_get lv1 2 = some (.int (nI ba)) → sm_get lv1 3 = some (.int (nI nn)) → sm_get lv1 5 = some (.int (nI mk)) → sm_get lv1 6 = some (.ref f0) → sm_get lv1 7 = some (.int (nI all)) → sm_get lv1 9 = some (.int (nI fi)) → sm_get lv1 10 = some (.ref s) → sm_get lv1 11 = some (.int (nI nn)) → Bod (d + 10) 396 171 lv1 [] W' v Sf) → ∀ lv1, sm_get lv1 0 = some (.ref 61) → sm_get lv1 2 = some (.int (nI ba)) → sm_get lv1 3 = some (.int (nI nn)) → sm_get lv1 5 = some (.int (nI mk)) → sm_get lv1 6 = some (.ref f0) → sm_get lv1 7 = some (.int (nI all)) → sm_get lv1 9 = some (.int (nI fi)) → sm_get lv1 10 = some (.ref s) → sm_get lv1 11 = some (.int (nI n)) → Bod (d + 10) 396 171 lv1 [] W v Sf := by
  intro rem
  induction rem with
  | zero =>
    intro n W hn hW
    have e : n = nn := by omega
    subst e
    exact ⟨W, hW, fun hc lv1 q0 q2 q3 q5 q6 q7 q9 q10 q11 => hc lv1 q0 q2 q3 q5 q6 q7 q9 q10 q11⟩
  | succ rem ih =>
    intro n W hn hW
    obtain ⟨y, y1, y2⟩ := hk n (by omega)
    obtain ⟨b9, b10⟩ : (∀ i, i ≠ 100 * s + 1 → sI W i = sI S i) ∧ ∀ a, a < 108 → sA W a = sA S a ∧ sL W a = sL S a := by
      obtain ⟨_, _, _, _, _, _, _, _, _, _, _, _, _, _, _, _, b9, b10, _⟩ := hW
      exact ⟨b9, b10⟩
    obtain ⟨W1, A, hW1, N, hN⟩ := frR_set (d := d) (e := f1 + n) (kq := nI y) (xa := sL S 92 (t0 + n)) (xb := sL S 93 (t0 + n)) hW (by omega) hS
    have hV : (fun w => if w = f1 + n then (nI y, sL S 92 (t0 + n), sL S 93 (t0 + n)) else rfV S f1 n t0 iq w) = rfV S f1 (n + 1) t0 iq := by
      funext w
      unfold rfV
      by_cases c : w = f1 + n
      · have h1 : ¬ w < f1 := by omega
        have h2 : w < f1 + (n + 1) := by omega
        have h3 : w - f1 = n := by omega
        rw [if_pos c, if_neg h1, if_pos h2, h3, y2]
      · rw [if_neg c]
        by_cases c1 : w < f1
        · rw [if_pos c1, if_pos c1]
        · rw [if_neg c1, if_neg c1]
          by_cases c2 : w < f1 + n
          · rw [if_pos c2, if_pos (show w < f1 + (n + 1) by omega)]
          · rw [if_neg c2, if_neg (show ¬ w < f1 + (n + 1) by omega)]
    rw [hV] at hW1
    obtain ⟨W2, h2, hc2⟩ := ih (n := n + 1) (by omega) hW1
    refine ⟨W2, h2, fun hc lv1 q0 q2 q3 q5 q6 q7 q9 q10 q11 => ?_⟩
    have e51 : sI W 6151 = nI (t0 + nn) := (b9 6151 (by omega)).trans h51
    have e91 : sA W 91 (t0 + nn + n - nn) = nI y := by rw [(b10 91 (by omega)).1, show t0 + nn + n - nn = t0 + n by omega]; exact y2
    have A' : Ans (d + 10) 358 [.ref s, .int (nI (all + n - nn)), .int (nI y), .long (sL W 92 (t0 + nn + n - nn)), .long (sL W 93 (t0 + nn + n - nn))] W none W1 := by
      rw [(b10 92 (by omega)).2, (b10 93 (by omega)).2, show t0 + nn + n - nn = t0 + n by omega, show all + n - nn = f1 + n by omega]
      exact A.up (by omega)
    exact rBgB_2 (d := d + 2) (zf0 := 0) q0 q2 q3 q5 q6 q7 q9 q10 q11 hba (by omega) hmk (by omega) hfi (by omega) hf0 hs (by omega) (by omega) e51 (by omega) (by omega) (by omega) e91 y1 (A'.up (by omega)) hN (fun lv2 p0 p2 p3 p5 p6 p7 p9 p10 p11 => hc2 hc lv2 p0 p2 p3 p5 p6 p7 p9 p10 p11)
end
