/-! DEEDS ON BOTH SIDES: two texts in one -/
section
variable {P : Nat → Prop} {T : cS} {gT : Nat} {Q : Nat → Prop} {β β' : Nat → Nat} {F : Nat → Nat → Nat → Prop} {loc par : Nat → Nat → Nat} {ty : Nat → Nat × Nat} {G : Nat → Nat → Nat → Nat × Nat × LL → Prop} {D D' K : List Nat} {z nn g0 g1 g3 g4 g5 gn d dr v o i k n m t tp tt : Nat} {tq : Nat → Nat × Nat} {C r : List Lv} {x : Lv} {S S' S1 X W Sc Sr : cS} {f g : Nat → Nat} {hi lo kh kl a b : Int64} {kd rb : Int32}
def catT (f g : Nat → Nat) (n : Nat) (i : Nat) : Nat := if i < n then f i else g (i - n)
theorem eH_len (hn : n ≤ 15) (hf : ∀ i, i < n → f i < 256) : c_len (e_H f n) = n := by
  obtain ⟨x1, x2⟩ := xH_lt hn hf
  rw [(e_x n hn hf).1, c_len_lN x1, x2]
  omega
theorem pB_len (hn : n ≤ 15) (hf : ∀ i, i < n → 32 ≤ f i ∧ f i ≤ 126) : (p_B f n &&& 255).toInt32 = nI n := by
  obtain ⟨n', n15, h1, h2⟩ := slen (hi := e_H f n) (lo := e_L f n) (a := p_A f n) (b := p_B f n) ⟨n, f, hn, hf, rfl, rfl, rfl, rfl⟩
  rw [eH_len hn (fun i hi => by have := hf i hi; omega)] at h1
  rw [← h1] at h2
  exact h2
theorem catT_lt (hf : ∀ i, i < n → f i < 256) (hg : ∀ i, i < m → g i < 256) : ∀ i, i < n + m → catT f g n i < 256 := fun i hi => by
  unfold catT
  split
  · exact hf i (by omega)
  · exact hg _ (by omega)
theorem js_loop (hnm : n + m ≤ 15) (hf : ∀ i, i < n → f i < 256) (hg : ∀ i, i < m → g i < 256) (qh : Ans (d + 8) 132 [.ref 46, .int (nI 0)] S (some (.long (e_H g m))) S) (ql : Ans (d + 8) 135 [.ref 46, .int (nI 0)] S (some (.long (e_L g m))) S) (hgv : Ans (d + 8) 148 [.ref 46, .int (nI 2), .long (e_H (catT f g n) (n + m)), .long (e_L (catT f g n) (n + m))] S (some (.int rb)) S') : ∀ rem j, j + rem = m → ∀ lv, sm_get lv 0 = some (.ref 53) → sm_get lv 1 = some (.long (e_H (catT f g n) (n + j))) → sm_get lv 3 = some (.long (e_L (catT f g n) (n + j))) → sm_get lv 5 = some (.int (nI m)) → sm_get lv 6 = some (.int (nI j)) → Bod (d + 8) 192 49 lv [] S (some (.int rb)) S' := by
  intro rem
  induction rem with
  | zero =>
    intro j hj lv q0 q1 q3 q5 q6
    have e : j = m := by omega
    subst e
    exact mJsL_1 q0 q1 q3 q5 q6 (by omega) (by omega) (Nat.le_refl _) hgv
  | succ rem ih =>
    intro j hj lv q0 q1 q3 q5 q6
    have hc := catT_lt hf hg
    have hb := bt_ev (d := d + 7) (S := S) (hi := e_H g m) (lo := e_L g m) (i := j) (by omega)
    rw [bt_e (by omega) (by omega) hg] at hb
    have hlen := eH_len (f := catT f g n) (n := n + j) (by omega) (fun i hi => hc i (by omega))
    have e1 : catT f g n (n + j) = g j := by
      unfold catT
      rw [if_neg (by omega), show n + j - n = j by omega]
    have hl := appLo_ev (d := d + 7) (S := S) (hi := e_H (catT f g n) (n + j)) (lo := e_L (catT f g n) (n + j)) (b := nI (g j)) (by omega)
    have hh := appHi_ev (d := d + 7) (S := S) (hi := e_H (catT f g n) (n + j)) (b := nI (g j)) (by omega)
    have el : c_appLo (e_H (catT f g n) (n + j)) (e_L (catT f g n) (n + j)) (nI (g j)) = e_L (catT f g n) (n + (j + 1)) := by
      show _ = c_appLo (e_H (catT f g n) (n + j)) (e_L (catT f g n) (n + j)) (nI (catT f g n (n + j)))
      rw [e1]
    have eh : c_appHi (e_H (catT f g n) (n + j)) (nI (g j)) = e_H (catT f g n) (n + (j + 1)) := by
      show _ = c_appHi (e_H (catT f g n) (n + j)) (nI (catT f g n (n + j)))
      rw [e1]
    rw [el] at hl
    rw [eh] at hh
    have hgj := hg j (by omega)
    exact mJsL_2 q0 q1 q3 q5 q6 (by omega) (by omega) (by omega) qh ql (by omega) hb hl hh (fun lv1 p0 p1 p3 p5 p6 => ih (j + 1) (by omega) lv1 p0 p1 p3 p5 p6)
/-- the reference's bytes so far -/
def byK (tp : Nat) (c : Nat → Nat) (k : Nat) (S W : cS) : Prop := sFr tp S W ∧ sL W = sL S ∧ sI W = sI S ∧ sA W 91 = sA S 91 ∧ ∀ i, i < k → sA W 104 i &&& nI 255 = nI (c i)
theorem byK_s {a' : Nat} (h : byK tp f k S W) (hk : a' ≤ 126) (e : f k = a') : byK tp f (k + 1) S (wA 104 k (vp_nar .byte ((nI a').toInt8.toInt32)) W) := by
  obtain ⟨h1, h2, h3, h4, h5⟩ := h
  refine ⟨h1.trans ⟨rfl, rfl, rfl, rfl, rfl, fun _ _ => rfl, fun b _ hb _ => if_neg hb, fun _ _ _ => rfl, fun j _ => ⟨rfl, rfl, rfl⟩⟩, h2, h3, h4, fun i hi => ?_⟩
  show (if 104 = 104 then va_up (sA W 104) k _ else sA W 104) i &&& nI 255 = _
  rw [if_pos rfl]
  by_cases c : i = k
  · subst c
    rw [show va_up (sA W 104) i (vp_nar .byte ((nI a').toInt8.toInt32)) i = vp_nar .byte ((nI a').toInt8.toInt32) from if_pos rfl, nar_b a' (by omega), e]
  · rw [show va_up (sA W 104) k (vp_nar .byte ((nI a').toInt8.toInt32)) i = sA W 104 i from if_neg c]
    exact h5 i (by omega)
theorem jsA_loop {p q : Nat} (hp : p < 20480) (hq : q < 2 ^ 20) (hn : n ≤ 15) (hm : m ≤ 15) (hf : ∀ i, i < n → 32 ≤ f i ∧ f i ≤ 126) (ea : sL S 92 p = p_A f n) (eb : sL S 93 p = p_B f n) : ∀ rem j W, j + rem = n → byK tp (catT f g n) j S W → ∃ W', byK tp (catT f g n) n S W' ∧ ∀ vv Sf, (∀ lv, sm_get lv 0 = some (.ref 61) → sm_get lv 2 = some (.int (nI q)) → sm_get lv 3 = some (.int (nI n)) → sm_get lv 4 = some (.int (nI m)) → sm_get lv 5 = some (.int (nI 0)) → Bod (d + 9) 406 80 lv [] W' vv Sf) → ∀ lv, sm_get lv 0 = some (.ref 61) → sm_get lv 1 = some (.int (nI p)) → sm_get lv 2 = some (.int (nI q)) → sm_get lv 3 = some (.int (nI n)) → sm_get lv 4 = some (.int (nI m)) → sm_get lv 5 = some (.int (nI j)) → Bod (d + 9) 406 40 lv [] W vv Sf := by
  intro rem
  induction rem with
  | zero =>
    intro j W hj hW
    have e : j = n := by omega
    subst e
    exact ⟨W, hW, fun vv Sf hc lv q0 q1 q2 q3 q4 q5 => rJsA_1 (d := d + 1) q0 q1 q2 q3 q4 q5 (by omega) (by omega) (by omega) (by omega) (by omega) (Nat.le_refl _) (fun lv1 p0 p2 p3 p4 p5 => hc lv1 p0 p2 p3 p4 p5)⟩
  | succ rem ih =>
    intro j W hj hW
    have hb := byR (d := d) (S := W) (f := f) (n := n) hn (show j < n by omega) (fun i hi => by have := hf i hi; omega)
    rw [← ea, ← eb, ← hW.2.1] at hb
    have hfj := hf j (by omega)
    obtain ⟨W', i1, i2⟩ := ih (j + 1) _ (by omega) (byK_s (a' := f j) hW (by omega) (if_pos (by omega)))
    exact ⟨W', i1, fun vv Sf hc lv q0 q1 q2 q3 q4 q5 => rJsA_2 (d := d + 1) q0 q1 q2 q3 q4 q5 (by omega) (by omega) (by omega) (by omega) (by omega) (by omega) hp (by omega) hb (by omega) (fun lv1 p0 p1 p2 p3 p4 p5 => i2 vv Sf hc lv1 p0 p1 p2 p3 p4 p5)⟩
theorem jsB_loop {q : Nat} (hq : q < 20480) (hn : n + m ≤ 15) (hg : ∀ i, i < m → 32 ≤ g i ∧ g i ≤ 126) (ea : sL S 92 q = p_A g m) (eb : sL S 93 q = p_B g m) : ∀ rem j W, j + rem = m → byK tp (catT f g n) (n + j) S W → ∃ W', byK tp (catT f g n) (n + m) S W' ∧ ∀ vv Sf, (∀ lv, sm_get lv 0 = some (.ref 61) → sm_get lv 2 = some (.int (nI q)) → sm_get lv 3 = some (.int (nI n)) → sm_get lv 4 = some (.int (nI m)) → sm_get lv 5 = some (.int (nI m)) → Bod (d + 9) 406 80 lv [] W' vv Sf) → ∀ lv, sm_get lv 0 = some (.ref 61) → sm_get lv 2 = some (.int (nI q)) → sm_get lv 3 = some (.int (nI n)) → sm_get lv 4 = some (.int (nI m)) → sm_get lv 5 = some (.int (nI j)) → Bod (d + 9) 406 80 lv [] W vv Sf := by
  intro rem
  induction rem with
  | zero =>
    intro j W hj hW
    have e : j = m := by omega
    subst e
    exact ⟨W, hW, fun vv Sf hc lv q0 q2 q3 q4 q5 => hc lv q0 q2 q3 q4 q5⟩
  | succ rem ih =>
    intro j W hj hW
    have hb := byR (d := d) (S := W) (f := g) (n := m) (show m ≤ 15 by omega) (show j < m by omega) (fun i hi => by have := hg i hi; omega)
    rw [← ea, ← eb, ← hW.2.1] at hb
    have hgj := hg j (by omega)
    have ec : catT f g n (n + j) = g j := by
      unfold catT
      rw [if_neg (by omega), show n + j - n = j by omega]
    obtain ⟨W', i1, i2⟩ := ih (j + 1) _ (by omega) (byK_s (a' := g j) hW (by omega) ec)
    exact ⟨W', i1, fun vv Sf hc lv q0 q2 q3 q4 q5 => rJsB_2 (d := d + 1) q0 q2 q3 q4 q5 (by omega) (by omega) (by omega) (by omega) (by omega) hq (by omega) hb (by omega) (fun lv1 p0 p2 p3 p4 p5 => i2 vv Sf hc lv1 p0 p2 p3 p4 p5)⟩
/-- a reference stands beside the class -/
def exX (F : Nat → Nat → Nat → Prop) (tq : Nat → Nat × Nat) (C : List Lv) (S : cS) : Prop := ∃ P T gT Q β D z nn g0 g1 g3 g4 g5 gn Sr, XR P T gT Q β F D z nn g0 g1 g3 g4 g5 gn tq C S Sr
theorem exX_txt (hX : exX F tq (x :: r) S) (hi : i < vH x) (k : c_kind (sL S 47 (topC (x :: r) - 1 - i)) = nI 3) : ∃ (n : Nat) (f : Nat → Nat), n ≤ 15 ∧ (∀ i, i < n → 32 ≤ f i ∧ f i ≤ 126) ∧ sL S 47 (topC (x :: r) - 1 - i) = e_H f n ∧ sL S 48 (topC (x :: r) - 1 - i) = e_L f n := by
  obtain ⟨P, T, gT, Q, β, D, z, nn, g0, g1, g3, g4, g5, gn, Sr, hX⟩ := hX
  have hv := XR_v hX hi
  obtain ⟨y, y4, ya, yk⟩ := vr_k hv (by rw [k]; decide)
  rw [k] at yk
  have := nI_j (by omega) (by omega) yk
  obtain ⟨n, f, h1, h2, h3, h4, _⟩ := vr_txt hv (by rw [ya]; congr 1; omega)
  exact ⟨n, f, h1, h2, h3, h4⟩
theorem p_cong {f' : Nat → Nat} (h : ∀ i, i < n → f i = f' i) : p_A f n = p_A f' n ∧ p_B f n = p_B f' n := by
  constructor
  · unfold p_A
    congr 2
    funext i
    split
    · exact h i (by omega)
    · rfl
  · unfold p_B
    congr 2
    funext i
    split
    · rfl
    · split
      · exact h _ (by omega)
      · rfl
/-- a text of the class: what the reference has -/
theorem txt_ref (hX : XR P T gT Q β F D z nn g0 g1 g3 g4 g5 gn tq (x :: r) S Sr) (hi : i < vH x) (k : c_kind (sL S 47 (topC (x :: r) - 1 - i)) = nI 3) (hn : n ≤ 15) (hf : ∀ i, i < n → 32 ≤ f i ∧ f i ≤ 126) (h1 : sL S 47 (topC (x :: r) - 1 - i) = e_H f n) (h2 : sL S 48 (topC (x :: r) - 1 - i) = e_L f n) : sA Sr 91 (topC (x :: r) + offC (x :: r) - 1 - i) = nI 2 ∧ sL Sr 92 (topC (x :: r) + offC (x :: r) - 1 - i) = p_A f n ∧ sL Sr 93 (topC (x :: r) + offC (x :: r) - 1 - i) = p_B f n := by
  have hv := XR_v hX hi
  obtain ⟨y, y4, ya, yk⟩ := vr_k hv (by rw [k]; decide)
  rw [k] at yk
  have y2 := nI_j (by omega) (by omega) yk
  have ya' : sA Sr 91 (topC (x :: r) + offC (x :: r) - 1 - i) = nI 2 := by rw [ya]; congr 1; omega
  obtain ⟨n', f', c1, c2, c3, c4, c5, c6⟩ := vr_txt hv ya'
  obtain ⟨e1, e2⟩ := e_inj hn c1 (fun i hi => by have := hf i hi; omega) (fun i hi => by have := c2 i hi; omega) (h1.symm.trans c3) (h2.symm.trans c4)
  subst e1
  obtain ⟨p1, p2⟩ := p_cong (n := n) e2
  exact ⟨ya', by rw [p1]; exact c5, by rw [p2]; exact c6⟩
theorem js_R (h : CI F loc par ty G tq (x :: r) S) (hl : lob (vL x) + 2 ≤ vH x) (hex : exX F tq (x :: r) S) (k1 : c_kind (sL S 47 (topC (x :: r) - 1 - 1)) = nI 3) (k0 : c_kind (sL S 47 (topC (x :: r) - 1 - 0)) = nI 3) : opR F loc par ty G tq (d + 16) 192 [.ref 53] 406 [.ref 61, .int (nI (topC (x :: r) + offC (x :: r) - 2)), .int (nI (topC (x :: r) + offC (x :: r) - 1))] x r (vH x - 2 + 1, vU x, vL x) S := by
  have m192 := ml_192
  have m406 := ml_406
  obtain ⟨l1, l2, l3, l4, l5⟩ := CI_len h
  have hT := CI_T h
  have goC : ∀ {e : Int32} {S'}, Bod (d + 15) 192 0 [(0, .ref 53)] [] S (some (.int e)) S' → Ans (d + 16) 192 [.ref 53] S (some (.int e)) S' := fun hb => Ans.of (by rw [m192]; exact Nat.le_of_ble_eq_true rfl) (Bod.lv (by rfl) hb)
  have goR : ∀ {Sr : cS} {e : Int32} {W : cS}, Bod (d + 15) 406 0 [(0, .ref 61), (1, .int (nI (topC (x :: r) + offC (x :: r) - 2))), (2, .int (nI (topC (x :: r) + offC (x :: r) - 1)))] [] Sr (some (.int e)) W → Ans (d + 16) 406 [.ref 61, .int (nI (topC (x :: r) + offC (x :: r) - 2)), .int (nI (topC (x :: r) + offC (x :: r) - 1))] Sr (some (.int e)) W := fun hb => Ans.of (by rw [m406]; exact Nat.le_of_ble_eq_true rfl) (Bod.lv (by rfl) hb)
  obtain ⟨n, f, n15, hf, f1, f2⟩ := exX_txt hex (i := 1) (by omega) k1
  obtain ⟨m, g, m15, hg, e1, e2⟩ := exX_txt hex (i := 0) (by omega) k0
  have hf8 : ∀ i, i < n → f i < 256 := fun i hi => by have := hf i hi; omega
  have hg8 : ∀ i, i < m → g i < 256 := fun i hi => by have := hg i hi; omega
  have q1 := hi_ev (d := d + 13) (b := 1) l3 (by omega) (by omega)
  have w1 := lo_ev (d := d + 13) (b := 1) l3 (by omega) (by omega)
  have q0 := hi_ev (d := d + 13) (b := 0) l3 (by omega) (by omega)
  have w0 := lo_ev (d := d + 13) (b := 0) l3 (by omega) (by omega)
  rw [f1] at q1
  rw [f2] at w1
  rw [e1] at q0
  rw [e2] at w0
  have ln := lengthOf_ev (d := d + 14) (S := S) (eH_len n15 hf8)
  have lm := lengthOf_ev (d := d + 14) (S := S) (eH_len m15 hg8)
  have eb : topC (x :: r) + offC (x :: r) - 1 - 1 = topC (x :: r) + offC (x :: r) - 2 := by omega
  have ev : topC (x :: r) + offC (x :: r) - 1 - 0 = topC (x :: r) + offC (x :: r) - 1 := by omega
  have rd : ∀ {P T gT Q β D z nn g0 g1 g3 g4 g5 gn Sr}, XR P T gT Q β F D z nn g0 g1 g3 g4 g5 gn tq (x :: r) S Sr → (sL Sr 92 (topC (x :: r) + offC (x :: r) - 2) = p_A f n ∧ sL Sr 93 (topC (x :: r) + offC (x :: r) - 2) = p_B f n) ∧ (sL Sr 92 (topC (x :: r) + offC (x :: r) - 1) = p_A g m ∧ sL Sr 93 (topC (x :: r) + offC (x :: r) - 1) = p_B g m) ∧ Ans (d + 15) 360 [.long (sL Sr 93 (topC (x :: r) + offC (x :: r) - 2))] Sr (some (.int (nI n))) Sr ∧ Ans (d + 15) 360 [.long (sL Sr 93 (topC (x :: r) + offC (x :: r) - 1))] Sr (some (.int (nI m))) Sr := fun {P T gT Q β D z nn g0 g1 g3 g4 g5 gn Sr} hX => by
    obtain ⟨_, a1, a2⟩ := txt_ref hX (i := 1) (by omega) k1 n15 hf f1 f2
    obtain ⟨_, b1, b2⟩ := txt_ref hX (i := 0) (by omega) k0 m15 hg e1 e2
    rw [eb] at a1 a2
    rw [ev] at b1 b2
    refine ⟨⟨a1, a2⟩, ⟨b1, b2⟩, ?_, ?_⟩
    · rw [a2]; exact many_T (d := d + 6) (pB_len n15 hf)
    · rw [b2]; exact many_T (d := d + 6) (pB_len m15 hg)
  by_cases hnm : n + m ≤ 15
  · have hcc := catT_lt hf8 hg8
    have hc3 : ∀ i, i < n + m → 32 ≤ catT f g n i ∧ catT f g n i ≤ 126 := fun i hi => by
      unfold catT
      split
      · exact hf i (by omega)
      · exact hg _ (by omega)
    have hsr : srel (e_H (catT f g n) (n + m)) (e_L (catT f g n) (n + m)) (p_A (catT f g n) (n + m)) (p_B (catT f g n) (n + m)) := ⟨n + m, catT f g n, hnm, hc3, rfl, rfl, rfl, rfl⟩
    have hck : c_kind (e_H (catT f g n) (n + m)) = nI 3 := by
      unfold c_kind
      rw [srel_kd hsr]
      rfl
    have efn : e_H f n = e_H (catT f g n) (n + 0) ∧ e_L f n = e_L (catT f g n) (n + 0) := ⟨e_H_congr (fun i hi => (if_pos hi).symm), e_L_congr (fun i hi => (if_pos hi).symm)⟩
    refine opR_give (v := 2) (o := 0) (dg := d + 6) (hi := e_H (catT f g n) (n + m)) (lo := e_L (catT f g n) (n + m)) h (by omega) (by omega) (ck_obj hck (Or.inr rfl)) (by omega) (Or.inl rfl) ⟨by rw [hck]; decide, by rw [hck]; decide⟩ (fun S' hgv => goC ?_) (fun P T gT Q β D z nn g0 g1 g3 g4 g5 gn Sr hX => ?_)
    · exact mJs_1 (d := d + 7) q1 w1 q0 (by omega) lm (by omega) ln hnm (fun lv1 p0 p1 p3 p5 p6 => js_loop (d := d + 7) hnm hf8 hg8 q0 w0 hgv m 0 (by omega) lv1 p0 (by rw [p1, efn.1]) (by rw [p3, efn.2]) p5 p6)
    · obtain ⟨⟨a1, a2⟩, ⟨b1, b2⟩, c1, c2⟩ := rd hX
      have h51 := hX.2.2.2.2.2.1.1
      have et : topC (x :: r) - 2 + offC (x :: r) = topC (x :: r) + offC (x :: r) - 2 := by omega
      rw [et]
      obtain ⟨W1, w1', hA⟩ := jsA_loop (d := d + 6) (f := f) (g := g) (n := n) (m := m) (tp := topC (x :: r) + offC (x :: r) - 2) (S := Sr) (p := topC (x :: r) + offC (x :: r) - 2) (q := topC (x :: r) + offC (x :: r) - 1) (by omega) (by omega) n15 m15 hf a1 a2 n 0 Sr (by omega) ⟨sFr.refl _ _, rfl, rfl, rfl, fun i hi => by omega⟩
      obtain ⟨W2, w2, hB⟩ := jsB_loop (d := d + 6) (f := f) (g := g) (n := n) (m := m) (tp := topC (x :: r) + offC (x :: r) - 2) (S := Sr) (q := topC (x :: r) + offC (x :: r) - 1) (by omega) hnm hg b1 b2 m 0 W1 (by omega) w1'
      obtain ⟨z1, z2, z3, z4, z5⟩ := w2
      obtain ⟨p1, p2, p3, p4, p5⟩ := pshW_s (tp := topC (x :: r) + offC (x :: r) - 2) (kd := nI 2) (xa := p_A (catT f g n) (n + m)) (xb := p_B (catT f g n) (n + m)) (S := W2)
      have hpk : ∀ hf', hf' ≤ 1 → Ans (d + 15) 297 [.ref 104, .int (nI 0), .int (nI (n + m)), .int (nI hf')] (wI 6151 (nI (topC (x :: r) + offC (x :: r) - 2)) W2) (some (.long (if hf' = 0 then p_A (catT f g n) (n + m) else p_B (catT f g n) (n + m)))) (wI 6151 (nI (topC (x :: r) + offC (x :: r) - 2)) W2) := fun hf' hh => packq_ev (d := d + 14) (fr := 0) (by omega) hnm hh (fun i hi => ⟨hcc i hi, by rw [Nat.zero_add]; exact z5 i hi⟩)
      refine ⟨pshW (topC (x :: r) + offC (x :: r) - 2) (nI 2) (p_A (catT f g n) (n + m)) (p_B (catT f g n) (n + m)) W2, goR ?_, z1.trans p1, p2, by rw [p3, p4, p5]; exact Or.inr (Or.inr (Or.inr (Or.inl ⟨rfl, hsr⟩)))⟩
      refine rJs_1 (d := d + 7) (by omega) (by omega) (by omega) (by omega) c1 (by omega) (by omega) c2 hnm (fun lv1 s0 s1 s2 s3 s4 s5 => hA _ _ (fun lv2 t0 t2 t3 t4 t5 => hB _ _ (fun lv3 u0 u2 u3 u4 u5 => ?_) lv2 t0 t2 t3 t4 t5) lv1 s0 s1 s2 s3 s4 s5)
      exact rJsB_1 (d := d + 7) u0 u2 u3 u4 u5 (by omega) (by omega) (by omega) (by omega) (Nat.le_refl _) (by rw [z3]; exact h51) (by omega) (by omega) (hpk 0 (by omega)) (hpk 1 (by omega)) (rpsh_T (d := d + 6) (by omega))
  · refine opR_err (e := 8) h (by omega) (goC (mJs_2 (d := d + 7) q1 w1 q0 (by omega) lm (by omega) ln (by omega))) (fun P T gT Q β D z nn g0 g1 g3 g4 g5 gn Sr hX => ?_)
    obtain ⟨_, _, c1, c2⟩ := rd hX
    exact goR (rJs_2 (d := d + 7) (by omega) (by omega) (by omega) (by omega) c1 (by omega) (by omega) c2 (by omega) (rfail_T (d := d + 6) 8 (by omega) Sr))
end
