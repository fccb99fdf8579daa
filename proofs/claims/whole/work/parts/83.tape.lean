/-! THE NAME ON THE TAPE: the reference answers alike -/
theorem w_tx_ok : ∀ q, q < 24 → ∃ t, w_tx[q]? = some t ∧ t < 51 ∧ tx_n t ≤ 12 := by decide +kernel
theorem w_tx_len : w_tx.length = 24 := by decide
/-- the first names of the class are the words -/
def Wd (S : cS) : Prop := ∀ q t, w_tx[q]? = some t → c_is S (e_H (tx_c t) (tx_n t)) (e_L (tx_c t) (tx_n t)) q
theorem w_tx_at {q t : Nat} (h : w_tx[q]? = some t) : q < 24 ∧ t < 51 ∧ tx_n t ≤ 12 := by
  have hq : q < 24 := by
    rcases Nat.lt_or_ge q 24 with c | c
    · exact c
    · rw [List.getElem?_eq_none (by rw [w_tx_len]; exact c)] at h; cases h
  obtain ⟨t', h1, h2, h3⟩ := w_tx_ok q hq
  rw [h1] at h
  obtain rfl : t' = t := Option.some.inj h
  exact ⟨hq, h2, h3⟩
theorem byte_val {x : Int32} {b : Nat} (hf : fits .byte (.int x) = true) (h : ub x = b) (hb : b < 128) : x = nI b := by
  rcases byte_or hf with ⟨c, hc, e, _, eu⟩ | ⟨hn, c, h1, h2, _, eu⟩
  · rw [e, ← h, eu]
  · omega
theorem al_lt {S : cS} {x : Nat} (h : t_al S x) : c_byte S x < 128 := by
  rcases Nat.lt_or_ge (c_byte S x) 128 with c | c
  · exact c
  · obtain ⟨h1, h2⟩ := let_hi c
    rcases h with h | h
    · rw [h1] at h; cases h
    · rw [h2] at h; cases h
/-- both tapes hold the same bytes -/
def TP (S : cS) (t : Nat) : Prop := t ≤ 3000 ∧ (∀ k, k < t → sA S 1 k = sA S 107 k) ∧ (∀ i, i < 3000 → fits .byte (.int (sA S 107 i)) = true)
theorem TP_ub {S : cS} {t k : Nat} (h : TP S t) (hk : k < t) : ub (sA S 107 k) = c_byte S k := by
  rw [← h.2.1 k hk]
  rfl
theorem TP_al {S : cS} {t k : Nat} (h : TP S t) (hk : k < t) : r_al S k ↔ t_al S k := by
  unfold r_al t_al
  rw [TP_ub h hk]
theorem word_iff {S : cS} {t q w : Nat} (hT : TP S t) (ht : t ≤ 12) (hW : Wd S) (hw : w_tx[q]? = some w) : r_word S 107 0 t w ↔ c_is S (t_H S t) (t_L S t) q := by
  obtain ⟨hq, hw1, hw2⟩ := w_tx_at hw
  have hc := hW q w hw
  have hx : ∀ i, i < tx_n w → tx_c w i < 128 := fun i hi => (tx_ok w hw1 i hi).2
  have hM := hT.1
  constructor
  · rintro ⟨h1, h2⟩
    have e : ∀ i, i < t → c_byte S i = tx_c w i := fun i hi => by
      rw [← TP_ub hT hi]
      have := h2 i hi
      rw [Nat.zero_add] at this
      unfold ub
      rw [this, ub_pos _ (hx i (by omega)), gN_nI (by have := hx i (by omega); omega)]
    unfold t_H t_L
    rw [e_H_congr e, e_L_congr e, h1]
    exact hc
  · rintro ⟨h1, h2⟩
    obtain ⟨et, ef⟩ := e_inj (f := c_byte S) (g := tx_c w) (m := t) (n := tx_n w) (by omega) (by omega) (fun i _ => (c_byte_eq S i).2) (fun i hi => by have := hx i hi; omega) (h1.symm.trans hc.1) (h2.symm.trans hc.2)
    refine ⟨et, fun k hk => ?_⟩
    rw [Nat.zero_add]
    exact byte_val (hT.2.2 k (by omega)) ((TP_ub hT hk).trans (ef k hk)) (hx k (by omega))
theorem TP_I {S : cS} {t k : Nat} {v : Int32} (h : TP S t) : TP (wI k v S) t := h
theorem rw_I {S : cS} {t w k : Nat} {v : Int32} : r_word (wI k v S) 107 0 t w ↔ r_word S 107 0 t w := Iff.rfl
/-- no name: none of both -/
theorem tname_rb {d t : Nat} {S : cS} (h7 : sI S 6175 = nI t) (hT : TP S t) (hW : Wd S) (hb : tb S t) : Ans (d + 7) 425 [.ref 61] S (some (.int (Int32.ofInt (-1)))) (wI 6175 (nI 0) S) := by
  have hM := hT.1
  have noword : (∀ q w, w_tx[q]? = some w → ¬ r_word S 107 0 t w) → t ≤ 12 → Ans (d + 6) 291 [.ref 107, .int (nI 0), .int (nI t)] (wI 6175 (nI 0) S) (some (.int (Int32.ofInt (-1)))) (wI 6175 (nI 0) S) := fun h ht => wordOf_none (d := d) (NB := 3000) (mk_107 _) (by decide) (by omega) (fun w hw hr => by
    obtain ⟨q, hq⟩ := List.mem_iff_getElem?.mp hw
    exact h q w hq hr)
  rcases hb with h | h | ⟨h1, h2, hl⟩ | ⟨h1, h2, hl, M, m1, m2, m3⟩ | ⟨h1, h2, hl, ha, q, hq, hi⟩
  · exact Ans.up (by omega) (rT_0 (d := 0) h7 h)
  · exact Ans.up (by omega) (rT_13 (d := 0) h7 hM h)
  · exact Ans.up (by omega) (rT_let (d := 0) h7 h1 h2 hT.2.2 (by rw [TP_ub hT (by omega)]; exact hl))
  · refine rT_in h7 h1 h2 hT.2.2 (by rw [TP_ub hT (by omega)]; exact hl) (noword (fun q w hw hr => ?_) h2) ?_
    · obtain ⟨c1, c2, c3⟩ := w_tx_at hw
      refine m3 (Or.inl ?_)
      have e := hr.2 M m1
      rw [Nat.zero_add] at e
      have hlet : ∀ q, q < 24 → ∀ w, w_tx[q]? = some w → ∀ i, i < tx_n w → c_let (tx_c w i) = true := by decide +kernel
      rw [← TP_ub hT m1]
      unfold ub
      have hx := (tx_ok w c2 M (by rw [← hr.1]; exact m1)).2
      rw [e, ub_pos _ hx, gN_nI (by omega)]
      exact hlet q c1 w hw M (by rw [← hr.1]; exact m1)
    · have hT' : TP (wI 6175 (nI 0) S) t := TP_I hT
      exact rT_loopb (d := d + 5) (M := M) (S := wI 6175 (nI 0) S) h2 hT'.2.2 (fun k hk => (TP_al (S := wI 6175 (nI 0) S) hT' (by omega)).mpr (m2 k hk)) m1 (fun c => m3 ((TP_al (S := wI 6175 (nI 0) S) hT' m1).mp c)) M 0 (by omega)
  · obtain ⟨w, hw, _⟩ := w_tx_ok q hq
    obtain ⟨p, hp, _, hA⟩ := wordOf_some (d := d) (NB := 3000) (fr := 0) (n := t) (S := wI 6175 (nI 0) S) (mk_107 _) (by decide) (by omega) ⟨w, List.mem_iff_getElem?.mpr ⟨q, hw⟩, (word_iff hT h2 hW hw).mpr hi⟩
    exact rT_word h7 h1 h2 hT.2.2 (by rw [TP_ub hT (by omega)]; exact hl) hp hA
/-- a name: its number in the reference, and the table behind it -/
theorem tname_rv {d t z : Nat} {S : cS} {own : Nat → Nat × Nat} {β : Nat → Nat} {V W : Nat → Int64} {nn g0 g1 g3 g4 g5 gn : Nat} (h7 : sI S 6175 = nI t) (hT : TP S t) (hW : Wd S) (hv : tv S t) (hR : RN own S nn g0 g1 g3 g4 g5 gn) (hgn : gn < 2 ^ 18) (hfit : ∀ i, fits .byte (.int (sA S g0 i)) = true) (hNM : NMv β S V W z nn g0 g1 g3 g4 g5) (hO : OW own S) : ∃ S' own' nn' h0 h1 h3 h4 h5 gn' r, Ans (d + 8) 425 [.ref 61] S (some (.int (nI r))) S' ∧ RN own' S' nn' h0 h1 h3 h4 h5 gn' ∧ NMv β S' V W z nn' h0 h1 h3 h4 h5 ∧ r < nn' ∧ rnH S' h0 h1 r = t_H S t ∧ rnL S' h0 h1 r = t_L S t ∧ FrO own [20, 21, 23] [24, 25] [6102, 6175] [6100, 6101, 6103, 6104, 6105] S S' ∧ (∀ a, a < 108 + (sS S).length → own' a = own a) ∧ sI S' 6175 = nI 0 ∧ mu S' + 32 * gn = mu S + 32 * gn' ∧ (sS S').length + gn ≤ (sS S).length + gn' ∧ (gn' = gn ∨ gn = nn ∧ gn' = 2 * nn) ∧ (∀ i, fits .byte (.int (sA S' h0 i)) = true) ∧ (nn' = nn ∨ nn' = nn + 1) := by
  obtain ⟨h1, h2, hl, ha, hnw⟩ := hv
  have hM := hT.1
  have hb : ∀ i, i < t → c_byte S i < 128 ∧ sA S 107 (0 + i) = nI (c_byte S i) := fun i hi => by
    have := al_lt (ha i hi)
    refine ⟨this, ?_⟩
    rw [Nat.zero_add]
    exact byte_val (hT.2.2 i (by omega)) (TP_ub hT hi) this
  have hnoword : Ans (d + 1 + 6) 291 [.ref 107, .int (nI 0), .int (nI t)] (wI 6175 (nI 0) S) (some (.int (Int32.ofInt (-1)))) (wI 6175 (nI 0) S) := wordOf_none (NB := 3000) (mk_107 _) (by decide) (by omega) (fun w hw hr => by
    obtain ⟨q, hq⟩ := List.mem_iff_getElem?.mp hw
    exact hnw q (w_tx_at hq).1 ((word_iff hT h2 hW hq).mp hr))
  have hR1 : RN own (wI 6175 (nI 0) S) nn g0 g1 g3 g4 g5 gn := by
    obtain ⟨q1, q2, q3, q4, q5, q6, k0, k1, k3, k4, k5, qr⟩ := hR
    exact ⟨(rIn _ _ (by decide)).trans q1, q2, q3, q4, q5, q6, isK_S rfl k0, isK_S rfl k1, isK_S rfl k3, isK_S rfl k4, isK_S rfl k5, qr⟩
  have hT' : TP (wI 6175 (nI 0) S) t := TP_I hT
  have hal' : ∀ k, k < t → r_al (wI 6175 (nI 0) S) k := fun k hk => (TP_al (S := wI 6175 (nI 0) S) hT' hk).mpr (ha k hk)
  have hin : ∀ (x : Int32) (S2 : cS), Ans (d + 1 + 5 + 1) 294 [.ref 61, .ref 107, .int (nI 0), .int (nI t)] (wI 6175 (nI 0) S) (some (.int x)) S2 → Ans (d + 8) 425 [.ref 61] S (some (.int x)) S2 := fun x S2 hA => rT_in (d := d + 1) h7 h1 h2 hT.2.2 (by rw [TP_ub hT (by omega)]; exact hl) hnoword (rT_loop (d := d + 1 + 5) (S := wI 6175 (nI 0) S) h2 hT'.2.2 hal' hA t 0 (by omega))
  have enc := fun r (hr : r < nn) => same_enc (ab := 107) (fr := 0) (n := t) (f := c_byte S) (hNM.1 r hr) h2 hb
  have hFw : FrO own [20, 21, 23] [24, 25] [6102, 6175] [6100, 6101, 6103, 6104, 6105] S (wI 6175 (nI 0) S) := ⟨rfl, rfl, fun i hi => rIn (k := 6175) _ _ (i := i) (fun e => hi (by rw [e]; decide)), fun _ _ => rfl, ⟨[], (List.append_nil _).symm⟩, fun _ _ _ => rfl, fun _ _ _ => rfl⟩
  by_cases hex : ∃ r, r < nn ∧ r_same S g0 g1 107 0 t r
  · obtain ⟨r, hr, hs⟩ := hex
    obtain ⟨eH, eL⟩ := (enc r hr).mp hs
    have hA : Ans (d + 1 + 5 + 1) 294 [.ref 61, .ref 107, .int (nI 0), .int (nI t)] (wI 6175 (nI 0) S) (some (.int (nI r))) (wI 6175 (nI 0) S) := by
      obtain ⟨q1, q2, q3, q4, q5, q6, k0, k1, k3, k4, k5, qn, _⟩ := hR1
      exact Ans.up (by omega) (nameOf_old (d := 0) (S := wI 6175 (nI 0) S) (NB := 3000) q1 q2 q3 k0 k1 (by omega) qn (mk_107 _) (by decide) (by omega) h1 h2 hr hs (fun p hp hps => by
        obtain ⟨eH2, eL2⟩ := (enc p (by omega)).mp hps
        have := hNM.2.1 p r (by omega) hr (eH2.trans eH.symm) (eL2.trans eL.symm)
        omega))
    exact ⟨_, own, nn, g0, g1, g3, g4, g5, gn, r, hin _ _ hA, hR1, hNM, hr, eH, eL, hFw, fun _ _ => rfl, rIe _ _ _, rfl, Nat.le_refl _, Or.inl rfl, hfit, Or.inl rfl⟩
  · obtain ⟨S', own', h0, h1', h3, h4, h5, gn', hA, hR', hF', hown, hkept, hmu, hlen, hg, hft⟩ := nameOf_new (d := d + 4) (ab := 107) (NB := 3000) (fr := 0) (n := t) hR1 hgn (mk_107 _) (by omega) (by decide) (by omega) h1 h2 (fun i hi => hT.2.2 (0 + i) (by omega)) hfit (fun S' _ _ => mk_107 S') (fun p hp hs => hex ⟨p, hp, hs⟩)
    have hO1 : OW own (wI 6175 (nI 0) S) := hO
    have hFO := FrN_O hF'
    have l17 : ∀ a, a < 62 → sL S' a = sL S a := fun a ha => OW_L hO1 hFO (by decide) (Or.inl ha)
    have hNM' : NMv β S' V W z (nn + 1) h0 h1' h3 h4 h5 := NM_R (S := wI 6175 (nI 0) S) (ab := 107) (fr := 0) (n := t) hNM hkept h1 h2 (fun i hi => ⟨_, (hb i hi).1, (hb i hi).2⟩) (fun p hp hs => hex ⟨p, hp, hs⟩) (fun q => ⟨by rw [l17 17 (by decide)]; rfl, by rw [l17 18 (by decide)]; rfl⟩)
    have e107 : sA S' 107 = sA S 107 := OW_A hO1 hFO (by decide) (Or.inr (by decide))
    have hsame : r_same S' h0 h1' 107 0 t nn := ⟨hkept.2.2.2.1, fun i hi => by rw [hkept.2.1 i hi, e107]; rfl⟩
    obtain ⟨eH, eL⟩ := (same_enc (ab := 107) (fr := 0) (n := t) (f := c_byte S) (hNM'.1 nn (by omega)) h2 (fun i hi => ⟨(hb i hi).1, by rw [e107]; exact (hb i hi).2⟩)).mp hsame
    refine ⟨S', own', nn + 1, h0, h1', h3, h4, h5, gn', nn, hin _ _ hA, hR', hNM', by omega, eH, eL, ?_, hown, ?_, hmu, hlen, hg, hft, Or.inr rfl⟩
    · exact ⟨hFO.1, hFO.2.1, fun i hi => (hFO.2.2.1 i (fun c => hi (by rw [List.mem_singleton.mp c]; decide))).trans (rIn (k := 6175) _ _ (i := i) (fun e => hi (by rw [e]; decide))), hFO.2.2.2.1, hFO.2.2.2.2.1, hFO.2.2.2.2.2.1, hFO.2.2.2.2.2.2⟩
    · rw [hFO.2.2.1 6175 (by decide), rIe]
