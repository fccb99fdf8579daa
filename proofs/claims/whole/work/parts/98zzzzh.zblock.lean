/-! STATEMENTS OF THE REFERENCE: a block -/
section
variable {β : Nat → Nat} {n : Nat} {E : Nat → Nat → Bool} {V : Nat → Int32} {T : Nat → Nat × Nat} {P : Nat → Int32 → Int32 × Int32} {own0 : Nat → Nat × Nat} {m u k1 : Nat} {S0 S S1 S2 : cS} {H B0 W d l c w t f f1 b j s : Nat} {X Y : Nat → Nat} {o1 o2 : List Op} {A : Prop}
theorem kW_wA {a i : Nat} {x : Int32} (h : zE own0 m u S0 H B0 c w t f b S) (ha : a ∈ zAl) (c' w' t' f' b' : Nat) : kW m c' w' t' f' b' S (wA a i x S) := by
  have hb : 67 ≤ a ∧ a < 108 ∧ a ≠ 79 ∧ a ≠ 80 := by
    unfold zAl at ha
    simp only [List.mem_cons, List.not_mem_nil, or_false] at ha
    omega
  obtain ⟨n0, n7, n8, n9, n10, nb, nl⟩ := zE_ne h hb.1 hb.2.1 hb.2.2.1 hb.2.2.2
  refine ⟨⟨fun q _ => ?_, fun _ _ => rfl, fun _ _ => ⟨rfl, rfl⟩⟩, fun q _ => ⟨?_, ?_, ?_, ?_⟩, fun q _ => ⟨?_, ?_⟩⟩
  · obtain ⟨g, N, g1, g2, _⟩ := zE_g h
    rw [vR_eq g1] at n0
    rw [cw_eq (g := g) (show sV (wA a i x S) (100 * m + 0) = _ from g1), cw_eq g1, rAn _ _ _ n0]
  · exact congrFun (rAn _ _ _ n7) q
  · exact congrFun (rAn _ _ _ n8) q
  · exact congrFun (rAn _ _ _ n9) q
  · exact congrFun (rAn _ _ _ n10) q
  · exact congrFun (rAn _ _ _ nb) q
  · exact congrFun (rAn _ _ _ nl) q
theorem kW_wI {i : Nat} {x : Int32} (c' w' t' f' b' : Nat) : kW m c' w' t' f' b' S (wI i x S) := ⟨kR_wI, fun _ _ => ⟨rfl, rfl, rfl, rfl⟩, fun _ _ => ⟨rfl, rfl⟩⟩
theorem kA_wI {i : Nat} {x : Int32} : kA X S (wI i x S) := kA_eq (fun _ _ => rfl)
theorem zDf_W {K I : Nat → Nat} {sc1 : List (Nat × Nat × Nat × Nat)} (h : zDf K I V m sc1 S) (g : kW m c w t (sc1.length - 1) b S S1) : zDf K I V m sc1 S1 := fun i e he => by
  have hi := (List.getElem?_eq_some_iff.mp he).1
  obtain ⟨a1, a2, a3, a4⟩ := g.2.1 i (by omega)
  obtain ⟨e1, e2, e3, e4⟩ := h i e he
  exact ⟨a1.trans e1, a2.trans e2, a3.trans e3, a4.trans e4⟩
theorem ZB_s {F z : Nat} (hX : zX β n V own0 m k1 S0) (hz : z = 0 ∨ z = 1) (hQ : ZQ β n E V T own0 m u k1 S0 H B0 W F z) : ZB β n E V T own0 m u k1 S0 H B0 W (F + 1) z := by
  intro opn dp ind s lp tr ca sc at' X af c w t b k S D h hK1 hI hF hroom hD
  have e : ps (qK β n) (qL β n) (qI β n) E (F + 1) (bmZ z) (dp + 1) ind s lp tr ca c sc at' k = psB (qK β n) (qL β n) (qI β n) (ps (qK β n) (qL β n) (qI β n) E F) (tmZ z) (dp + 1) ind s lp tr ca c sc at' k := by
    rcases hz with rfl | rfl <;> rfl
  have hH : ∀ x, ps (qK β n) (qL β n) (qI β n) E (F + 1) (bmZ z) (dp + 1) ind s lp tr ca c sc at' k = .inr x → k + 2 < x.1 := fun x hx => by
    have hb : bmZ z = 2 ∨ bmZ z = 6 := by
      rcases hz with rfl | rfl
      · exact Or.inl rfl
      · exact Or.inr rfl
    obtain ⟨_, q1, _⟩ := (ps_H β n E (F + 1)).2.2.1 (bmZ z) (dp + 1) ind s lp tr ca c sc at' k x hb hx
    omega
  rw [e]
  rw [e] at hH
  obtain ⟨h1, h2, h3, h4, h5, h6, h7, h8, h9, h10, h11, h12, h13⟩ := id h
  obtain ⟨⟨c01, c02, c03, c04, c05⟩, ⟨c11, c12⟩, ⟨c21, c22, c23⟩, ⟨tr', c31, c32, c33⟩, c4, c5, ⟨c61, c62⟩, ⟨c71, c72, c73, c74⟩, ⟨c81, c82⟩, c9, c10⟩ := id h4
  have hk1 := hX.2.1
  have hiM := k_i (k := k) hX
  have hlv : lvZ dp = 260 + 4 * (12 - dp) := rfl
  have hlv1 : lvZ (dp + 1) = 260 + 4 * (12 - (dp + 1)) := rfl
  obtain ⟨d, rfl⟩ : ∃ d, D = d + 9 := ⟨D - 9, by omega⟩
  have hzM : z < 2 ^ 20 := by omega
  by_cases h13' : qK β n k = 13
  case neg =>
    have e2 : psB (qK β n) (qL β n) (qI β n) (ps (qK β n) (qL β n) (qI β n) E F) (tmZ z) (dp + 1) ind s lp tr ca c sc at' k = .inl (qL β n k) := if_pos h13'
    rw [e2]
    obtain ⟨b1, b2⟩ := z_tkF (d := d + 5) (K := 13) hX h1 h2 h3 h7 (by decide) h13' h9 h10 h11
    exact ⟨_, nI 0, Ans.of (by rw [ml_334]; exact Nat.le_of_ble_eq_true rfl) (zBl_6 (by omega) hzM b1), Or.inl ⟨_, zB_in rfl, rfl, b2⟩⟩
  have hk2 := q_end hX h7 hK1
  obtain ⟨r1, r2, r3, r4⟩ := rm_gt (β := β) (n := n) (k := k) (by omega)
  have hA1 := z_tkT (d := d + 5) (K := 13) hX h1 h2 h7 (by decide) h13'
  have hE1 := zE_wI (i := 6115) (x := nI (k + 1)) h1 (by decide)
  by_cases h2' : qK β n (k + 1) = 2
  case neg =>
    have e2 : psB (qK β n) (qL β n) (qI β n) (ps (qK β n) (qL β n) (qI β n) E F) (tmZ z) (dp + 1) ind s lp tr ca c sc at' k = .inl (qL β n k) := by
      unfold psB
      rw [if_neg (fun q => q h13'), if_pos h2']
    rw [e2]
    obtain ⟨b1, b2⟩ := z_nlF (d := d - 1) (j := k + 1) hX hE1 (rIe _ _ _) ((rIn _ _ (by decide)).trans h3) hk2 h2' h9 h10 h11
    rw [show d - 1 + 9 = d + 8 by omega] at b1
    exact ⟨_, nI 0, Ans.of (by rw [ml_334]; exact Nat.le_of_ble_eq_true rfl) (zBl_5 (by omega) hzM hA1 b1), Or.inl ⟨_, zB_in (show fl β n (k + 1) = flq (qL β n k) by rw [← r3]; rfl), rfl, b2⟩⟩
  have hk3 : k + 2 ≤ k1 := q_end hX hk2 r4
  have hA2 : Ans (d + 8) 332 [.ref 61] (wI 6115 (nI (k + 1)) S) (some (.int (nI 1))) (wI 6115 (nI (k + 2)) (wI 6115 (nI (k + 1)) S)) := by
    have hA2 := z_nlT (d := d - 1) (j := k + 1) hX hE1 (rIe _ _ _) hk2 h2'
    rw [show d - 1 + 9 = d + 8 by omega] at hA2
    exact hA2
  have hE2 := zE_wI (i := 6115) (x := nI (k + 2)) hE1 (by decide)
  have rn : rem β n (k + 2) + 1 ≤ rm β n (k + 1) := rm_nl (β := β) (n := n) (j := k + 1) h2'
  have a2 : sI (wI 6115 (nI (k + 2)) (wI 6115 (nI (k + 1)) S)) 6115 = nI (k + 2) := rIe _ _ _
  have f2 : sI (wI 6115 (nI (k + 2)) (wI 6115 (nI (k + 1)) S)) 6116 = nI 0 := ((rIn _ _ (by decide)).trans (rIn _ _ (by decide))).trans h3
  have i2 : ∀ i, i ≠ 6115 → sI (wI 6115 (nI (k + 2)) (wI 6115 (nI (k + 1)) S)) i = sI S i := fun i hi => (rIn _ _ hi).trans (rIn _ _ hi)
  obtain ⟨S2, hS2⟩ : ∃ S2, S2 = wI 6115 (nI (k + 2)) (wI 6115 (nI (k + 1)) S) := ⟨_, rfl⟩
  rw [← hS2] at a2 f2 i2 hE2 hA2
  obtain ⟨t1, t2, t3, -⟩ := z_tok hX hE2 hk3
  have hlt := rkd_lt (qK β n (k + 2))
  have hls : qK β n (k + 2) ≠ 2 := q_ls2 (Or.inl h2')
  have hi2 := k_i (k := k + 2) hX
  have hbad := z_bad (d := d + 6) hX hE2 a2 f2 hk3 h9 h10 h11
  by_cases hbc : qK β n (k + 2) = 1 ∨ qI β n (k + 2) ≤ ind ∨ 10 < dp + 1
  · have e2 : psB (qK β n) (qL β n) (qI β n) (ps (qK β n) (qL β n) (qI β n) E F) (tmZ z) (dp + 1) ind s lp tr ca c sc at' k = .inl (qL β n (k + 2)) := by
      unfold psB
      rw [if_neg (fun q => q h13'), if_neg (fun q => q h2'), if_pos hbc]
    rw [e2]
    refine ⟨_, nI 0, Ans.of (by rw [ml_334]; exact Nat.le_of_ble_eq_true rfl) ?_, Or.inl ⟨_, zB_in rfl, rfl, hbad.2⟩⟩
    by_cases q1 : qK β n (k + 2) = 1
    · exact zBl_1 (by omega) hzM hA1 hA2 a2 (by omega) t1 (by omega) (rkd_7.mpr q1) hbad.1
    have h70 := t3 q1 hls
    by_cases q2 : qI β n (k + 2) ≤ ind
    · exact zBl_2 (by omega) hzM hA1 hA2 a2 (by omega) t1 (by omega) (fun e => q1 (rkd_7.mp e)) h70 (by omega) q2 hbad.1
    · exact zBl_4 (by omega) hzM hA1 hA2 a2 (by omega) t1 (by omega) (fun e => q1 (rkd_7.mp e)) h70 (by omega) (by omega) ((i2 _ (by decide)).trans c02) (by omega) (by omega) hbad.1
  have e2 : psB (qK β n) (qL β n) (qI β n) (ps (qK β n) (qL β n) (qI β n) E F) (tmZ z) (dp + 1) ind s lp tr ca c sc at' k = ps (qK β n) (qL β n) (qI β n) E F (tmZ z) (dp + 1) (qI β n (k + 2)) s lp tr ca c sc at' (k + 2) := by
    unfold psB
    rw [if_neg (fun q => q h13'), if_neg (fun q => q h2'), if_neg hbc]
  rw [e2]
  rw [e2] at hH
  have q1 : qK β n (k + 2) ≠ 1 := fun q => hbc (Or.inl q)
  have q2 : ind < qI β n (k + 2) := by omega
  have q3 : dp + 1 ≤ 10 := by omega
  have h70 := t3 q1 hls
  have hE3 := zE_wA (a := 73) (i := dp + 1) (x := nI (qI β n (k + 2))) (zE_wI (i := 6117) (x := nI (dp + 1)) hE2 (by decide)) (by decide)
  have i3 : ∀ i, i ≠ 6115 → i ≠ 6117 → sI (wA 73 (dp + 1) (nI (qI β n (k + 2))) (wI 6117 (nI (dp + 1)) S2)) i = sI S i := fun i p1 p2 => show sI (wI 6117 (nI (dp + 1)) S2) i = _ from (rIn _ _ p2).trans (i2 i p1)
  have g7 : sI (wA 73 (dp + 1) (nI (qI β n (k + 2))) (wI 6117 (nI (dp + 1)) S2)) 6117 = nI (dp + 1) := show sI (wI 6117 (nI (dp + 1)) S2) 6117 = _ from rIe _ _ _
  have g5 : sI (wA 73 (dp + 1) (nI (qI β n (k + 2))) (wI 6117 (nI (dp + 1)) S2)) 6115 = nI (k + 2) := show sI (wI 6117 (nI (dp + 1)) S2) 6115 = _ from (rIn _ _ (by decide)).trans a2
  have hsA : ∀ a, a ≠ 73 → sA (wA 73 (dp + 1) (nI (qI β n (k + 2))) (wI 6117 (nI (dp + 1)) S2)) a = sA S a := fun a ha => by
    rw [rAn _ _ _ ha, hS2]
    rfl
  have hs73 : sA (wA 73 (dp + 1) (nI (qI β n (k + 2))) (wI 6117 (nI (dp + 1)) S2)) 73 = upd (sA S 73) (dp + 1) (nI (qI β n (k + 2))) := by
    rw [hS2]
    rfl
  have hkW : ∀ c' w' t' f' b', kW m c' w' t' f' b' S (wA 73 (dp + 1) (nI (qI β n (k + 2))) (wI 6117 (nI (dp + 1)) S2)) := fun c' w' t' f' b' => kW_trans (kW_trans (by rw [hS2]; exact kW_trans (kW_wI c' w' t' f' b') (kW_wI c' w' t' f' b') (Nat.le_refl _) (Nat.le_refl _) (Nat.le_refl _) (Nat.le_refl _) (Nat.le_refl _)) (kW_wI c' w' t' f' b') (Nat.le_refl _) (Nat.le_refl _) (Nat.le_refl _) (Nat.le_refl _) (Nat.le_refl _)) (kW_wA (zE_wI (i := 6117) (x := nI (dp + 1)) hE2 (by decide)) (by decide) c' w' t' f' b') (Nat.le_refl _) (Nat.le_refl _) (Nat.le_refl _) (Nat.le_refl _) (Nat.le_refl _)
  have hkA : kA X S (wA 73 (dp + 1) (nI (qI β n (k + 2))) (wI 6117 (nI (dp + 1)) S2)) := by
    refine ⟨fun i hi => ?_, fun i _ => ⟨?_, ?_, ?_⟩, fun i _ => ⟨?_, ?_⟩, fun i _ => ?_, fun i _ => ?_, fun i _ => ?_, fun i _ => ?_⟩
    · rw [hs73, upd_at, if_neg (by omega)]
    all_goals rw [hsA _ (by decide)]
  obtain ⟨S3, hS3⟩ : ∃ S3, S3 = wA 73 (dp + 1) (nI (qI β n (k + 2))) (wI 6117 (nI (dp + 1)) S2) := ⟨_, rfl⟩
  rw [← hS3] at hE3 i3 g7 g5 hsA hs73 hkW hkA
  have b3 : bkA S3 = bkA S ∧ bkL S3 = bkL S := ⟨funext fun i => ((hkW 0 0 0 0 (i + 1)).2.2 i (Nat.lt_succ_self i)).1, funext fun i => ((hkW 0 0 0 0 (i + 1)).2.2 i (Nat.lt_succ_self i)).2⟩
  have hz6 : sI S3 6139 = sI S 6139 := i3 _ (by decide) (by decide)
  have hnx : zIn β n E V T own0 m u k1 S0 H B0 W z (fun i => if i = dp + 1 then qI β n (k + 2) else opn i) (dp + 1) (qI β n (k + 2)) s lp tr sc at' (fun i => if i = 0 then dp + 1 else X i) af c w t b (k + 2) S3 := by
    have hq := qP_le (β := β) (n := n) (show k ≤ k + 2 by omega)
    refine ⟨⟨hE3, g5, (i3 _ (by decide) (by decide)).trans h3, ⟨⟨rfl, g7, q3, if_pos rfl, fun i hi => ?_⟩, ⟨(i3 _ (by decide) (by decide)).trans c11, by show X 1 ≤ dp + 1 + 1; omega⟩, ⟨(i3 _ (by decide) (by decide)).trans c21, by show X 2 ≤ dp + 1 + 1; omega, fun hz0 => ?_⟩, ⟨tr', (i3 _ (by decide) (by decide)).trans c31, by omega, c33⟩, (i3 _ (by decide) (by decide)).trans c4, (i3 _ (by decide) (by decide)).trans c5, ⟨(i3 _ (by decide) (by decide)).trans c61, by show X 5 ≤ _; omega⟩, ⟨(i3 _ (by decide) (by decide)).trans c71, by show X 6 ≤ _; omega, (i3 _ (by decide) (by decide)).trans c73, c74⟩, ⟨by rw [b3.1, b3.2]; exact c81, by omega⟩, ?_, c10⟩, zDf_W h5 (hkW 0 0 0 _ 0), h6, by omega, fun hz1 => ?_, h9, h10, h11, h12, h13⟩, hroom h13' h2', Or.inl h2', c12, c22, fun hz0 => by have := c33 hz0; omega⟩
    · show sA S3 73 i = nI (if i = dp + 1 then qI β n (k + 2) else opn i) ∧ (if i = dp + 1 then qI β n (k + 2) else opn i) < 4000
      rw [hs73, upd_at]
      by_cases hid : i = dp + 1
      · rw [if_pos hid, if_pos hid]
        exact ⟨rfl, by omega⟩
      · rw [if_neg hid, if_neg hid]
        exact c05 i (by omega)
    · have := c23 hz0
      show zLp lp (X 2) tr c S3
      unfold zLp at this ⊢
      rw [hsA _ (by decide), hsA _ (by decide)]
      exact this
    · refine zSc_go c9 id (scL_refl E sc) (fun i _ => by rw [hsA _ (by decide)]) (fun i _ => by rw [hsA _ (by decide)]) (fun i _ => by rw [hsA _ (by decide), hsA _ (by decide), hsA _ (by decide)]; exact ⟨rfl, rfl, rfl⟩) (fun own st hr _ _ => ?_)
      rcases hr hK1 (by omega) with hr0 | ⟨w1', w2', -, -, -⟩
      rotate_left
      · exact Or.inl ⟨by omega, fun j j1 j2 => by
          obtain rfl : j = k + 2 := by omega
          exact ⟨by omega, q1⟩⟩
      have hown := (hr0.2 k hr0.1 (Nat.le_refl _)).1
      refine rgn_go hr0 (by omega) (fun j j1 j2 => ?_)
      rcases (show j = k ∨ j = k + 1 ∨ j = k + 2 by omega) with rfl | rfl | rfl
      · exact ⟨hown, hK1⟩
      · exact ⟨by omega, by omega⟩
      · exact ⟨by omega, q1⟩
    · obtain ⟨e0, e1, e2, e3⟩ := h8 hz1
      exact ⟨e0, e1, hz6.trans e2, fun i q hq => by rw [hsA _ (by decide)]; exact e3 i q hq⟩
  have hfu : rem β n (k + 2) + 1 ≤ rm β n (k + 1) := rn
  obtain ⟨S4, v, hB, hO⟩ := hQ _ (dp + 1) (qI β n (k + 2)) s lp tr ca sc at' _ af c w t b (k + 2) S3 d (by omega) hnx (by omega) (by omega)
  refine ⟨S4, v, Ans.of (by rw [ml_334]; exact Nat.le_of_ble_eq_true rfl) (zBl_3 (by omega) hzM hA1 hA2 a2 (by omega) t1 (by omega) (fun e => q1 (rkd_7.mp e)) h70 (by omega) q2 ((i2 _ (by decide)).trans c02) (by omega) (by omega) (fun lv1 x0 x2 x3 => by rw [← hS3]; exact hB lv1 x0 x2 x3)), ?_⟩
  rcases hO with ⟨l, hb, hv, hzB⟩ | ⟨x, S5, hx, hv, hS5, hG⟩
  · refine Or.inl ⟨l, ?_, hv, hzB⟩
    rcases hb with hb | ⟨x, hx, x1, x2, x3⟩
    · exact Or.inl hb
    · refine Or.inr ⟨x, hx, x1, fun i hi => ?_, x3⟩
      have := x2 i hi
      dsimp only at this
      rwa [if_neg (by omega)] at this
  · refine Or.inr ⟨x, hx, hv, h13', h2', q2, hH x hx, ?_⟩
    obtain ⟨g1, g2, g3, g4, g5', g6, g7', g8, g9, g10, g11, g12, g13, g14, g15, g16⟩ := hG
    have hw0 : zO β n V (zPT (qK β n) (qI β n) V T) (agT T x.2.2.1.1) own0 m u S0 H B0 X (X 2 - 1) S c w t (sc.1.length - 1) b (k + 2) [] (sc.1.length - 1) S3 := ⟨hE3, g5, (i3 _ (by decide) (by decide)).trans h3, fun _ => trivial, (fun o ho => by cases ho), hkW _ _ _ _ _, hkA, Nat.le_refl _, fun i p hp => by cases hp⟩
    have hw := zO_app (Y := fun i => if i = 0 then dp + 1 else X i) hw0 g1 (fun i => by
      show X i ≤ if i = 0 then dp + 1 else X i
      split
      · rename_i e
        rw [e, c01]
        omega
      · exact Nat.le_refl _) id
    rw [hS5]
    refine ⟨zO_wI hw (by decide), fun i hi => ?_, fun hz0 => ((rIn _ _ (by decide)).trans (g3 hz0)).trans hz6, fun hz1 => ?_, ?_, g6, g7', g8, g9, g10, g11, fun j j1 j2 => ?_, g13, g14, g15, g16⟩
    · by_cases hi7 : i = 6117
      · rw [hi7, rIe, c02]
        rfl
      · have hi5 : i ≠ 6115 := fun e => by rw [e] at hi; exact absurd hi (by decide)
        exact ((rIn _ _ hi7).trans (g2 i hi)).trans (i3 i hi5 hi7)
    · obtain ⟨⟨y1, y2⟩, y3, y4⟩ := g4 hz1
      exact ⟨⟨(rIn _ _ (by decide)).trans y1, y2⟩, y3, y4⟩
    · exact g5'
    · obtain ⟨y1, y2⟩ := g12 j j1 j2
      exact ⟨by omega, y2⟩
end
