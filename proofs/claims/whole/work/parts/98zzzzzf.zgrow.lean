/-! STATEMENTS OF THE REFERENCE: what a frame leaves; the arrays of breaks grow -/
section
variable {own own' : Nat → Nat × Nat} {A L LI LV : List Nat} {m u c w t f b N Nw Nt Nd Nb : Nat} {S S' : cS}
theorem isK_F (hF : FrO own A L LI LV S S') {g t0 N0 : Nat} (h : isK S g t0 N0) : isK S' g t0 N0 := by
  obtain ⟨l, hS⟩ := hF.2.2.2.2.1
  exact isK_K hS h
theorem own_F (hF : FrO own A L LI LV S S') (ho : ∀ a, a < 108 + (sS S).length → own' a = own a) {g t0 N0 p : Nat} (h : isK S g t0 N0) (hp : (own g).1 = p) : (own' g).1 = p := by rw [ho g (isK_lt h)]; exact hp
theorem cd_F (hF : FrO own A L LI LV S S') (hm : 108 ≤ m) (hs : (sS S)[m - 108]? = some (12, u)) : (sS S')[m - 108]? = some (12, u) := by
  obtain ⟨l, hS⟩ := hF.2.2.2.2.1
  exact sS_old hS hs
theorem RC_F (hs : RCs own m u c N S) (hw : RCw own m u w Nw S) (ht : RCt own m u t Nt S) (hF : FrO own A L LI LV S S') (hA : 26 ∉ A) (hL : 27 ∉ L ∧ 28 ∉ L ∧ 29 ∉ L) (hI : ∀ j, j ≤ 6 → 100 * m + j ∉ LI) (hV : ∀ j, j ≤ 4 → 100 * m + j ∉ LV) (ho : ∀ a, a < 108 + (sS S).length → own' a = own a) : RCs own' m u c N S' ∧ RCw own' m u w Nw S' ∧ RCt own' m u t Nt S' ∧ kR m c w t S S' := by
  obtain ⟨m1, m2, s1, s2, s3, s4, g, s5, s6, s7⟩ := hs
  obtain ⟨_, _, w1, w2, w3, w4, gw, w5, w6, w7⟩ := hw
  obtain ⟨_, _, t1, t2, t3, t4, gf, gs, t5, t6, t7, t8, t9, t10⟩ := ht
  have eI : ∀ j, j ≤ 6 → sI S' (100 * m + j) = sI S (100 * m + j) := fun j hj => hF.2.2.1 _ (hI j hj)
  have eV : ∀ j, j ≤ 4 → sV S' (100 * m + j) = sV S (100 * m + j) := fun j hj => hF.2.2.2.1 _ (hV j hj)
  have v0 := (eV 0 (by decide)).trans s5
  have v2 := (eV 2 (by decide)).trans w5
  have v3 := (eV 3 (by decide)).trans t5
  have v4 := (eV 4 (by decide)).trans t6
  have aG : sA S' g = sA S g := hF.2.2.2.2.2.1 g (isK_lt s6) (by rw [s7]; exact hA)
  have lW : sL S' gw = sL S gw := hF.2.2.2.2.2.2 gw (isK_lt w6) (by rw [w7]; exact hL.1)
  have lF : sL S' gf = sL S gf := hF.2.2.2.2.2.2 gf (isK_lt t7) (by rw [t9]; exact hL.2.1)
  have lS : sL S' gs = sL S gs := hF.2.2.2.2.2.2 gs (isK_lt t8) (by rw [t10]; exact hL.2.2)
  have m2' := cd_F hF m1 m2
  refine ⟨⟨m1, m2', (eI 1 (by decide)).trans s1, s2, s3, s4, g, v0, isK_F hF s6, own_F hF ho s6 s7⟩, ⟨m1, m2', (eI 5 (by decide)).trans w1, w2, w3, w4, gw, v2, isK_F hF w6, own_F hF ho w6 w7⟩, ⟨m1, m2', (eI 6 (by decide)).trans t1, t2, t3, t4, gf, gs, v3, v4, isK_F hF t7, isK_F hF t8, own_F hF ho t7 t9, own_F hF ho t8 t10⟩, fun i _ => ?_, fun i _ => ?_, fun i _ => ⟨?_, ?_⟩⟩
  · rw [cw_eq v0, cw_eq s5, aG]
  · unfold cWh
    rw [vR_eq v2, vR_eq w5, lW]
  · unfold cFi
    rw [vR_eq v3, vR_eq t5, lF]
  · unfold cSe
    rw [vR_eq v4, vR_eq t6, lS]
theorem RCd_F (hd : RCd own m u f Nd S) (hF : FrO own A L LI LV S S') (hA : ∀ x, 30 ≤ x → x ≤ 33 → x ∉ A) (hI : 100 * m + 11 ∉ LI) (hV : ∀ j, 7 ≤ j → j ≤ 10 → 100 * m + j ∉ LV) (ho : ∀ a, a < 108 + (sS S).length → own' a = own a) : RCd own' m u f Nd S' ∧ dNm S' m = dNm S m ∧ dAt S' m = dAt S m ∧ dPa S' m = dPa S m ∧ dLo S' m = dLo S m := by
  obtain ⟨m1, m2, d1, d2, d3, d4, g7, g8, g9, g10, ⟨a7, b7, c7⟩, ⟨a8, b8, c8⟩, ⟨a9, b9, c9⟩, ⟨a10, b10, c10⟩⟩ := hd
  have eV : ∀ j, 7 ≤ j → j ≤ 10 → sV S' (100 * m + j) = sV S (100 * m + j) := fun j h1 h2 => hF.2.2.2.1 _ (hV j h1 h2)
  have v7 := (eV 7 (by decide) (by decide)).trans a7
  have v8 := (eV 8 (by decide) (by decide)).trans a8
  have v9 := (eV 9 (by decide) (by decide)).trans a9
  have v10 := (eV 10 (by decide) (by decide)).trans a10
  have aG : ∀ g p, isK S g 0 Nd → (own g).1 = p → 30 ≤ p → p ≤ 33 → sA S' g = sA S g := fun g p h1 h2 h3 h4 => hF.2.2.2.2.2.1 g (isK_lt h1) (by rw [h2]; exact hA p h3 h4)
  refine ⟨⟨m1, cd_F hF m1 m2, (hF.2.2.1 _ hI).trans d1, d2, d3, d4, g7, g8, g9, g10, ⟨v7, isK_F hF b7, own_F hF ho b7 c7⟩, ⟨v8, isK_F hF b8, own_F hF ho b8 c8⟩, ⟨v9, isK_F hF b9, own_F hF ho b9 c9⟩, ⟨v10, isK_F hF b10, own_F hF ho b10 c10⟩⟩, ?_, ?_, ?_, ?_⟩
  · unfold dNm; rw [vR_eq v7, vR_eq a7]; exact aG g7 _ b7 c7 (by decide) (by decide)
  · unfold dAt; rw [vR_eq v8, vR_eq a8]; exact aG g8 _ b8 c8 (by decide) (by decide)
  · unfold dPa; rw [vR_eq v9, vR_eq a9]; exact aG g9 _ b9 c9 (by decide) (by decide)
  · unfold dLo; rw [vR_eq v10, vR_eq a10]; exact aG g10 _ b10 c10 (by decide) (by decide)
theorem RBk_F (hb : RBk own b Nb S) (hF : FrO own A L LI LV S S') (hA : 34 ∉ A ∧ 35 ∉ A) (hI : 6130 ∉ LI) (hV : 6128 ∉ LV ∧ 6129 ∉ LV) (ho : ∀ a, a < 108 + (sS S).length → own' a = own a) : RBk own' b Nb S' ∧ bkA S' = bkA S ∧ bkL S' = bkL S := by
  obtain ⟨k1, k2, k3, k4, gb, gl, ⟨ab, bb, cb⟩, ⟨al, bl, cl⟩⟩ := hb
  have v8 := (hF.2.2.2.1 _ hV.1).trans ab
  have v9 := (hF.2.2.2.1 _ hV.2).trans al
  refine ⟨⟨(hF.2.2.1 _ hI).trans k1, k2, k3, k4, gb, gl, ⟨v8, isK_F hF bb, own_F hF ho bb cb⟩, ⟨v9, isK_F hF bl, own_F hF ho bl cl⟩⟩, ?_, ?_⟩
  · unfold bkA; rw [vR_eq v8, vR_eq ab]; exact hF.2.2.2.2.2.1 gb (isK_lt bb) (by rw [cb]; exact hA.1)
  · unfold bkL; rw [vR_eq v9, vR_eq al]; exact hF.2.2.2.2.2.1 gl (isK_lt bl) (by rw [cl]; exact hA.2)
theorem OW_F (hO : OW own S) (hF : FrO own A L LI LV S S') (hV : ∀ p t f, p < 1500 → sQ S 86 p = some t → 2 ≤ f → f ≤ 7 → 100 * t + f ∉ LV) (ho : ∀ a, a < 108 + (sS S).length → own' a = own a) : OW own' S' := by
  obtain ⟨l, hS⟩ := hF.2.2.2.2.1
  have hl : (sS S').length = (sS S).length + l.length := by rw [hS, List.length_append]
  refine ⟨fun a ha => ?_, fun a h1 h2 h3 h4 => ?_, fun k a hk ha => ?_, fun p t hp hq f f1 f2 => ?_⟩
  · rw [ho a (by omega)]; exact hO.1 a ha
  · rw [ho a (by omega)]; exact hO.2.1 a h1 h2 h3 h4
  · rw [hF.2.1] at ha
    obtain ⟨q1, q2⟩ := hO.2.2.1 k a hk ha
    exact ⟨by rw [ho a q2]; exact q1, by omega⟩
  · rw [hF.2.1] at hq
    obtain ⟨v, c1, c2, c3⟩ := hO.2.2.2 p t hp hq f f1 f2
    refine ⟨v, ?_, by omega, by rw [ho v c2]; exact c3⟩
    rw [hF.2.2.2.1 _ (hV p t f hp hq f1 f2)]
    exact c1
end
/-- breaks' arrays grow -/
theorem bk_grow {own : Nat → Nat × Nat} {b N d : Nat} {S : cS} (h : RBk own b N S) (hb : b < 3000) : ∃ S' own' N', (∀ (lv : sm_L) (v : Option Value) (Sf : cS), sm_get lv 0 = some (.ref 61) → (∀ lv1 : sm_L, sm_get lv1 0 = some (.ref 61) → Bod (d + 8) 304 354 lv1 [] S' v Sf) → Bod (d + 8) 304 308 lv [] S v Sf) ∧ RBk own' b N' S' ∧ b < N' ∧ (∀ i, i < b → bkA S' i = bkA S i ∧ bkL S' i = bkL S i) ∧ FrO own [] [] [] [6128, 6129] S S' ∧ (∀ a, a < 108 + (sS S).length → own' a = own a) ∧ mu S' + 4 * N = mu S + 4 * N' ∧ (sS S').length + N ≤ (sS S).length + N' := by
  obtain ⟨k1, k2, k3, k4, gb, gl, ⟨ab, bb, cb⟩, ⟨al, bl, cl⟩⟩ := id h
  by_cases hlt : b < N
  · exact ⟨S, own, N, fun lv v Sf q0 hB => zLg_1 (d := d) q0 k1 hb ab bb (by omega) (by omega) hB, h, hlt, fun _ _ => ⟨rfl, rfl⟩, ⟨rfl, rfl, fun _ _ => rfl, fun _ _ => rfl, ⟨[], (List.append_nil _).symm⟩, fun _ _ _ => rfl, fun _ _ _ => rfl⟩, fun _ _ => rfl, rfl, Nat.le_refl _⟩
  obtain rfl : b = N := by omega
  obtain ⟨S1, hS1⟩ : ∃ S1, S1 = grI 6128 0 (2 * b) gb b S := ⟨_, rfl⟩
  have hC := copyOfI (d := d + 6) (n := 2 * b) bb (by omega) (by omega)
  have hlen1 : (sS S1).length = (sS S).length + 1 := by rw [hS1]; exact grI_len
  have v81 : sV S1 6128 = .ref (108 + (sS S).length) := by rw [hS1, grI_V, if_pos rfl]
  have v91 : sV S1 6129 = .ref gl := by rw [hS1, grI_V, if_neg (by decide)]; exact al
  have kl1 : isK S1 gl 0 b := by rw [hS1]; exact grI_o bl
  have kb1 : isK S1 (108 + (sS S).length) 0 (2 * b) := by rw [hS1]; exact grI_k
  have i1 : sI S1 6130 = nI b := by rw [hS1, grI_I]; exact k1
  obtain ⟨S2, hS2⟩ : ∃ S2, S2 = grI 6129 0 (2 * b) gl b S1 := ⟨_, rfl⟩
  have hC2 := copyOfI (d := d + 6) (n := 2 * b) kl1 (by omega) (by omega)
  have hlen2 : (sS S2).length = (sS S).length + 2 := by rw [hS2, grI_len, hlen1]
  have v82 : sV S2 6128 = .ref (108 + (sS S).length) := by rw [hS2, grI_V, if_neg (by decide)]; exact v81
  have v92 : sV S2 6129 = .ref (108 + (sS S1).length) := by rw [hS2, grI_V, if_pos rfl]
  have kb2 : isK S2 (108 + (sS S).length) 0 (2 * b) := by rw [hS2]; exact grI_o kb1
  have kl2 : isK S2 (108 + (sS S1).length) 0 (2 * b) := by rw [hS2]; exact grI_k
  have i2 : sI S2 6130 = nI b := by rw [hS2, grI_I]; exact i1
  have hbl := isK_lt bb
  have hll := isK_lt bl
  have aA : ∀ a, sA S2 a = if a = 108 + (sS S1).length then cpI (sA S gl) b else if a = 108 + (sS S).length then cpI (sA S gb) b else sA S a := fun a => by
    rw [hS2, grI_A, hS1, grI_A, grI_A, if_neg (show ¬ gl = 108 + (sS S).length by omega)]
  refine ⟨S2, fun a => if a = 108 + (sS S).length then (34, 0) else if a = 108 + (sS S1).length then (35, 0) else own a, 2 * b, fun lv v Sf q0 hB => ?_, ⟨i2, by omega, by omega, by omega, 108 + (sS S).length, 108 + (sS S1).length, ⟨v82, kb2, ?_⟩, ⟨v92, kl2, ?_⟩⟩, by omega, fun i hi => ⟨?_, ?_⟩, ⟨?_, ?_, fun i _ => ?_, fun i hi => ?_, ⟨[(0, 2 * b), (0, 2 * b)], ?_⟩, fun a ha _ => ?_, fun a _ _ => ?_⟩, fun a ha => ?_, ?_, by omega⟩
  · exact zLg_2 (d := d) (S1 := newI 0 (2 * b) (cpI (sA S gb) b) S) (S2 := newI 0 (2 * b) (cpI (sA (grI 6128 0 (2 * b) gb b S) gl) b) (grI 6128 0 (2 * b) gb b S)) q0 k1 hb ab bb (by omega) rfl hC al (isK_K (l := [(0, 2 * b)]) rfl bl) (by omega) (show sI (grI 6128 0 (2 * b) gb b S) 6130 = nI b by rw [← hS1]; exact i1) hb (by rw [hS1] at hC2; exact hC2) (by rw [hS2, hS1] at hB; exact hB)
  · show (if 108 + (sS S).length = 108 + (sS S).length then ((34 : Nat), (0 : Nat)) else _).1 = 34
    rw [if_pos rfl]
  · show (if 108 + (sS S1).length = 108 + (sS S).length then ((34 : Nat), (0 : Nat)) else if 108 + (sS S1).length = 108 + (sS S1).length then ((35 : Nat), (0 : Nat)) else own (108 + (sS S1).length)).1 = 35
    rw [if_neg (by omega), if_pos rfl]
  · unfold bkA
    rw [vR_eq v82, vR_eq ab, aA, if_neg (by omega), if_pos rfl, cpI_at hi]
  · unfold bkL
    rw [vR_eq v92, vR_eq al, aA, if_pos rfl, cpI_at hi]
  · rw [hS2, grI_J, hS1, grI_J]
  · rw [hS2, grI_Q, hS1, grI_Q]
  · rw [hS2, grI_I, hS1, grI_I]
  · rw [hS2, grI_V, if_neg (fun e => hi (by rw [e]; decide)), hS1, grI_V, if_neg (fun e => hi (by rw [e]; decide))]
  · rw [hS2, grI_S, hS1, grI_S, List.append_assoc]; rfl
  · rw [aA, if_neg (by omega), if_neg (by omega)]
  · rw [hS2, grI_L, hS1, grI_L]
  · show (if a = 108 + (sS S).length then ((34 : Nat), (0 : Nat)) else if a = 108 + (sS S1).length then ((35 : Nat), (0 : Nat)) else own a) = own a
    rw [if_neg (by omega), if_neg (by omega)]
  · rw [hS2, grI_m, hS1, grI_m]
    omega
