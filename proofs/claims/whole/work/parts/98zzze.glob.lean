/-! GLOBAL in the class -/
theorem scU_len (E : Nat → Nat → Bool) (s k : Nat) (sc : SCs) : (scU E s k sc).2.length = sc.2.length := List.length_map ..
theorem scU_at {E : Nat → Nat → Bool} {s k e : Nat} {sc : SCs} (he : e < sc.2.length) : (scU E s k sc).2.getD e (0, 0, 0) = if (Nat.beq (sF sc.2 e) s && E (sT sc.2 e) k) = true then (sF sc.2 e, sT sc.2 e, 2) else sc.2.getD e (0, 0, 0) := by
  unfold scU sF sT
  dsimp only
  rw [List.getD_eq_getElem?_getD, List.getElem?_map, List.getD_eq_getElem?_getD, List.getElem?_eq_getElem he]
  rfl
section
variable {A : Nat → Int32} {n z0 fb a0 F s ab d : Nat} {S0 : cS}
theorem scU_F (E : Nat → Nat → Bool) (s k : Nat) (sc : SCs) (e : Nat) : sF (scU E s k sc).2 e = sF sc.2 e ∧ sT (scU E s k sc).2 e = sT sc.2 e := by
  rcases Nat.lt_or_ge e sc.2.length with he | he
  · have h := scU_at (E := E) (s := s) (k := k) he
    unfold sF sT
    rw [h]
    split
    · exact ⟨rfl, rfl⟩
    · exact ⟨rfl, rfl⟩
  · unfold sF sT
    rw [List.getD_eq_getElem?_getD, List.getElem?_eq_none (by rw [scU_len]; exact he), List.getD_eq_getElem?_getD, List.getElem?_eq_none he]
    exact ⟨rfl, rfl⟩
theorem npS_map {E : Nat → Nat → Bool} {s k i : Nat} : ∀ l : List (Nat × Nat × Nat), (∀ x, x ∈ l → (Nat.beq x.1 s && E x.2.1 k) = true → x.2.2 ≠ 1) → npS (l.map (fun e => if (Nat.beq e.1 s && E e.2.1 k) = true then (e.1, e.2.1, 2) else e)) i = npS l i := by
  intro l
  induction l with
  | nil => intro _; rfl
  | cons x l ih =>
    intro h
    have h1 := ih (fun y hy => h y (List.mem_cons_of_mem _ hy))
    unfold npS at h1 ⊢
    rw [List.map_cons, List.filter_cons, List.filter_cons]
    by_cases hx : (Nat.beq x.1 s && E x.2.1 k) = true
    · have h2 := h x List.mem_cons_self hx
      rw [if_pos hx]
      have e1 : (Nat.beq (x.1, x.2.1, 2).1 i && Nat.beq (x.1, x.2.1, 2).2.2 1) = false := by
        show (Nat.beq x.1 i && Nat.beq 2 1) = false
        rw [show Nat.beq 2 1 = false from rfl, Bool.and_false]
      have e2 : (Nat.beq x.1 i && Nat.beq x.2.2 1) = false := by
        have : Nat.beq x.2.2 1 = false := by
          cases hb : Nat.beq x.2.2 1 with
          | false => rfl
          | true => exact absurd (Nat.eq_of_beq_eq_true hb) h2
        rw [this, Bool.and_false]
      rw [e1, e2]
      exact h1
    · rw [if_neg hx]
      split
      · rw [List.length_cons, List.length_cons, h1]
      · exact h1
/-- a name is told global -/
theorem glb_T {a c f k kn q : Nat} {sc : SCs} {at' : List Nat} {S : cS} (h : yG A n S0 z0 fb a0 s ab k sc at' a c f S) (hs : s ≠ 0) (hq : nmR (by1 A) n S kn (nI q)) (hqM : q < 4096) (hM : sc.2.length + 1 ≤ 1600) : ∃ S2, (∃ sc1, scG (Eb (by1 A) n) s kn sc = some sc1 ∧ Ans (d + 10) 116 [.ref 32, .int (nI q)] S (some (.int (nI 1))) S2 ∧ sI S2 3105 = sI S 3105 ∧ yOK A n S0 z0 fb a0 s ab S a c f (k, [], sc1, at') S2) ∨ (scG (Eb (by1 A) n) s kn sc = none ∧ Ans (d + 10) 116 [.ref 32, .int (nI q)] S (some (.int (nI 0))) S2 ∧ S2 = S) := by
  obtain ⟨g1, g2, g3, g4, g5, g6, g7, g8, g9, g10⟩ := id h
  obtain ⟨z, z1, z2, z3, z4⟩ := cP_NT g1
  have hs3 := g2.2.2.2.2
  obtain ⟨x, x1, x2⟩ := ent_S (d := d) g6 g8 z4 hq hqM (by omega) g9 h.2.2.2.2.2.2.2.2.2.2.2.2.2.2.2.2.2.1 h.2.2.2.2.2.2.2.2.2.2.2.2.2.2.2.2.1
  rcases x2 with ⟨x2, hx⟩ | ⟨e, e1, x2, x3, x4, x5⟩
  · subst hx
    obtain ⟨S1, p1, p2⟩ := add_T (d := d + 8) (kd := 2) h hs hq x2 hM (by omega) (by omega)
    refine ⟨S1, Or.inl ⟨scA s kn 2 sc, by unfold scG; rw [x2], Ans.of (by rw [ml_116]; exact Nat.le_of_ble_eq_true rfl) (Bod.lv (by rfl) (cGbr_4 (d := d + 1) g2.2.2.2.1 (by omega) x1 p1)), ?_, p2⟩⟩
    rw [cP_5 p2.1.1, cP_5 g1]
  · subst x2
    have heM := h.2.2.2.2.2.2.2.2.2.2.2.2.2.2.2.2.1
    obtain ⟨u1, u2, u3, u4⟩ := g6.2 e e1
    have hkd : (sc.2.getD e (0, 0, 0)).2.2 = sKd sc.2 e := rfl
    by_cases hk1 : sKd sc.2 e = 1
    · refine ⟨S, Or.inr ⟨?_, Ans.of (by rw [ml_116]; exact Nat.le_of_ble_eq_true rfl) (Bod.lv (by rfl) (cGbr_2 (d := d + 1) (e38 := 1) g2.2.2.2.1 (by omega) (by omega) x1 (by omega) (u3.trans (congrArg nI hk1)) (by omega) rfl)), rfl⟩⟩
      unfold scG
      rw [x3]
      exact if_pos (hkd.trans hk1)
    · have hF : FrT [3213] [] [35, 36, 37, 38, 40] [] S (wA 38 e (nI 2) S) := FrT_wA (by decide) (FrT.refl _ _ _ _ _)
      have hnK : nK S (wA 38 e (nI 2) S) := cP_nK g1 rfl (fun _ _ => rfl)
      have hkM : sKd sc.2 e < 2 ^ 20 := by
        have := g8.2.2.2 e e1
        omega
      refine ⟨wA 38 e (nI 2) S, Or.inl ⟨scU (Eb (by1 A) n) s kn sc, ?_, Ans.of (by rw [ml_116]; exact Nat.le_of_ble_eq_true rfl) (Bod.lv (by rfl) (cGbr_1 (d := d + 1) g2.2.2.2.1 (by omega) (by omega) x1 (by omega) u3 hkM hk1)), rfl, ?_⟩⟩
      · unfold scG
        rw [x3]
        exact if_neg (fun hc => hk1 (hkd.symm.trans hc))
      · have hun : ∀ i, i < sc.2.length → ((Nat.beq (sF sc.2 i) s && Eb (by1 A) n (sT sc.2 i) kn) = true ↔ i = e) := fun i hi => by
          refine ⟨fun hc => ?_, fun hc => ?_⟩
          · obtain ⟨hc1, hc2⟩ := Bool.and_eq_true_iff.mp hc
            have hc3 : sF sc.2 i = s := Nat.eq_of_beq_eq_true hc1
            rcases Nat.lt_trichotomy i e with hlt | heq | hgt
            · exfalso
              have := g8.2.1 i e hlt e1 (hc3.trans x4.symm)
              rw [Eb_trans hc2 (Eb_symm x5)] at this
              cases this
            · exact heq
            · exfalso
              have := g8.2.1 e i hgt hi (x4.trans hc3.symm)
              rw [Eb_trans x5 (Eb_symm hc2)] at this
              cases this
          · subst hc
            rw [Bool.and_eq_true]
            exact ⟨by rw [x4]; exact Nat.beq_refl s, x5⟩
        have hK : ∀ i, i < sc.2.length → sKd (scU (Eb (by1 A) n) s kn sc).2 i = if i = e then 2 else sKd sc.2 i := fun i hi => by
          unfold sKd
          rw [scU_at hi]
          by_cases hc : i = e
          · rw [if_pos ((hun i hi).mpr hc), if_pos hc]
          · rw [if_neg (fun hh => hc ((hun i hi).mp hh)), if_neg hc]
        refine yOK_sc h hF rfl ⟨fun i i1 i2 => ?_, fun i hi => ?_⟩ (fun i => ?_) ⟨fun i hi => ?_, fun i j hij hj hsf => ?_, g8.2.2.1, fun i hi => ?_⟩ (by rw [scU_len]; exact g5) (by rw [scU_len]; omega)
        · obtain ⟨v1, v2, v3, v4, v5, v6⟩ := g6.1 i i1 i2
          rw [scU_len]
          exact ⟨v1, v2, v3.trans (lsI_c _ (fun j _ => ((scU_F _ _ _ _ j).1).symm)), v4, v5, nmR_K hnK v6⟩
        · rw [scU_len] at hi
          obtain ⟨v1, v2, v3, v4⟩ := g6.2 i hi
          rw [(scU_F _ _ _ _ i).1, (scU_F _ _ _ _ i).2, hK i hi]
          refine ⟨nmR_K hnK v1, v2, ?_, v4.trans (lsI_c _ (fun j _ => ((scU_F _ _ _ _ j).1).symm))⟩
          show upd (sA S 38) e (nI 2) i = _
          rw [upd_at]
          by_cases hc : i = e
          · rw [if_pos hc, if_pos hc]
          · rw [if_neg hc, if_neg hc]
            exact v3
        · refine npS_map _ (fun y hy hc => ?_)
          obtain ⟨j, hj, rfl⟩ := List.mem_iff_getElem.mp hy
          have ej : sc.2.getD j (0, 0, 0) = sc.2[j] := by rw [List.getD_eq_getElem?_getD, List.getElem?_eq_getElem hj]; rfl
          have h1 : (Nat.beq (sF sc.2 j) s && Eb (by1 A) n (sT sc.2 j) kn) = true := by
            unfold sF sT
            rw [ej]
            exact hc
          have h2 := (hun j hj).mp h1
          subst h2
          have h3 : sKd sc.2 j = sc.2[j].2.2 := by unfold sKd; rw [ej]
          rw [← h3]
          exact hk1
        · rw [scU_len] at hi
          rw [(scU_F _ _ _ _ i).1]
          exact g8.1 i hi
        · rw [scU_len] at hj
          rw [(scU_F _ _ _ _ i).1, (scU_F _ _ _ _ j).1] at hsf
          rw [(scU_F _ _ _ _ i).2, (scU_F _ _ _ _ j).2]
          exact g8.2.1 i j hij hj hsf
        · rw [scU_len] at hi
          rw [hK i hi]
          by_cases hc : i = e
          · rw [if_pos hc]; exact Nat.le_refl _
          · rw [if_neg hc]; exact g8.2.2.2 i hi
end
section
variable {A : Nat → Int32} {n z0 fb l a c f ab lo : Nat} {S0 B : cS} {H : List Nat} {qa qc qf qe qs qn d : Nat}
/-- a turn of global whose name was taken, and there a fault came -/
theorem glF_B {S S1 S2 : cS} {b : Int32} {t : Nat} (h : yB A n S0 z0 fb l a c f ab lo H qa qc qf qe qs qn B S2) (h1 : Ans (d + 10) 40 [.ref 31] S none S1) (h2 : Ans (d + 10) 92 [.ref 43] S1 (some (.int b)) S2) (ht : t < 3000) : ∀ lv : sm_L, sm_get lv 0 = some (.ref 43) → sm_get lv 1 = some (.int (nI 1)) → sm_get lv 2 = some (.int (nI t)) → Bod (d + 10) 115 35 lv [] S none S2 := fun lv q0 q1 q2 =>
  cGlr_3 (d := d + 2) (tk := 0) q1 q2 q0 (by omega) (by omega) (by omega) ht h1 h2 (yB_5 h) (by omega) rfl (by omega) (fun lv1 r0 r1 r2 => cGlr_1 (d := d + 2) r1 r2 r0 (by omega) (by omega) rfl)
end
section
variable {A : Nat → Int32} {n z0 fb a0 F s ab d : Nat} {S0 : cS}
/-- names told global, behind a token that is not a name -/
theorem gls_L (hX : yPre A n S0 z0) {a c f dp : Nat} {at' : List Nat} (hs : s ≠ 0) (ha : a ≤ qA dp) (hc : c ≤ qC dp) (hf : f ≤ qF dp) (hdp : dp ≤ 12) : ∀ (M k : Nat) (sc : SCs) (S : cS), rm (by1 A) n (k + 1) < M → 3 ≤ qK (by1 A) n k → yG A n S0 z0 fb a0 s ab k sc at' a c f S → 2 * sc.2.length + rm (by1 A) n k ≤ 3015 → sc.1.length ≤ 280 → fb + sc.1.length ≤ 894 → ∃ S1 S2, (∀ (t : Nat) (lv : sm_L), t + rm (by1 A) n k ≤ 3001 → sm_get lv 0 = some (.ref 43) → sm_get lv 1 = some (.int (nI 1)) → sm_get lv 2 = some (.int (nI t)) → Bod (d + 10) 115 35 lv [] S none S1) ∧ Ans (d + 8) 86 [.ref 31] S1 none S2 ∧ yRes A n S0 z0 fb a0 s ab S a c f (qA dp) (qC dp) (qF dp) (qF dp) (psGl (qK (by1 A) n) (Eb (by1 A) n) (qL (by1 A) n k) s at' M sc (k + 1)) S2 := by
  intro M
  induction M with
  | zero => intro k sc S hM; omega
  | succ M ih =>
    intro k sc S hM hk h hE hs1 hfn
    have hqF : qF dp = 1515 + 4 * (12 - dp) := rfl
    obtain ⟨g1, g2, g3, g4⟩ := rm_gt (β := by1 A) (n := n) (k := k) hk
    have hrp := rm_pos (by1 A) n (k + 1)
    obtain ⟨S1, p1, Y1, _, _⟩ := read_O (d := d + 2) hX.1 (yOK_nil h) hk
    have G1 : yG A n S0 z0 fb a0 s ab (k + 1) sc at' a c f S1 := Y1.1
    by_cases k3' : qK (by1 A) n (k + 1) ≠ 3
    · obtain ⟨S2, q1, q2⟩ := pass_X (d := d + 1) (t := 3) (qa := qA dp) (qc := qC dp) (qf := qF dp) (qe := qF dp) hX.1 hX.2 Y1 k3' (by omega) ha hc hf (by omega) hs1 hfn
      have n2 : Ans (d + 10) 92 [.ref 43] S1 (some (.int (sI S1 3109))) S2 := Ans.of (by rw [ml_92]; exact Nat.le_of_ble_eq_true rfl) (Bod.lv (by rfl) (cTkr_1 (d := d + 1) q1))
      obtain ⟨S3, r1, r2⟩ := yB_nl (d := d + 6) q2
      refine ⟨S2, S3, fun t lv ht e0 e1 e2 => glF_B (d := d) q2 p1 n2 (by omega) lv e0 e1 e2, r1, yRes_l (l := qL (by1 A) n k) ?_ (by rw [← g3]; exact r2)⟩
      unfold psGl
      exact if_neg k3'
    have k3 : qK (by1 A) n (k + 1) = 3 := by omega
    obtain ⟨S2, q, n2, qM, Y2, hnm, _⟩ := name_O (d := d + 1) hX.1 Y1 k3
    have G2 : yG A n S0 z0 fb a0 s ab (k + 2) sc at' a c f S2 := Y2.1
    obtain ⟨g5, g6, g7, g8⟩ := rm_gt' (β := by1 A) (n := n) (k := k + 1) (k' := k + 2) rfl (by omega)
    have htk := cP_5 G2.1
    have hqk := q_lt (by1 A) n (k + 2)
    have hrp2 := rm_pos (by1 A) n (k + 2)
    by_cases k0 : qK (by1 A) n (k + 2) = 0
    · have b2 := yRes_bad (qa := qA dp) (qc := qC dp) (qf := qF dp) (qe := qF dp) hX.1.1 Y2 (cP_B hX.1 G2.1 k0) (FrT.refl _ _ _ _ _) (nK_id G2.1) ha hc hf (by omega) hs1 hfn
      obtain ⟨S3, r1, r2⟩ := yB_nl (d := d + 6) b2
      refine ⟨S2, S3, fun t lv ht e0 e1 e2 => glF_B (d := d) b2 p1 n2 (by omega) lv e0 e1 e2, r1, yRes_l (l := qL (by1 A) n k) ?_ (by rw [← g3, ← g7]; exact r2)⟩
      unfold psGl
      rw [if_pos k3]
      split
      · rfl
      · rw [if_neg (by show ¬ qK (by1 A) n (k + 2) = 12; omega)]
        exact if_neg (by show ¬ qK (by1 A) n (k + 2) = 2; omega)
    obtain ⟨S3, hg⟩ := glb_T (d := d) G2 hs hnm qM (by omega)
    rcases hg with ⟨sc1, hg1, hg2, hg3, hg4⟩ | ⟨hg1, hg2, hg3⟩
    · obtain ⟨l1, l2, l3⟩ := scG_l hg1
      have Y3 : yOK A n S0 z0 fb a0 s ab S a c f (k + 2, [], sc1, at') S3 := yOK_app Y2 hg4
      have G3 : yG A n S0 z0 fb a0 s ab (k + 2) sc1 at' a c f S3 := Y3.1
      have htk3 := cP_5 G3.1
      by_cases k12 : qK (by1 A) n (k + 2) = 12
      · obtain ⟨g9, _, _, _⟩ := rm_gt' (β := by1 A) (n := n) (k := k + 2) (k' := k + 2 + 1) rfl (by omega)
        obtain ⟨S4, S5, i1, i2, i3⟩ := ih (k + 2) sc1 S3 (by omega) (by omega) G3 (by omega) (by rw [l1]; exact hs1) (by rw [l1]; exact hfn)
        refine ⟨S4, S5, fun t lv ht e0 e1 e2 => cGlr_6 (d := d + 2) e1 e2 e0 (by omega) (by omega) (by omega) (by omega) p1 n2 htk (by omega) k0 hg2 htk3 (by omega) k12 (fun lv1 r0 r1 r2 => i1 (t + 1) lv1 (by omega) r0 r1 r2), i2, ?_⟩
        have e : psGl (qK (by1 A) n) (Eb (by1 A) n) (qL (by1 A) n k) s at' (M + 1) sc (k + 1) = psGl (qK (by1 A) n) (Eb (by1 A) n) (qL (by1 A) n (k + 2)) s at' M sc1 (k + 2 + 1) := by
          show (if qK (by1 A) n (k + 1) = 3 then _ else _) = _
          rw [if_pos k3, hg1]
          show (if qK (by1 A) n (k + 2) = 12 then _ else _) = _
          rw [if_pos k12, g7, g3]
        rw [e]
        have := yRes_pre Y3 i3
        rw [sbp_nil] at this
        exact this
      · obtain ⟨S4, r1, r2⟩ := ln_T (d := d) (qa := qA dp) (qc := qC dp) (qf := qF dp) (qe := qF dp) (l := qL (by1 A) n k) hX.1 hX.2 Y3 (g7.trans g3) ha hc hf (by omega) (by rw [l1]; exact hs1) (by rw [l1]; exact hfn)
        refine ⟨S3, S4, fun t lv ht e0 e1 e2 => cGlr_5 (d := d + 2) e1 e2 e0 (by omega) (by omega) (by omega) (by omega) p1 n2 htk (by omega) k0 hg2 htk3 (by omega) k12 (fun lv1 r0 r1 r2 => cGlr_1 (d := d + 2) r1 r2 r0 (by omega) (by omega) rfl), r1, ?_⟩
        have e : psGl (qK (by1 A) n) (Eb (by1 A) n) (qL (by1 A) n k) s at' (M + 1) sc (k + 1) = ln (qK (by1 A) n) (qL (by1 A) n k) (k + 2) [] sc1 at' := by
          show (if qK (by1 A) n (k + 1) = 3 then _ else _) = _
          rw [if_pos k3, hg1]
          exact if_neg k12
        rw [e]
        exact r2
    · subst hg3
      obtain ⟨S4, r1, r2⟩ := fail_X (d := d + 2) (qa := qA dp) (qc := qC dp) (qf := qF dp) (qe := qF dp) hX.1 hX.2 Y2 ha hc hf (by omega) hs1 hfn
      obtain ⟨S5, u1, u2⟩ := yB_nl (d := d + 6) r2
      refine ⟨S4, S5, fun t lv ht e0 e1 e2 => cGlr_7 (d := d + 2) e1 e2 e0 (by omega) (by omega) (by omega) (by omega) p1 n2 htk (by omega) k0 hg2 r1 (yB_5 r2) (by omega) (by omega) (fun lv1 r0 r1' r2' => cGlr_1 (d := d + 2) r1' r2' r0 (by omega) (by omega) rfl), u1, yRes_l (l := qL (by1 A) n k) ?_ (by rw [← g3, ← g7]; exact u2)⟩
      show (if qK (by1 A) n (k + 1) = 3 then _ else _) = _
      rw [if_pos k3, hg1]
end
