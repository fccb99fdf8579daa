/-! STATEMENTS OF THE CLASS: global; a statement, whatever it is; all rules -/
section
variable {A : Nat → Int32} {n z0 fb a0 s ab d F : Nat} {S0 B : cS}
theorem St_53 {a c f k dp : Nat} {sc : SCs} {at' : List Nat} {S : cS} (hX : yPre A n S0 z0) (h : yG A n S0 z0 fb a0 s ab k sc at' a c f S) (hz : yZ (rm (by1 A) n k) dp a c f sc.2.length sc.1.length (fb + sc.1.length - 1)) (hdp : dp ≤ 12) (hk : qK (by1 A) n k = 53) : ∃ S1, Ans (d + 14) 53 [.ref 43, .int (nI dp)] S none S1 ∧ yRes A n S0 z0 fb a0 s ab S a c f (qA dp) (qC dp) (qF dp) (qF dp) (sbp [(1, [qL (by1 A) n k], 0, 0)] (if s = 0 then .inl (qL (by1 A) n k) else psGl (qK (by1 A) n) (Eb (by1 A) n) (qL (by1 A) n k) s at' 6000 sc (k + 1))) S1 := by
  obtain ⟨c1, c2, c3, c4, c5, c6⟩ := yZ_c hz hdp
  obtain ⟨z1, z2, z3, z4, z5, z6⟩ := hz
  have eA : qA dp = 39700 + 60 * (12 - dp) := rfl
  have eC : qC dp = 5160 + 2 * (12 - dp) := rfl
  have eF : qF dp = 1515 + 4 * (12 - dp) := rfl
  obtain ⟨S1, p1, p2, p3, p4, p5, p6⟩ := St_1 (d := d + 5) hX.1.1 h c1
  rw [hk] at p5
  have w1 : wC [(1, [qL (by1 A) n k], (0 : Int), (0 : Int))] = 2 := rfl
  have hG : yG A n S0 z0 fb a0 s ab k sc at' (a + 2) c f S1 := p2.1
  have hI := inF_T (d := d + 3) hG
  have hgo : ∀ {S2 S3 : cS}, Ans (d + 13) 115 [.ref 43] S1 none S2 → Ans (d + 13) 86 [.ref 31] S2 none S3 → Ans (d + 14) 53 [.ref 43, .int (nI dp)] S none S3 := fun {S2 S3} u v => Ans.of (by rw [ml_53]; exact Nat.le_of_ble_eq_true rfl) (Bod.lv (by rfl) (cSt53_1 (d := d + 5) (by omega) p3 p4 (by omega) p1 p5 u v))
  by_cases h0 : s = 0
  · rw [if_pos h0] at hI ⊢
    obtain ⟨S2, q1, q2⟩ := fail_X (d := d + 4) (qa := 39600) (qc := 5152) (qf := 1510) (qe := 1510) hX.1 hX.2 p2 (by omega) (show c + 0 ≤ _ by omega) (show f + 0 ≤ _ by omega) (by omega) (by omega) (by omega)
    obtain ⟨S3, v1, v2⟩ := yB_nl (d := d + 11) q2
    refine ⟨S3, hgo (Ans.of (by rw [ml_115]; exact Nat.le_of_ble_eq_true rfl) (Bod.lv (by rfl) (cGl0_3 (d := d + 4) (tk := 0) hI q1 (yB_5 q2) (by omega) rfl (fun lv1 r0 r1 r2 => cGlr_1 (d := d + 4) (m := 0) (t := 0) r1 r2 r0 (by omega) (by omega) rfl)))) v1, yRes_l rfl (yB_le v2 (by omega) (by omega) (by omega) (by omega) (Nat.le_refl _) (Nat.le_refl _))⟩
  · rw [if_neg h0] at hI ⊢
    have hr1 := (rm_le (β := by1 A) (k := k + 1) hX.1.1).1
    have hr0 := (rm_le (β := by1 A) (k := k) hX.1.1).1
    obtain ⟨S2, S3, i1, i2, i3⟩ := gls_L (d := d + 2) hX h0 (a := a + 2) (dp := dp) (by omega) (by omega) (by omega) hdp 6000 k sc S1 (by omega) (by omega) hG (by omega) (by omega) (by omega)
    exact ⟨S3, hgo (Ans.of (by rw [ml_115]; exact Nat.le_of_ble_eq_true rfl) (Bod.lv (by rfl) (cGl0_2 (d := d + 4) (tk := 53) hI p5 (by omega) (by omega) (fun lv1 r0 r1 r2 => i1 0 lv1 (by omega) r0 r1 r2)))) (i2.up (by omega)), yRes_pre p2 i3⟩
theorem P53_T (hX : yPre A n S0 z0) (h84 : P84 A n S0 z0 fb a0 F) (h56 : P56 A n S0 z0 fb a0 F) (h6 : PB6 A n S0 z0 fb a0 F) : P53 A n S0 z0 fb a0 (F + 1) := by
  intro d dp ind s ab tr ca ra k a c f lp sc at' S hd hind hdp hs hie hk0 hk1 hF hI
  obtain ⟨h, hzr, hL, hca, hab, htr⟩ := hI
  have hrr := rm_rem (β := by1 A) (n := n) hk1
  have hz : yZ (rm (by1 A) n k) dp a c f sc.2.length sc.1.length (fb + sc.1.length - 1) := yZ_le hzr (by omega) (Nat.le_refl _)
  have hlv : lvD dp = 270 + 8 * (12 - dp) := rfl
  have eA : qA dp = 39700 + 60 * (12 - dp) := rfl
  have eC : qC dp = 5160 + 2 * (12 - dp) := rfl
  have eF : qF dp = 1515 + 4 * (12 - dp) := rfl
  have hdp12 : dp ≤ 12 := by omega
  obtain ⟨d1, rfl⟩ : ∃ d1, d = d1 + 14 := ⟨d - 14, by omega⟩
  have hps : psA A n (F + 1) 0 dp ind s lp tr ca ra sc at' k = sbp [(1, [qL (by1 A) n k], 0, 0)] (psS0 (qK (by1 A) n) (qL (by1 A) n) (qI (by1 A) n) (Eb (by1 A) n) (psA A n F) dp ind s lp tr (ca + 2) (ra + 2) sc at' k) := rfl
  rw [hps]
  have leaf : ∀ {r : PSr} {S1 : cS}, yRes A n S0 z0 fb a0 s ab S a c f 39600 5152 1510 1510 r S1 → yRes A n S0 z0 fb a0 s ab S a c f (qA dp) (qC dp) (qF dp) (qF dp) r S1 := fun hr => yRes_le hr (by omega) (by omega) (by omega) (by omega)
  obtain ⟨c1, c2, c3, c4, c5, c6⟩ := yZ_c hz hdp12
  obtain ⟨S1, p1, p2, p3, p4, p5, p6⟩ := St_1 (d := d1 + 5) hX.1.1 h c1
  have hG : yG A n S0 z0 fb a0 s ab k sc at' (a + 2) c f S1 := p2.1
  have hL1 : yLp a0 lp tr S1 := yF_lp hL p2.2.2.2.1
  have hca2 : a + 2 = a0 + (ca + 2) := by omega
  have hq := q_lt (by1 A) n k
  unfold psS0
  by_cases k40 : qK (by1 A) n k = 40
  · rw [if_pos k40]
    obtain ⟨S2, i1, i2, i3⟩ := h56 (d1 + 12) dp ind s ab tr (ca + 2) (ra + 2) k a c f lp sc at' S1 (by omega) hdp (Or.inl k40) hie (by omega) hG hz hL1 hca2 hab htr [] (Int32.ofInt (-1)) rfl trivial (by have := (rm_le (β := by1 A) (k := k) hX.1.1).1; show 0 + _ ≤ _; omega)
    rw [k40] at p5
    have h8 : sI S1 3108 = nI ind := by rw [(cP_8 hG.1).2 hk1, hie]
    refine ⟨S2, Ans.of (by rw [ml_53]; exact Nat.le_of_ble_eq_true rfl) (Bod.lv (by rfl) (cSt40_1 (d := d1 + 5) (by omega) p3 p4 (by omega) p1 p5 (Ans.of (by rw [ml_56]; exact Nat.le_of_ble_eq_true rfl) (Bod.lv (by rfl) (cBr0_1 (d := d1 + 4) (by omega) h8 hind (fun lv1 e0 e1 e2 e3 e4 e5 => i1 0 lv1 (by have := (rm_le (β := by1 A) (k := k) hX.1.1).1; omega) e0 e1 e2 e3 e4 e5)))))), yRes_pre p2 ⟨fun x hx => i2 x hx, fun l hl => ?_⟩⟩
    obtain ⟨t, ht⟩ := i3 l hl
    exact ht
  rw [if_neg k40]
  by_cases k43 : qK (by1 A) n k = 43
  · rw [if_pos k43]
    obtain ⟨S2, i1, i2⟩ := whl_T (d := d1 + 1) (ra := ra + 2) hX h84 hG hz hL1 hca2 hab htr k43 hie hdp (by omega) (by omega)
    rw [k43] at p5
    exact ⟨S2, Ans.of (by rw [ml_53]; exact Nat.le_of_ble_eq_true rfl) (Bod.lv (by rfl) (cSt43_1 (d := d1 + 5) (by omega) p3 p4 (by omega) p1 p5 i1)), yRes_pre p2 i2⟩
  rw [if_neg k43]
  by_cases k44 : qK (by1 A) n k = 44
  · rw [if_pos k44]
    obtain ⟨S2, i1, i2⟩ := for_T (d := d1 + 1) (ra := ra + 2) hX h84 hG hz hL1 hca2 hab htr k44 hie hdp (by omega) (by omega)
    rw [k44] at p5
    exact ⟨S2, Ans.of (by rw [ml_53]; exact Nat.le_of_ble_eq_true rfl) (Bod.lv (by rfl) (cSt44_1 (d := d1 + 5) (by omega) p3 p4 (by omega) p1 p5 i1)), yRes_pre p2 i2⟩
  rw [if_neg k44]
  by_cases k46 : qK (by1 A) n k = 46
  · rw [if_pos k46]
    obtain ⟨S2, x, i1, i2, i3⟩ := fun_T (d := d1 + 1) (ra := ra + 2) hX h84 hG hz hca2 hab k46 hie hdp (by omega) (by omega)
    rw [k46] at p5
    have hgo : ∀ {S3 : cS}, Ans (d1 + 13) 93 [.ref 43, .int x] S2 none S3 → Ans (d1 + 14) 53 [.ref 43, .int (nI dp)] S none S3 := fun {S3} u => Ans.of (by rw [ml_53]; exact Nat.le_of_ble_eq_true rfl) (Bod.lv (by rfl) (cSt46r_1 (d := d1 + 5) (by omega) p3 p4 (by omega) p1 p5 i1 u))
    unfold psDf
    cases hr : psDef (qK (by1 A) n) (qL (by1 A) n) (Eb (by1 A) n) (psA A n F) dp ind s (ca + 2) (ra + 2) sc at' k with
    | inl l =>
      obtain ⟨S3, j1, j2⟩ := yB_bindTo (d := d1 + 2) (q := x) (i3 l hr) (by omega) (by omega) (by omega)
      refine ⟨S3, hgo j1, yRes_pre p2 (yRes_l rfl (yB_le j2 (by omega) (by omega) (by omega) (by omega) (Nat.le_refl _) (Nat.le_refl _)))⟩
    | inr y =>
      obtain ⟨j1, q, rfl, j3, j4⟩ := i2 y hr
      obtain ⟨m1, m2, ⟨n1, n2, n3, n4, n5, n6, n7, n8⟩, m4, m5, m6⟩ := psDef_G (ps_H (by1 A) n (Eb (by1 A) n) F) k46 hie hr
      obtain ⟨ky, oy, scy, aty⟩ := y
      dsimp only at m1 m2 m4 n1 n2 m5 m6
      subst m4
      have G2 : yG A n S0 z0 fb a0 s ab ky scy aty (a + 2 + wC oy) (c + cnN oy) (f + fxM oy) S2 := j1.1
      obtain ⟨z1, z2, z3, z4, z5, z6⟩ := hzr
      obtain ⟨S3, r1, Y3⟩ := bindTo_T (d := d1 + 2) (kn := k + 1) G2 j4 j3 (by omega) (by omega) (by omega)
      exact ⟨S3, hgo r1, yRes_pre p2 (yRes_r (x := _) rfl (yOK_app j1 Y3))⟩
  rw [if_neg k46]
  by_cases k47 : qK (by1 A) n k = 47
  · rw [if_pos k47]
    obtain ⟨S2, i1, i2⟩ := cls_T (d := d1 + 1) (ra := ra + 2) hX h6 hG hz hca2 hab k47 hie hdp (by omega) (by omega)
    rw [k47] at p5
    exact ⟨S2, Ans.of (by rw [ml_53]; exact Nat.le_of_ble_eq_true rfl) (Bod.lv (by rfl) (cSt47_1 (d := d1 + 5) (by omega) p3 p4 (by omega) p1 p5 i1)), yRes_pre p2 i2⟩
  rw [if_neg k47]
  by_cases k54 : qK (by1 A) n k = 54
  · rw [if_pos k54]
    obtain ⟨S2, i1, i2⟩ := try_T (d := d1 + 1) (ra := ra + 2) hX h84 hG hz hL1 hca2 hab htr k54 hie hdp (by omega) (by omega)
    rw [k54] at p5
    exact ⟨S2, Ans.of (by rw [ml_53]; exact Nat.le_of_ble_eq_true rfl) (Bod.lv (by rfl) (cSt54_1 (d := d1 + 5) (by omega) p3 p4 (by omega) p1 p5 i1)), yRes_pre p2 i2⟩
  rw [if_neg k54]
  by_cases k52 : qK (by1 A) n k = 52
  · rw [if_pos k52]
    obtain ⟨S2, i1, i2⟩ := St_52 (d := d1) hX h hz hdp12 k52 (by omega)
    exact ⟨S2, i1, leaf i2⟩
  rw [if_neg k52]
  by_cases k48 : qK (by1 A) n k = 48
  · rw [if_pos k48]
    obtain ⟨S2, i1, i2⟩ := St_48 (d := d1 + 3) hX h hz hdp12 k48 (by omega)
    exact ⟨S2, i1, leaf i2⟩
  rw [if_neg k48]
  by_cases k56 : qK (by1 A) n k = 56
  · rw [if_pos k56]
    obtain ⟨S2, i1, i2⟩ := St_56 (d := d1 + 3) hX h hz hdp12 k56 (by omega)
    exact ⟨S2, i1, leaf i2⟩
  rw [if_neg k56]
  by_cases k51 : qK (by1 A) n k = 51
  · rw [if_pos k51]
    obtain ⟨S2, i1, i2⟩ := St_51 (d := d1 + 3) hX h hz hdp12 k51
    exact ⟨S2, i1, leaf i2⟩
  rw [if_neg k51]
  have hlv2 : ∀ brk : Bool, qK (by1 A) n k = (if brk = true then 49 else 50) → ∃ S1, Ans (d1 + 14) 53 [.ref 43, .int (nI dp)] S none S1 ∧ yRes A n S0 z0 fb a0 s ab S a c f (qA dp) (qC dp) (qF dp) (qF dp) (sbp [(1, [qL (by1 A) n k], 0, 0)] (psLv (qK (by1 A) n) (qL (by1 A) n) lp tr (ca + 2) (ra + 2) brk sc at' k)) S1 := fun brk hb => by
    cases hlp : lp with
    | none =>
      obtain ⟨S2, i1, i2⟩ := St_lv0 (d := d1) (ca := ca) (ra := ra) hX h hz hdp12 hL hlp hb
      rw [hlp] at i2
      exact ⟨S2, i1, leaf i2⟩
    | some x =>
      obtain ⟨S2, i1, i2⟩ := St_lv (d := d1) (ra := ra) hX h hz hdp12 hL hlp hca hb
      rw [hlp] at i2
      exact ⟨S2, i1, leaf i2⟩
  by_cases k49 : qK (by1 A) n k = 49
  · rw [if_pos k49]
    exact hlv2 true k49
  rw [if_neg k49]
  by_cases k50 : qK (by1 A) n k = 50
  · rw [if_pos k50]
    exact hlv2 false k50
  rw [if_neg k50]
  by_cases k53 : qK (by1 A) n k = 53
  · rw [if_pos k53]
    exact St_53 (d := d1) hX h hz hdp12 k53
  rw [if_neg k53]
  obtain ⟨S2, i1, i2⟩ := St_B (d := d1) hX h hz hdp12 (by omega) (by omega)
  exact ⟨S2, i1, leaf i2⟩
/-- ALL RULES OF STATEMENTS in the class -/
theorem St_all (hX : yPre A n S0 z0) : ∀ F, P84 A n S0 z0 fb a0 F ∧ P51 A n S0 z0 fb a0 F ∧ P53 A n S0 z0 fb a0 F ∧ P56 A n S0 z0 fb a0 F ∧ PC5 A n S0 z0 fb a0 F ∧ P106 A n S0 z0 fb a0 F ∧ PB6 A n S0 z0 fb a0 F := by
  intro F
  induction F with
  | zero =>
    refine ⟨?_, ?_, ?_, ?_, ?_, ?_, ?_⟩
    · intro d dp ind s ab tr ca ra k a c f lp sc at' S h1 h2 h3 hF; omega
    · intro d dp ind s ab tr ca ra k a c f lp sc at' S h1 h2 h3 h4 hF; omega
    · intro d dp ind s ab tr ca ra k a c f lp sc at' S h1 h2 h3 h4 h5 h6 h7 hF; omega
    · intro d dp ind s ab tr ca ra k a c f lp sc at' S h1 h2 h3 h4 hF; omega
    · intro d dp ind s ab ca ra k a c f sc at' S h1 h2 h3 h4 h5 h6 h7 hF; omega
    · intro d dp ind s ab ca ra k a c f sc at' S h1 h2 h3 h4 hF; omega
    · intro d dp ind s ab ca ra k a c f sc at' S h1 h2 h3 hF; omega
  | succ F ih =>
    obtain ⟨h84, h51, h53, h56, h5, h106, h6⟩ := ih
    exact ⟨P84_T hX h51, P51_T hX h53 h51, P53_T hX h84 h56 h6, P56_T hX h84 h56, PC5_T hX h84, P106_T hX h5 h106, PB6_T hX h106⟩
end
