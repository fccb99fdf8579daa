/-! THE CLASS'S RULES OF STATEMENTS, one inside the other: what each gives by what is left of the text; statements of one indent, blocks -/
def qA (dp : Nat) : Nat := 39700 + 60 * (12 - dp)
def qC (dp : Nat) : Nat := 5160 + 2 * (12 - dp)
def qF (dp : Nat) : Nat := 1515 + 4 * (12 - dp)
def lvD (dp : Nat) : Nat := 270 + 8 * (12 - dp)
def psA (A : Nat → Int32) (n F : Nat) : RsT := ps (qK (by1 A) n) (qL (by1 A) n) (qI (by1 A) n) (Eb (by1 A) n) F
/-- where a rule begins -/
def yIn (A : Nat → Int32) (n : Nat) (S0 : cS) (z0 fb a0 W dp s ab tr ca : Nat) (lp : LpT) (k : Nat) (sc : SCs) (at' : List Nat) (a c f : Nat) (S : cS) : Prop := yG A n S0 z0 fb a0 s ab k sc at' a c f S ∧ yZ W dp a c f sc.2.length sc.1.length (fb + sc.1.length - 1) ∧ yLp a0 lp tr S ∧ a = a0 + ca ∧ ab ≤ 40 * dp ∧ tr ≤ dp
def P84 (A : Nat → Int32) (n : Nat) (S0 : cS) (z0 fb a0 F : Nat) : Prop := ∀ (d dp ind s ab tr ca ra k a c f : Nat) (lp : LpT) (sc : SCs) (at' : List Nat) (S : cS), lvD dp ≤ d → ind < 2 ^ 20 → dp ≤ 12 → 4 * rm (by1 A) n k + 1 ≤ F → yIn A n S0 z0 fb a0 (rm (by1 A) n k - 2) dp s ab tr ca lp k sc at' a c f S → ∃ S1, Ans d 84 [.ref 43, .int (nI ind), .int (nI dp)] S none S1 ∧ yRes A n S0 z0 fb a0 s ab S a c f (qA dp) (qC dp) (qF dp) (qF dp) (psA A n F 2 dp ind s lp tr ca ra sc at' k) S1
def P51 (A : Nat → Int32) (n : Nat) (S0 : cS) (z0 fb a0 F : Nat) : Prop := ∀ (d dp ind s ab tr ca ra k a c f : Nat) (lp : LpT) (sc : SCs) (at' : List Nat) (S : cS), lvD dp ≤ d + 2 → ind < 2 ^ 20 → dp ≤ 11 → (s ≠ 0 → 1 ≤ ind) → 4 * rem (by1 A) n k + 4 ≤ F → yIn A n S0 z0 fb a0 (rem (by1 A) n k) dp s ab tr ca lp k sc at' a c f S → ∃ S1, (∀ (t : Nat) (lv : sm_L), t + rem (by1 A) n k ≤ 3001 → sm_get lv 0 = some (.ref 43) → sm_get lv 1 = some (.int (nI ind)) → sm_get lv 2 = some (.int (nI dp)) → sm_get lv 3 = some (.int (nI t)) → Bod d 51 2 lv [] S none S1) ∧ yRes A n S0 z0 fb a0 s ab S a c f (qA dp) (qC dp) (qF dp) (qF dp) (psA A n F 1 dp ind s lp tr ca ra sc at' k) S1
def P53 (A : Nat → Int32) (n : Nat) (S0 : cS) (z0 fb a0 F : Nat) : Prop := ∀ (d dp ind s ab tr ca ra k a c f : Nat) (lp : LpT) (sc : SCs) (at' : List Nat) (S : cS), lvD dp ≤ d + 2 → ind < 2 ^ 20 → dp ≤ 11 → (s ≠ 0 → 1 ≤ ind) → qI (by1 A) n k = ind → qK (by1 A) n k ≠ 0 → qK (by1 A) n k ≠ 1 → 4 * rem (by1 A) n k + 3 ≤ F → yIn A n S0 z0 fb a0 (rem (by1 A) n k) dp s ab tr ca lp k sc at' a c f S → ∃ S1, Ans d 53 [.ref 43, .int (nI dp)] S none S1 ∧ yRes A n S0 z0 fb a0 s ab S a c f (qA dp) (qC dp) (qF dp) (qF dp) (psA A n F 0 dp ind s lp tr ca ra sc at' k) S1
theorem yZ_le {W W1 dp dp1 a c f e sn fn : Nat} (h : yZ W dp a c f e sn fn) (hW : W1 ≤ W) (hd : dp ≤ dp1) : yZ W1 dp1 a c f e sn fn := by
  obtain ⟨z1, z2, z3, z4, z5, z6⟩ := h
  exact ⟨by omega, by omega, by omega, by omega, by omega, by omega⟩
theorem yZ_go {W W1 D dp a c f i w fb : Nat} {sc : SCs} {at' : List Nat} {x : PT} (hz : yZ W dp a c f sc.2.length sc.1.length (fb + sc.1.length - 1)) (hE : psE w i D sc at' x) (hD : W1 + D ≤ W) (h1 : 1 ≤ sc.1.length) : yZ W1 dp (a + wC x.2.1) (c + cnN x.2.1) (f + fxM x.2.1) x.2.2.1.2.length x.2.2.1.1.length (fb + x.2.2.1.1.length - 1) := by
  obtain ⟨z1, z2, z3, z4, z5, z6⟩ := hz
  obtain ⟨e1, e2, e3, e4, e5, e6, e7, e8⟩ := hE
  exact ⟨by omega, by omega, by omega, by omega, by omega, by omega⟩
theorem sbp_nil (r : PSr) : sbp [] r = r := by
  cases r with
  | inl l => rfl
  | inr x => rfl
theorem rm_rem {β : Nat → Nat} {n k : Nat} (h : qK β n k ≠ 1) : rm β n k + qI β n k = rem β n k := (rem_rm h).symm
theorem rm_pos (β : Nat → Nat) (n k : Nat) : 1 ≤ rm β n k := by
  have := q_lt β n k
  show 1 ≤ n + 1 - _
  omega
theorem rm_le {β : Nat → Nat} {n k : Nat} (hn : n ≤ 3000) : rm β n k ≤ 3001 ∧ rem β n k ≤ 3001 := by
  have h1 := q_ind β n k
  refine ⟨?_, ?_⟩
  · show n + 1 - _ ≤ 3001
    omega
  · unfold rem
    split
    · omega
    · omega
theorem ex_0 {β : Nat → Nat} {n s k : Nat} (h : qK β n k < 3) : exs (qK β n) s k = none := by
  cases hr : exs (qK β n) s k with
  | none => rfl
  | some r =>
    have := (ex_pm hr).2.1
    omega
/-- a line that begins with what is no token -/
theorem ps_bad0 {A : Nat → Int32} {n k dp ind s tr ca ra : Nat} {lp : LpT} {sc : SCs} {at' : List Nat} (h : qK (by1 A) n k = 0) : ∀ F, psA A n F 0 dp ind s lp tr ca ra sc at' k = .inl (qL (by1 A) n k) := by
  intro F
  cases F with
  | zero => rfl
  | succ F =>
    have e : psA A n (F + 1) 0 dp ind s lp tr ca ra sc at' k = psS (qK (by1 A) n) (qL (by1 A) n) (qI (by1 A) n) (Eb (by1 A) n) (psA A n F) dp ind s lp tr ca ra sc at' k := rfl
    rw [e]
    unfold psS psS0
    rw [if_neg (by omega), if_neg (by omega), if_neg (by omega), if_neg (by omega), if_neg (by omega), if_neg (by omega), if_neg (by omega), if_neg (by omega), if_neg (by omega), if_neg (by omega), if_neg (by omega), if_neg (by omega), if_neg (by omega)]
    unfold psBind
    rw [ex_0 (by omega)]
    rfl
theorem ps_bad1 {A : Nat → Int32} {n k dp s tr ca ra : Nat} {lp : LpT} {sc : SCs} {at' : List Nat} (h : qK (by1 A) n k = 0) : ∀ F, psA A n F 1 dp (qI (by1 A) n k) s lp tr ca ra sc at' k = .inl (qL (by1 A) n k) := by
  intro F
  cases F with
  | zero => rfl
  | succ F =>
    have e : psA A n (F + 1) 1 dp (qI (by1 A) n k) s lp tr ca ra sc at' k = psQ (qK (by1 A) n) (qL (by1 A) n) (qI (by1 A) n) (psA A n F) 0 1 dp (qI (by1 A) n k) s lp tr ca ra sc at' k := rfl
    rw [e]
    unfold psQ
    rw [if_neg (by omega), if_neg (by omega), ps_bad0 h]
    rfl
section
variable {A : Nat → Int32} {n z0 fb l a c f ab lo : Nat} {S0 B : cS} {H : List Nat} {qa qc qf qe qs qn d : Nat}
/-- statements of one indent end behind a fault -/
theorem par_B {S : cS} {i dp : Nat} (h : yB A n S0 z0 fb l a c f ab lo H qa qc qf qe qs qn B S) (hi : i < 2 ^ 20) (hdp : dp < 2 ^ 20) : ∃ S1, (∀ (t : Nat) (lv : sm_L), t < 2 ^ 20 → sm_get lv 0 = some (.ref 43) → sm_get lv 1 = some (.int (nI i)) → sm_get lv 2 = some (.int (nI dp)) → sm_get lv 3 = some (.int (nI t)) → Bod (d + 9) 51 2 lv [] S none S1) ∧ yB A n S0 z0 fb l a c f ab lo H qa qc qf qe qs qn B S1 := by
  obtain ⟨t, c', f', s, e, sn, fn, av, tv, lv, l', h1, h2, h3, h4, h5, h6, h7', h8, h9, hfl, hlo, g1, g2, g3, g4, g5, g6, g7, g8, g9, g10⟩ := yB_top h
  have hin := yB_ins (d := d) h hi
  rcases h9 with h9 | ⟨j, h9, h9M⟩
  · refine ⟨S, fun t lv ht q0 q1 q2 q3 => ?_, h⟩
    by_cases h3 : 3000 < t
    · exact cParL_3 (d := d + 1) q3 q0 q1 q2 ht hi hdp h3 h9
    · exact cParL_7 (d := d + 1) q3 q0 q1 q2 ht hi hdp (by omega) hin h9
  by_cases hj : j ≤ i
  · refine ⟨S, fun t lv ht q0 q1 q2 q3 => ?_, h⟩
    by_cases h3 : 3000 < t
    · exact cParL_1 (d := d + 1) q3 q0 q1 q2 ht hi hdp h3 h9 (by omega) hj
    · exact cParL_5 (d := d + 1) q3 q0 q1 q2 ht hi hdp (by omega) hin h9 (by omega) hj
  · obtain ⟨S1, p1, p2⟩ := yB_fail (d := d + 8) h
    refine ⟨S1, fun t lv ht q0 q1 q2 q3 => ?_, p2⟩
    by_cases h3 : 3000 < t
    · exact cParL_2 (d := d + 1) q3 q0 q1 q2 ht hi hdp h3 h9 (by omega) (by omega) p1
    · exact cParL_6 (d := d + 1) q3 q0 q1 q2 ht hi hdp (by omega) hin h9 (by omega) (by omega) p1
end
section
variable {A : Nat → Int32} {n z0 fb a0 F : Nat} {S0 : cS}
theorem yRes_l {s ab a c f qa qc qf qe l : Nat} {B S : cS} {r : PSr} (e : r = .inl l) (h : yB A n S0 z0 fb l a c f ab (a + 2) [] qa qc qf qe 280 893 B S) : yRes A n S0 z0 fb a0 s ab B a c f qa qc qf qe r S := ⟨fun x hx => (by rw [e] at hx; cases hx), fun l' hl => (by rw [e] at hl; injection hl with hl; subst hl; exact h)⟩
theorem yRes_r {s ab a c f qa qc qf qe : Nat} {B S : cS} {r : PSr} {x : PT} (e : r = .inr x) (h : yOK A n S0 z0 fb a0 s ab B a c f x S) : yRes A n S0 z0 fb a0 s ab B a c f qa qc qf qe r S := ⟨fun x' hx => (by rw [e] at hx; injection hx with hx; subst hx; exact h), fun l' hl => (by rw [e] at hl; cases hl)⟩
theorem yZ_cap {W dp a c f e sn fb : Nat} (h : yZ W dp a c f e sn (fb + sn - 1)) (hdp : dp ≤ 12) : a ≤ 39000 ∧ a ≤ qA dp ∧ c ≤ qC dp ∧ f ≤ qF dp ∧ e ≤ qF dp ∧ sn ≤ 280 ∧ fb + sn ≤ 894 := by
  obtain ⟨c1, c2, c3, c4, c5, c6⟩ := yZ_c h hdp
  unfold qA qC qF
  exact ⟨by omega, by omega, by omega, by omega, by omega, by omega, by omega⟩
/-- statements of one indent -/
theorem P51_T (hX : yPre A n S0 z0) (h53 : P53 A n S0 z0 fb a0 F) (h51 : P51 A n S0 z0 fb a0 F) : P51 A n S0 z0 fb a0 (F + 1) := by
  intro d dp ind s ab tr ca ra k a c f lp sc at' S hd hind hdp hs hF hI
  obtain ⟨h, hz, hL, hca, hab, htr⟩ := hI
  have hlv : lvD dp = 270 + 8 * (12 - dp) := rfl
  obtain ⟨d1, rfl⟩ : ∃ d1, d = d1 + 9 := ⟨d - 9, by omega⟩
  have e : psA A n (F + 1) 1 dp ind s lp tr ca ra sc at' k = psQ (qK (by1 A) n) (qL (by1 A) n) (qI (by1 A) n) (psA A n F) 0 1 dp ind s lp tr ca ra sc at' k := rfl
  have h8 := cP_8 h.1
  have hin := ins_T (d := d1) hX.1.1 h hind
  have hq := q_lt (by1 A) n k
  have hrl := rm_le (β := by1 A) (k := k) hX.1.1
  obtain ⟨c0, c1, c2, c3, c4, c5, c6⟩ := yZ_cap hz (by omega)
  have hdpM : dp < 2 ^ 20 := by omega
  rw [e]
  unfold psQ
  by_cases k1 : qK (by1 A) n k = 1
  · rw [if_neg (fun hc => hc.2.1 k1)] at hin
    refine ⟨S, fun t lv ht q0 q1 q2 q3 => ?_, yRes_r (if_pos (Or.inl k1)) (yOK_nil h)⟩
    by_cases h3 : 3000 < t
    · exact cParL_3 (d := d1 + 1) q3 q0 q1 q2 (by omega) hind hdpM h3 (h8.1 k1)
    · exact cParL_7 (d := d1 + 1) q3 q0 q1 q2 (by omega) hind hdpM (by omega) hin (h8.1 k1)
  have hi := h8.2 k1
  have hiM := ind_lt (A := A) (k := k) hX.1.1
  by_cases hlt : qI (by1 A) n k < ind
  · rw [if_neg (fun hc => by have := hc.2.2; omega)] at hin
    refine ⟨S, fun t lv ht q0 q1 q2 q3 => ?_, yRes_r (if_pos (Or.inr hlt)) (yOK_nil h)⟩
    by_cases h3 : 3000 < t
    · exact cParL_1 (d := d1 + 1) q3 q0 q1 q2 (by omega) hind hdpM h3 hi hiM (by omega)
    · exact cParL_5 (d := d1 + 1) q3 q0 q1 q2 (by omega) hind hdpM (by omega) hin hi hiM (by omega)
  rw [if_neg (fun hc => hc.elim k1 hlt)]
  by_cases hgt : ind < qI (by1 A) n k
  · rw [if_neg (fun hc => by have := hc.2.2; omega)] at hin
    obtain ⟨S1, p1, p2⟩ := fail_X (d := d1 + 1) (qa := qA dp) (qc := qC dp) (qf := qF dp) (qe := qF dp) hX.1 hX.2 (yOK_nil h) c1 c2 c3 c4 c5 c6
    refine ⟨S1, fun t lv ht q0 q1 q2 q3 => ?_, yRes_l (if_pos hgt) p2⟩
    by_cases h3 : 3000 < t
    · exact cParL_2 (d := d1 + 1) q3 q0 q1 q2 (by omega) hind hdpM h3 hi hiM hgt p1
    · exact cParL_6 (d := d1 + 1) q3 q0 q1 q2 (by omega) hind hdpM (by omega) hin hi hiM hgt p1
  rw [if_neg hgt]
  have hie : qI (by1 A) n k = ind := by omega
  by_cases k0 : qK (by1 A) n k = 0
  · rw [if_neg (fun hc => hc.1 k0)] at hin
    refine ⟨S, fun t lv ht q0 q1 q2 q3 => ?_, yRes_l (l := qL (by1 A) n k) ?_ (yRes_bad hX.1.1 (yOK_nil h) (cP_B hX.1 h.1 k0) (FrT.refl _ _ _ _ _) (nK_id h.1) c1 c2 c3 c4 c5 c6)⟩
    · by_cases h3 : 3000 < t
      · exact cParL_1 (d := d1 + 1) q3 q0 q1 q2 (by omega) hind hdpM h3 hi hiM (by omega)
      · exact cParL_5 (d := d1 + 1) q3 q0 q1 q2 (by omega) hind hdpM (by omega) hin hi hiM (by omega)
    · rw [ps_bad0 k0]; rfl
  rw [if_pos ⟨k0, k1, hie⟩] at hin
  have hrr := rem_rm (β := by1 A) (n := n) (k := k) k1
  have hrp := rm_pos (by1 A) n k
  obtain ⟨S2, p1, p2⟩ := h53 (d1 + 9) dp ind s ab tr ca ra k a c f lp sc at' S (by omega) hind hdp hs hie k0 k1 (by omega) ⟨h, hz, hL, hca, hab, htr⟩
  cases hr : psA A n F 0 dp ind s lp tr ca ra sc at' k with
  | inl l =>
    obtain ⟨S3, q1, q2⟩ := par_B (d := d1) (i := ind) (dp := dp) (p2.2 l hr) hind hdpM
    refine ⟨S3, fun t lv ht e0 e1 e2 e3 => ?_, yRes_l rfl q2⟩
    exact cParL_4 (d := d1 + 1) e3 e0 e1 e2 (by omega) hind hdpM (by omega) hin p1 (fun lv1 u0 u1 u2 u3 => q1 (t + 1) lv1 (by omega) u0 u1 u2 u3)
  | inr x =>
    obtain ⟨k', os, sc1, at1⟩ := x
    have hx := p2.1 _ hr
    obtain ⟨x1, x2, x3, x4⟩ := (ps_H (by1 A) n (Eb (by1 A) n) F).1 0 dp ind s lp tr ca ra sc at' k _ (Or.inl rfl) hie hs hr
    have hs1 : s < sc.1.length := h.2.2.2.2.2.2.2.2.1
    dsimp only at x2 x3
    obtain ⟨S3, q1, q2⟩ := h51 (d1 + 9) dp ind s ab tr (ca + wC os) (ra + wR (qK (by1 A) n) os) k' (a + wC os) (c + cnN os) (f + fxM os) lp sc1 at1 S2 hd hind hdp hs (by omega) ⟨hx.1, yZ_go (x := (k', os, sc1, at1)) hz x4 (by dsimp only; omega) (by omega), yF_lp hL hx.2.2.2.1, by omega, hab, htr⟩
    refine ⟨S3, fun t lv ht e0 e1 e2 e3 => ?_, yRes_pre hx q2⟩
    exact cParL_4 (d := d1 + 1) e3 e0 e1 e2 (by omega) hind hdpM (by omega) hin p1 (fun lv1 u0 u1 u2 u3 => q1 (t + 1) lv1 (by omega) u0 u1 u2 u3)
/-- a block -/
theorem P84_T (hX : yPre A n S0 z0) (h51 : P51 A n S0 z0 fb a0 F) : P84 A n S0 z0 fb a0 (F + 1) := by
  intro d dp ind s ab tr ca ra k a c f lp sc at' S hd hind hdp hF hI
  obtain ⟨h, hz, hL, hca, hab, htr⟩ := hI
  have hlv : lvD dp = 270 + 8 * (12 - dp) := rfl
  obtain ⟨d0, rfl⟩ : ∃ d0, d = d0 + 10 := ⟨d - 10, by omega⟩
  have e : psA A n (F + 1) 2 dp ind s lp tr ca ra sc at' k = psB (qK (by1 A) n) (qL (by1 A) n) (qI (by1 A) n) (psA A n F) 1 dp ind s lp tr ca ra sc at' k := rfl
  obtain ⟨c0, c1, c2, c3, c4, c5, c6⟩ := yZ_cap hz hdp
  have hdpM : dp < 2 ^ 20 := by omega
  rw [e]
  unfold psB
  rcases opn_T (d := d0) (o := ind) (dp := dp) (qa := qA dp) (qc := qC dp) (qf := qF dp) (qe := qF dp) hX (yOK_nil h) hind hdpM c1 c2 c3 c4 c5 c6 with ⟨k13, k2, k1, k0, hlt, hd10, S1, p1, p2⟩ | ⟨S1, l, p1, p2, p3⟩
  · have hG : yG A n S0 z0 fb a0 s ab (k + 2) sc at' a c f S1 := p2.1
    have hrn : rem (by1 A) n (k + 2) + 1 ≤ rm (by1 A) n (k + 1) := rm_nl (β := by1 A) (n := n) (j := k + 1) k2
    have hrg := rm_gt (β := by1 A) (n := n) (k := k) (by omega)
    have hrl := rm_le (β := by1 A) (k := k + 2) hX.1.1
    have hiM := ind_lt (A := A) (k := k + 2) hX.1.1
    obtain ⟨S2, q1, q2⟩ := h51 (d0 + 8) dp (qI (by1 A) n (k + 2)) s ab tr ca ra (k + 2) a c f lp sc at' S1 (by omega) hiM (by omega) (fun _ => by omega) (by omega) ⟨hG, yZ_le hz (by omega) (Nat.le_refl _), yF_lp hL p2.2.2.2.1, hca, hab, htr⟩
    refine ⟨S2, Ans.of (by rw [ml_84]; exact Nat.le_of_ble_eq_true rfl) (Bod.lv (by rfl) (cBlk_1 (d := d0 + 1) hind hdpM p1 ((cP_8 hG.1).2 k1) hiM (Ans.of (by rw [ml_51]; exact Nat.le_of_ble_eq_true rfl) (Bod.lv (by rfl) (cPar0_1 (d := d0) hiM hdpM (fun lv1 u0 u1 u2 u3 => q1 0 lv1 (by omega) u0 u1 u2 u3)))))), ?_⟩
    rw [if_neg (fun hc => hc k13), if_neg (fun hc => hc k2), if_neg (fun hc => by omega)]
    have := yRes_pre p2 q2
    rw [sbp_nil] at this
    exact this
  · refine ⟨S1, Ans.of (by rw [ml_84]; exact Nat.le_of_ble_eq_true rfl) (Bod.lv (by rfl) (cBlk_3 (d := d0 + 1) hind hdpM p1)), yRes_l (l := l) ?_ p2⟩
    rcases p3 with ⟨u1, u2⟩ | ⟨u1, u2, u3, u4⟩
    · by_cases k13 : qK (by1 A) n k = 13
      · rw [if_neg (fun hc => hc k13), if_pos (fun hc => u1 ⟨k13, hc⟩), u2]
      · rw [if_pos k13, u2]
    · rw [if_neg (fun hc => hc u1), if_neg (fun hc => hc u2)]
      by_cases hc : qK (by1 A) n (k + 2) = 1 ∨ qI (by1 A) n (k + 2) ≤ ind ∨ 10 < dp
      · rw [if_pos hc, u4]
      · rw [if_neg hc, ps_bad1 (by omega), u4]
end
