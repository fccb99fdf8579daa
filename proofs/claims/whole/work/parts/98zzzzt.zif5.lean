/-! STATEMENTS OF THE REFERENCE: if, whole -/
section
variable {β : Nat → Nat} {n : Nat} {E : Nat → Nat → Bool} {V : Nat → Int32} {T : Nat → Nat × Nat} {P : Nat → Int32 → Int32 × Int32} {own0 : Nat → Nat × Nat} {m u k1 : Nat} {S0 S S1 S2 : cS} {H B0 W d l c w t f f1 b j s : Nat} {X Y : Nat → Nat} {o1 o2 : List Op} {A A1 : Prop}
/-- from the loop of choice on, with ends that wait -/
def ZI (β : Nat → Nat) (n : Nat) (E : Nat → Nat → Bool) (V : Nat → Int32) (T : Nat → Nat × Nat) (own0 : Nat → Nat × Nat) (m u k1 : Nat) (S0 : cS) (H B0 W : Nat) (F : Nat) : Prop := ∀ (opn : Nat → Nat) (dp ind s : Nat) (lp : LpT) (tr ca : Nat) (sc : SCs) (at' : List Nat) (X : Nat → Nat) (af c w t b k : Nat) (S : cS) (e : Nat) (hs : List Nat) (le : Nat), zI0 β n E V T own0 m u k1 S0 H B0 W 0 opn dp ind s lp tr sc at' X af c w t b k S → (c + 13 * rem β n k ≤ H + 2 ∧ w + rem β n k ≤ W ∧ t + rem β n k ≤ W ∧ sc.1.length - 1 + rem β n k ≤ W) → 40 ≤ qK β n k → qI β n k = ind → X 5 = le + hs.length → (∀ i p, hs[i]? = some p → sA S 81 (le + i) = nI p ∧ p < c) → 4 * rm β n k ≤ F + 4 → lvZ dp ≤ e + 11 → ∃ Sf v, (∀ lv : sm_L, sm_get lv 0 = some (.ref 61) → sm_get lv 1 = some (.int (nI ind)) → sm_get lv 2 = some (.int (nI le)) → sm_get lv 3 = some (.int (nI 1)) → Bod (e + 9) 333 7 lv [] S (some (.int v)) Sf) ∧ ((∃ l, zBd β n opn (dp + 1) (psI (qK β n) (qL β n) (qI β n) (ps (qK β n) (qL β n) (qI β n) E F) dp ind s lp tr ca c sc at' k) l ∧ v = nI 0 ∧ zB own0 m u S0 H B0 W l Sf) ∨ ∃ x, psI (qK β n) (qL β n) (qI β n) (ps (qK β n) (qL β n) (qI β n) E F) dp ind s lp tr ca c sc at' k = .inr x ∧ v = nI 1 ∧ zP β n E V T own0 m u k1 S0 H B0 hs le ind lp sc at' X af S c w t b k x Sf ∧ wR (qK β n) x.2.1 + 2 + 13 * rem β n x.1 ≤ 13 * rem β n k)
theorem ZI_s {F : Nat} (hX : zX β n V own0 m k1 S0) (hB : ZB β n E V T own0 m u k1 S0 H B0 W F 0) (hIH : ∀ F', F' + 1 = F → ZI β n E V T own0 m u k1 S0 H B0 W F') : ZI β n E V T own0 m u k1 S0 H B0 W F := by
  intro opn dp ind s lp tr ca sc at' X af c w t b k S e hs le h0 hr hK hI hX5 hh hF hD
  obtain ⟨h1, h2, h3, h4, h5, h6, h7, h8, h9, h10, h11, h12, h13⟩ := id h0
  obtain ⟨⟨c01, c02, c03, c04, c05⟩, c1, c2, c3, c4, c5, ⟨c61, c62⟩, c7, c8, c9, c10⟩ := id h4
  have hk1 := hX.2.1
  have hn3 := hX.1
  have hiM := k_i (k := k) hX
  obtain ⟨q1, q2, q3, q4⟩ := rm_gt (β := β) (n := n) (k := k) (by omega)
  have hqn := (q_lt β n k).1
  have hqn1 := (q_lt β n (k + 1)).1
  have hqk : qP β n k + 1 ≤ n := by
    unfold rm at q1
    omega
  have hle : le < 3000 := by omega
  obtain ⟨r1, r2, r3, r4⟩ := id hr
  obtain ⟨S1, v1, hA1, hO⟩ := if_head (ca := ca) (e := e) hX hB h0 hr hK hI hF hD
  have hPs : psI (qK β n) (qL β n) (qI β n) (ps (qK β n) (qL β n) (qI β n) E F) dp ind s lp tr ca c sc at' k = pb (qL β n k) (exs (qK β n) s (k + 1)) _ := rfl
  rcases hO with ⟨hex, hv, hzB⟩ | ⟨r, S2, S3, v3, hex, hv, hA2, hm2, hA3, hO3⟩
  · rw [hv] at hA1
    refine ⟨S1, nI 0, fun lv q0 q1 q2 q3 => zChL_14 (d := e + 1) q0 q1 q2 q3 (by omega) (by omega) h2 (by omega) hA1, Or.inl ⟨_, ?_, rfl, hzB⟩⟩
    rw [hPs, hex]
    exact zB_in rfl
  rw [hv] at hA1
  rw [hPs, hex]
  rcases hO3 with ⟨l, hb, hv3, hzB⟩ | ⟨x, hx, hv3, hG, hw, hrm, hlt, hls⟩
  · rw [hv3] at hA3
    refine ⟨S3, nI 0, fun lv q0 q1 q2 q3 => zChL_13 (d := e + 1) q0 q1 q2 q3 (by omega) (by omega) h2 (by omega) hA1 hm2 hA2 hA3, Or.inl ⟨l, ?_, rfl, hzB⟩⟩
    show zBd β n opn (dp + 1) (sb (ps (qK β n) (qL β n) (qI β n) E F 2 (dp + 1) ind s lp tr (ca + wC r.2.2 + 2) (c + wR (qK β n) r.2.2 + 2) sc at' r.1) _) l
    rcases hb with ⟨q, hq, hl⟩ | ⟨x', hx', e1, e3, hl⟩
    · rw [hq]
      exact Or.inl ⟨q, rfl, hl⟩
    · rw [hx', sb_r, if_neg (fun q => e3 dp (Nat.lt_succ_self _) (by rw [c04]; exact q.2.symm))]
      exact Or.inr ⟨_, rfl, e1, e3, hl⟩
  rw [hv3] at hA3
  obtain ⟨g1, g2, g3, -, g5, g6, g7, g8, g9, g10, g11, g12, g13, g14, g15, g16⟩ := id hG
  have g8' : nwN (qK β n) (r.2.2 ++ (5, [], 0, 0) :: x.2.1) + rem β n x.1 ≤ rem β n k := g8
  have g9' : ntN (qK β n) (r.2.2 ++ (5, [], 0, 0) :: x.2.1) + rem β n x.1 ≤ rem β n k := g9
  have g10' : x.2.2.1.1.length + rem β n x.1 ≤ sc.1.length + rem β n k := g10
  have g13' : x.1 ≤ k1 := g13
  have hs1 := h6
  have hk3 : sI S3 6115 = nI x.1 := g1.2.1
  have hE3 := g1.1
  obtain ⟨t1, -, t70, -⟩ := z_tok hX hE3 g13'
  have hlt1 := rkd_lt (qK β n x.1)
  have hiM2 := k_i (k := x.1) hX
  have h64 : sI S3 6134 = nI (X 5) := (g2 6134 (by decide)).trans c61
  have hPn : ¬ ((qK β n x.1 = 41 ∨ qK β n x.1 = 42) ∧ qI β n x.1 = ind) → pb (qL β n k) (some r) (fun r => sb (ps (qK β n) (qL β n) (qI β n) E F 2 (dp + 1) ind s lp tr (ca + wC r.2.2 + 2) (c + wR (qK β n) r.2.2 + 2) sc at' r.1) fun b => if (qK β n b.1 = 41 ∨ qK β n b.1 = 42) ∧ qI β n b.1 = ind then sb (if qK β n b.1 = 41 then ps (qK β n) (qL β n) (qI β n) E F 3 dp ind s lp tr (ca + wC r.2.2 + 2 + wC b.2.1 + 2) (c + wR (qK β n) r.2.2 + 2 + wR (qK β n) b.2.1 + 2) b.2.2.1 at' b.1 else ps (qK β n) (qL β n) (qI β n) E F 2 (dp + 1) ind s lp tr (ca + wC r.2.2 + 2 + wC b.2.1 + 2) (c + wR (qK β n) r.2.2 + 2 + wR (qK β n) b.2.1 + 2) b.2.2.1 at' (b.1 + 1)) fun e => .inr (e.1, r.2.2 ++ (5, [], ((4 + wC b.2.1 : Nat) : Int), ((3 + wR (qK β n) b.2.1 : Nat) : Int)) :: (b.2.1 ++ (4, [], ((2 + wC e.2.1 : Nat) : Int), ((1 + wR (qK β n) e.2.1 : Nat) : Int)) :: e.2.1), e.2.2.1, at') else .inr (b.1, r.2.2 ++ (5, [], ((4 + wC b.2.1 : Nat) : Int), ((1 + wR (qK β n) b.2.1 : Nat) : Int)) :: (b.2.1 ++ [(62, [], 2, 0)]), b.2.2.1, at')) = .inr (x.1, r.2.2 ++ (5, [], ((4 + wC x.2.1 : Nat) : Int), ((1 + wR (qK β n) x.2.1 : Nat) : Int)) :: (x.2.1 ++ [(62, [], 2, 0)]), x.2.2.1, at') := fun hc => by
    show sb (ps (qK β n) (qL β n) (qI β n) E F 2 (dp + 1) ind s lp tr (ca + wC r.2.2 + 2) (c + wR (qK β n) r.2.2 + 2) sc at' r.1) _ = _
    rw [hx, sb_r, if_neg hc]
  obtain ⟨S4, S5, hA4, hB5, hP5, hW5⟩ := if_end (e := e) (le := le) (hs := hs) (z := ((4 + wC x.2.1 : Nat) : Int)) hX hG hw h12 (by omega) c61 hX5 (by omega) hh
  by_cases hE1 : qK β n x.1 = 1
  · exact ⟨S5, nI 1, fun lv q0 q1 q2 q3 => zChL_1 (d := e + 1) q0 q1 q2 q3 (by omega) (by omega) h2 (by omega) hA1 hm2 hA2 hA3 hk3 (by omega) t1 (by omega) (rkd_7.mpr hE1) hA4 (fun lv1 a0 a1 a2 a3 => hB5 lv1 a0 a1 a2 a3), Or.inr ⟨_, hPn (fun q => by omega), rfl, hP5, hW5⟩⟩
  have hK2 : qK β n x.1 ≠ 2 := q_ls2 (Or.inl hls)
  have tI := t70 hE1 hK2
  have e7 : rkd (qK β n x.1) ≠ 7 := fun q => hE1 (rkd_7.mp q)
  by_cases hqI : qI β n x.1 = ind
  case neg =>
    exact ⟨S5, nI 1, fun lv q0 q1 q2 q3 => zChL_2 (d := e + 1) q0 q1 q2 q3 (by omega) (by omega) h2 (by omega) hA1 hm2 hA2 hA3 hk3 (by omega) t1 (by omega) e7 tI (by omega) hqI hA4 (fun lv1 a0 a1 a2 a3 => hB5 lv1 a0 a1 a2 a3), Or.inr ⟨_, hPn (fun q => hqI q.2), rfl, hP5, hW5⟩⟩
  by_cases h412 : qK β n x.1 = 41 ∨ qK β n x.1 = 42
  case neg =>
    have w1 := z_wdF (d := e + 8) (K := 1) hX hE3 hk3 g13' (by decide) (fun q => h412 (Or.inl q))
    have w2 := z_wdF (d := e + 8) (K := 2) hX hE3 hk3 g13' (by decide) (fun q => h412 (Or.inr q))
    exact ⟨S5, nI 1, fun lv q0 q1 q2 q3 => zChL_12 (d := e + 1) q0 q1 q2 q3 (by omega) (by omega) h2 (by omega) hA1 hm2 hA2 hA3 hk3 (by omega) t1 (by omega) e7 tI (by omega) hqI w1 hk3 (by omega) t1 (by omega) e7 tI (by omega) hqI w2 hA4 (fun lv1 a0 a1 a2 a3 => hB5 lv1 a0 a1 a2 a3), Or.inr ⟨_, hPn (fun q => h412 q.1), rfl, hP5, hW5⟩⟩
  clear hPn hP5 hW5 hB5 hA4 S4 S5
  have hK3 : 3 ≤ qK β n x.1 := by omega
  have hrm' := hrm hE1
  obtain ⟨v1', v2', v3', v4'⟩ := rm_gt (β := β) (n := n) (k := x.1) hK3
  have hqx := (q_lt β n x.1).1
  have hqx1 := (q_lt β n (x.1 + 1)).1
  have hqn2 : qP β n x.1 + 1 ≤ n := by
    unfold rm at v1'
    omega
  have hqkx : qP β n k + 1 ≤ qP β n x.1 := by
    have a3 := qP_le (β := β) (n := n) (show k + 1 ≤ x.1 by omega)
    unfold rm at q1
    omega
  obtain ⟨S4, S5, hA4, hm4, h44, hA5, gP, hI6, i81, e81, h54, k5, wU⟩ := if_more (e := e) (z := ((4 + wC x.2.1 : Nat) : Int)) hX h0 hr hK hI hG hw (by omega)
  obtain ⟨f5, f6, f7, f8⟩ := l5 (os := r.2.2) (bl := x.2.1) (bl' := x.2.1) (z := 0) (r := 0) c (qK β n)
  have f5' : wR (qK β n) (r.2.2 ++ (5, [], 0, 0) :: x.2.1) = wR (qK β n) r.2.2 + 2 + wR (qK β n) x.2.1 := f5
  obtain ⟨g1', g2', g3', -⟩ := l5 (os := r.2.2) (bl := x.2.1) (bl' := x.2.1) (z := ((4 + wC x.2.1 : Nat) : Int)) (r := 3 + wR (qK β n) x.2.1) c (qK β n)
  have f6' : nwN (qK β n) (r.2.2 ++ (5, [], 0, 0) :: x.2.1) = nwN (qK β n) r.2.2 + nwN (qK β n) x.2.1 := f6
  have f7' : ntN (qK β n) (r.2.2 ++ (5, [], 0, 0) :: x.2.1) = ntN (qK β n) r.2.2 + ntN (qK β n) x.2.1 := f7
  obtain ⟨a, ha⟩ : ∃ a, a = c + wR (qK β n) (r.2.2 ++ (5, [], 0, 0) :: x.2.1) + 1 := ⟨_, rfl⟩
  rw [← ha] at hA4 hA5 e81 hm4
  obtain ⟨U, hU⟩ : ∃ U, U = r.2.2 ++ (5, [], ((4 + wC x.2.1 : Nat) : Int), ((3 + wR (qK β n) x.2.1 : Nat) : Int)) :: x.2.1 := ⟨_, rfl⟩
  rw [← hU] at gP hI6 wU g1' g2' g3'
  have u1 : wR (qK β n) (U ++ [(4, [], 0, 0)]) = wR (qK β n) U + 2 := by rw [wR_app]; rfl
  have u2 : nwN (qK β n) (U ++ [(4, [], 0, 0)]) = nwN (qK β n) U := by rw [nwN_app]; rfl
  have u3 : ntN (qK β n) (U ++ [(4, [], 0, 0)]) = ntN (qK β n) U := by rw [ntN_app]; rfl
  have eC : c + wR (qK β n) (U ++ [(4, [], 0, 0)]) = c + wR (qK β n) r.2.2 + 2 + wR (qK β n) x.2.1 + 2 := by rw [u1, g1']; omega
  have hlen : sc.1.length ≤ x.2.2.1.1.length := by
    obtain ⟨⟨l0, hl0⟩, _⟩ := g16
    have hl0' : x.2.2.1.1 = sc.1 ++ l0 := hl0
    rw [hl0', List.length_append]
    omega
  have hX5' : upE (X 5 + 1) X 5 = le + (hs ++ [a]).length := by
    rw [List.length_append]
    show X 5 + 1 = le + (hs.length + 1)
    omega
  have hh' : ∀ i p, (hs ++ [a])[i]? = some p → sA S5 81 (le + i) = nI p ∧ p < c + wR (qK β n) (U ++ [(4, [], 0, 0)]) := fun i p hp => by
    rw [List.getElem?_append] at hp
    split at hp
    · rename_i hi
      obtain ⟨a1, a2⟩ := hh i p hp
      exact ⟨(i81 (le + i) (by omega)).trans a1, by omega⟩
    · rename_i hi
      have hi' := (List.getElem?_eq_some_iff.mp hp).1
      have hi2 : i = hs.length := by
        have : i - hs.length < 1 := hi'
        omega
      rw [hi2, Nat.sub_self] at hp
      injection hp with hp
      rw [hi2, ← hX5, e81, hp]
      exact ⟨rfl, by rw [← hp, u1, wU]; omega⟩
  have hroom : c + wR (qK β n) (U ++ [(4, [], 0, 0)]) + 13 * rem β n x.1 ≤ H ∧ w + nwN (qK β n) (U ++ [(4, [], 0, 0)]) + rem β n x.1 ≤ W ∧ t + ntN (qK β n) (U ++ [(4, [], 0, 0)]) + rem β n x.1 ≤ W ∧ x.2.2.1.1.length - 1 + rem β n x.1 ≤ W := by
    rw [u1, u2, u3]
    exact ⟨by omega, by omega, by omega, by omega⟩
  have hhc : ∀ p, p ∈ hs → p < c := fun p hp => by
    obtain ⟨i, hi⟩ := List.mem_iff_getElem?.mp hp
    exact (hh i p hi).2
  have hwS : wR (qK β n) U + 4 + 13 * rem β n x.1 ≤ 13 * rem β n k := by omega
  have eaU : a = c + wR (qK β n) U + 1 := by rw [wU]; exact ha
  by_cases h41 : qK β n x.1 = 41
  · obtain ⟨F', rfl⟩ : ∃ F', F = F' + 1 := ⟨F - 1, by omega⟩
    obtain ⟨Sf, v, hBf, hOf⟩ := hIH F' rfl opn dp ind s lp tr (ca + wC r.2.2 + 2 + wC x.2.1 + 2) x.2.2.1 at' (upE (X 5 + 1) X) af _ _ _ _ x.1 S5 e (hs ++ [a]) le hI6 ⟨by omega, hroom.2⟩ (by omega) hqI hX5' hh' (by omega) hD
    have w1 := z_wdT (d := e + 8) (K := 1) hX hE3 hk3 g13' (by decide) h41
    have w2 := z_wdF (d := e + 8) (K := 2) hX hE3 hk3 g13' (by decide) (by omega)
    refine ⟨Sf, v, fun lv q0 q1 q2 q3 => zChL_7 (d := e + 1) q0 q1 q2 q3 (by omega) (by omega) h2 (by omega) hA1 hm2 hA2 hA3 hk3 (by omega) t1 (by omega) e7 tI (by omega) hqI w1 hk3 (by omega) t1 (by omega) e7 tI (by omega) hqI w2 h64 (by omega) hm4 hA4 h44 (by omega) hA5 (fun lv1 a0 a1 a2 a3 => hBf lv1 a0 a1 a2 a3), ?_⟩
    have hPe : pb (qL β n k) (some r) (fun r => sb (ps (qK β n) (qL β n) (qI β n) E (F' + 1) 2 (dp + 1) ind s lp tr (ca + wC r.2.2 + 2) (c + wR (qK β n) r.2.2 + 2) sc at' r.1) fun b => if (qK β n b.1 = 41 ∨ qK β n b.1 = 42) ∧ qI β n b.1 = ind then sb (if qK β n b.1 = 41 then ps (qK β n) (qL β n) (qI β n) E (F' + 1) 3 dp ind s lp tr (ca + wC r.2.2 + 2 + wC b.2.1 + 2) (c + wR (qK β n) r.2.2 + 2 + wR (qK β n) b.2.1 + 2) b.2.2.1 at' b.1 else ps (qK β n) (qL β n) (qI β n) E (F' + 1) 2 (dp + 1) ind s lp tr (ca + wC r.2.2 + 2 + wC b.2.1 + 2) (c + wR (qK β n) r.2.2 + 2 + wR (qK β n) b.2.1 + 2) b.2.2.1 at' (b.1 + 1)) fun e => .inr (e.1, r.2.2 ++ (5, [], ((4 + wC b.2.1 : Nat) : Int), ((3 + wR (qK β n) b.2.1 : Nat) : Int)) :: (b.2.1 ++ (4, [], ((2 + wC e.2.1 : Nat) : Int), ((1 + wR (qK β n) e.2.1 : Nat) : Int)) :: e.2.1), e.2.2.1, at') else .inr (b.1, r.2.2 ++ (5, [], ((4 + wC b.2.1 : Nat) : Int), ((1 + wR (qK β n) b.2.1 : Nat) : Int)) :: (b.2.1 ++ [(62, [], 2, 0)]), b.2.2.1, at')) = sb (psI (qK β n) (qL β n) (qI β n) (ps (qK β n) (qL β n) (qI β n) E F') dp ind s lp tr (ca + wC r.2.2 + 2 + wC x.2.1 + 2) (c + wR (qK β n) (U ++ [(4, [], 0, 0)])) x.2.2.1 at' x.1) (fun e => .inr (e.1, r.2.2 ++ (5, [], ((4 + wC x.2.1 : Nat) : Int), ((3 + wR (qK β n) x.2.1 : Nat) : Int)) :: (x.2.1 ++ (4, [], ((2 + wC e.2.1 : Nat) : Int), ((1 + wR (qK β n) e.2.1 : Nat) : Int)) :: e.2.1), e.2.2.1, at')) := by
      show sb (ps (qK β n) (qL β n) (qI β n) E (F' + 1) 2 (dp + 1) ind s lp tr (ca + wC r.2.2 + 2) (c + wR (qK β n) r.2.2 + 2) sc at' r.1) _ = _
      rw [hx, sb_r, if_pos ⟨Or.inl h41, hqI⟩, if_pos h41, eC]
      rfl
    rcases hOf with ⟨l, hb, hvf, hzB⟩ | ⟨y, hy, hvf, hP, hWy⟩
    · refine Or.inl ⟨l, ?_, hvf, hzB⟩
      refine (congrArg (fun z => zBd β n opn (dp + 1) z l) hPe).mpr ?_
      rcases hb with ⟨q, hq, hl⟩ | ⟨x', hx', e1, e3, hl⟩
      · rw [hq]
        exact Or.inl ⟨q, rfl, hl⟩
      · rw [hx', sb_r]
        exact Or.inr ⟨_, rfl, e1, e3, hl⟩
    · rw [eaU] at hP
      obtain ⟨s1, s2⟩ := zP_step (z := ((2 + wC y.2.1 : Nat) : Int)) gP hwS hP hhc (by omega)
      refine Or.inr ⟨_, ?_, hvf, s1, s2⟩
      refine hPe.trans ?_
      rw [hy, sb_r, hU]
      simp only [List.append_assoc, List.cons_append]
  · have h42 : qK β n x.1 = 42 := by omega
    obtain ⟨S6, v, hA6, hO6⟩ := if_else (ca := ca + wC r.2.2 + 2 + wC x.2.1 + 2) (e := e) (le := le) (hs := hs ++ [a]) hX hB hI6 hroom (by omega) hqI (by omega) hD h54 hX5' (by rw [List.length_append]; show le + (hs.length + 1) < 3000; omega) hh'
    have w1 := z_wdF (d := e + 8) (K := 1) hX hE3 hk3 g13' (by decide) h41
    have w2 := z_wdT (d := e + 8) (K := 2) hX hE3 hk3 g13' (by decide) h42
    have hPe : pb (qL β n k) (some r) (fun r => sb (ps (qK β n) (qL β n) (qI β n) E F 2 (dp + 1) ind s lp tr (ca + wC r.2.2 + 2) (c + wR (qK β n) r.2.2 + 2) sc at' r.1) fun b => if (qK β n b.1 = 41 ∨ qK β n b.1 = 42) ∧ qI β n b.1 = ind then sb (if qK β n b.1 = 41 then ps (qK β n) (qL β n) (qI β n) E F 3 dp ind s lp tr (ca + wC r.2.2 + 2 + wC b.2.1 + 2) (c + wR (qK β n) r.2.2 + 2 + wR (qK β n) b.2.1 + 2) b.2.2.1 at' b.1 else ps (qK β n) (qL β n) (qI β n) E F 2 (dp + 1) ind s lp tr (ca + wC r.2.2 + 2 + wC b.2.1 + 2) (c + wR (qK β n) r.2.2 + 2 + wR (qK β n) b.2.1 + 2) b.2.2.1 at' (b.1 + 1)) fun e => .inr (e.1, r.2.2 ++ (5, [], ((4 + wC b.2.1 : Nat) : Int), ((3 + wR (qK β n) b.2.1 : Nat) : Int)) :: (b.2.1 ++ (4, [], ((2 + wC e.2.1 : Nat) : Int), ((1 + wR (qK β n) e.2.1 : Nat) : Int)) :: e.2.1), e.2.2.1, at') else .inr (b.1, r.2.2 ++ (5, [], ((4 + wC b.2.1 : Nat) : Int), ((1 + wR (qK β n) b.2.1 : Nat) : Int)) :: (b.2.1 ++ [(62, [], 2, 0)]), b.2.2.1, at')) = sb (ps (qK β n) (qL β n) (qI β n) E F 2 (dp + 1) ind s lp tr (ca + wC r.2.2 + 2 + wC x.2.1 + 2) (c + wR (qK β n) (U ++ [(4, [], 0, 0)])) x.2.2.1 at' (x.1 + 1)) (fun e => .inr (e.1, r.2.2 ++ (5, [], ((4 + wC x.2.1 : Nat) : Int), ((3 + wR (qK β n) x.2.1 : Nat) : Int)) :: (x.2.1 ++ (4, [], ((2 + wC e.2.1 : Nat) : Int), ((1 + wR (qK β n) e.2.1 : Nat) : Int)) :: e.2.1), e.2.2.1, at')) := by
      show sb (ps (qK β n) (qL β n) (qI β n) E F 2 (dp + 1) ind s lp tr (ca + wC r.2.2 + 2) (c + wR (qK β n) r.2.2 + 2) sc at' r.1) _ = _
      rw [hx, sb_r, if_pos ⟨Or.inr h42, hqI⟩, if_neg h41, eC]
    rcases hO6 with ⟨l, hb, hv6, hzB⟩ | ⟨y, Sf, hy, hv6, hBf, hP⟩
    · rw [hv6] at hA6
      refine ⟨S6, nI 0, fun lv q0 q1 q2 q3 => zChL_11 (d := e + 1) q0 q1 q2 q3 (by omega) (by omega) h2 (by omega) hA1 hm2 hA2 hA3 hk3 (by omega) t1 (by omega) e7 tI (by omega) hqI w1 hk3 (by omega) t1 (by omega) e7 tI (by omega) hqI w2 h64 (by omega) hm4 hA4 h44 (by omega) hA5 k5 (by omega) hA6, Or.inl ⟨l, ?_, rfl, hzB⟩⟩
      refine (congrArg (fun z => zBd β n opn (dp + 1) z l) hPe).mpr ?_
      rcases hb with ⟨q, hq, hl⟩ | ⟨x', hx', e1, e3, hl⟩
      · rw [hq]
        exact Or.inl ⟨q, rfl, hl⟩
      · rw [hx', sb_r]
        exact Or.inr ⟨_, rfl, e1, e3, hl⟩
    · rw [hv6] at hA6
      rw [eaU] at hP
      obtain ⟨s1, s2⟩ := zP_step (z := ((2 + wC y.2.1 : Nat) : Int)) gP hwS hP hhc (by omega)
      refine ⟨Sf, nI 1, fun lv q0 q1 q2 q3 => zChL_10 (d := e + 1) q0 q1 q2 q3 (by omega) (by omega) h2 (by omega) hA1 hm2 hA2 hA3 hk3 (by omega) t1 (by omega) e7 tI (by omega) hqI w1 hk3 (by omega) t1 (by omega) e7 tI (by omega) hqI w2 h64 (by omega) hm4 hA4 h44 (by omega) hA5 k5 (by omega) hA6 (fun lv1 a0 a1 a2 a3 => zChE_1 (d := e + 1) a0 a1 a2 a3 (by omega) (by omega) (fun lv2 b0 b2 b4 => hBf lv2 b0 b2 b4)), Or.inr ⟨_, ?_, rfl, s1, s2⟩⟩
      refine hPe.trans ?_
      rw [hy, sb_r, hU]
      simp only [List.append_assoc, List.cons_append]
/-- if, a statement -/
theorem z_if {dp ind tr ca af k F D : Nat} {opn : Nat → Nat} {lp : LpT} {sc : SCs} {at' : List Nat} (hX : zX β n V own0 m k1 S0) (hIf : ZI β n E V T own0 m u k1 S0 H B0 W F) (h : zIs β n E V T own0 m u k1 S0 H B0 W 0 opn dp ind s lp tr sc at' X af c w t b k S) (hK : qK β n k = 40) (hF : 4 * rm β n k ≤ F + 4) (hD : lvZ dp ≤ D + 1) : ∃ S1 v, Ans D 333 [.ref 61, .int (nI ind)] S (some (.int v)) S1 ∧ zOs β n E V T own0 m u k1 S0 H B0 W 0 opn (dp + 1) ind lp sc at' X af S c w t b k (psI (qK β n) (qL β n) (qI β n) (ps (qK β n) (qL β n) (qI β n) E F) dp ind s lp tr ca c sc at' k) v S1 := by
  obtain ⟨h0, hr, hls, hK1, hI, hx1, hx2, hx3⟩ := h
  obtain ⟨h1, h2, h3, h4, -⟩ := id h0
  obtain ⟨c0, c1, c2, c3, c4, c5, ⟨c61, c62⟩, c7, c8, c9, c10⟩ := id h4
  have hlv : lvZ dp = 260 + 4 * (12 - dp) := rfl
  obtain ⟨e, rfl⟩ : ∃ e, D = e + 10 := ⟨D - 10, by omega⟩
  have hn3 := hX.1
  have hqn := (q_lt β n k).1
  have hiM := k_i (k := k) hX
  obtain ⟨q1, q2, q3, q4⟩ := rm_gt (β := β) (n := n) (k := k) (by omega)
  have hqk : qP β n k + 1 ≤ n := by
    have hqn1 := (q_lt β n (k + 1)).1
    unfold rm at q1
    omega
  obtain ⟨Sf, v, hB, hO⟩ := hIf opn dp ind s lp tr ca sc at' X af c w t b k S e [] (X 5) h0 hr (by omega) hI rfl (fun i p hp => by cases hp) hF hD
  refine ⟨Sf, v, Ans.of (by rw [ml_333]; exact Nat.le_of_ble_eq_true rfl) (zCh_1 (d := e + 1) (by omega) c61 (by omega) (fun lv1 a0 a1 a2 a3 => hB lv1 a0 a1 a2 a3)), ?_⟩
  rcases hO with hbad | ⟨x, hx, hv, hP, hW⟩
  · exact Or.inl hbad
  · exact Or.inr ⟨x, hx, hv, zP_G hP rfl c61, hW⟩
end
