/-! STATEMENTS OF THE REFERENCE: if; ends that wait -/
section
variable {own0 : Nat → Nat × Nat} {m u H B0 c w t f b d : Nat} {S0 S S1 S2 : cS} {X : Nat → Nat}
/-- code below c is kept, but for holes hs that are told to go to e -/
def kWh (m c w t f b : Nat) (hs : List Nat) (e : Nat) (S S1 : cS) : Prop := (∀ i, i < c → i ∉ hs → cw S1 m i = cw S m i) ∧ (∀ h, h ∈ hs → cw S1 m h = nI (e - h)) ∧ (∀ i, i < w → cWh S1 m i = cWh S m i) ∧ (∀ i, i < t → cFi S1 m i = cFi S m i ∧ cSe S1 m i = cSe S m i) ∧ (∀ i, i < f → dNm S1 m i = dNm S m i ∧ dAt S1 m i = dAt S m i ∧ dPa S1 m i = dPa S m i ∧ dLo S1 m i = dLo S m i) ∧ ∀ i, i < b → bkA S1 i = bkA S i ∧ bkL S1 i = bkL S i
theorem zE_fill {j : Nat} (h : zE own0 m u S0 H B0 c w t f b S) (hH : H ≤ 40000) (hj : j < c) : ∃ S1, Ans (d + 1) 326 [.ref 61, .int (nI j)] S none S1 ∧ zE own0 m u S0 H B0 c w t f b S1 ∧ kX m S S1 ∧ (∀ i, i ≠ j → cw S1 m i = cw S m i) ∧ cw S1 m j = nI (c - j) ∧ (∀ i, i < w → cWh S1 m i = cWh S m i) ∧ (∀ i, i < t → cFi S1 m i = cFi S m i ∧ cSe S1 m i = cSe S m i) ∧ (∀ i, sI S1 i = sI S i) := by
  have hcH : c ≤ H := by
    obtain ⟨own, N, Nw, Nt, Nd, Nb, _, _, _, _, _, _, _, _, _, _, _, _, q⟩ := id h
    exact q
  obtain ⟨own, hE, hback⟩ := zE_rE h
  obtain ⟨S2, hA, r1, r2, r3, r4, r5⟩ := rE_fill (d := d) (j := j) hE (by omega) hj
  obtain ⟨z1, z2⟩ := hback S2 _ _ _ r1 hcH
  exact ⟨S2, hA, z1, z2, r3, r4, r2.2.1, r2.2.2, r5⟩
/-- the loop that tells them -/
theorem fill_all {le : Nat} (hH : H ≤ 40000) (hle : le < 2 ^ 20) : ∀ (rest : List Nat) (li : Nat) (S : cS), zE own0 m u S0 H B0 c w t f b S → sI S 6134 = nI (li + rest.length) → li + rest.length < 3000 → (∀ i p, rest[i]? = some p → sA S 81 (li + i) = nI p ∧ p < c) → ∃ S2, (∀ lv : sm_L, sm_get lv 0 = some (.ref 61) → sm_get lv 2 = some (.int (nI le)) → sm_get lv 4 = some (.int (nI li)) → Bod (d + 8) 333 208 lv [] S (some (.int 1)) (wI 6134 (nI le) S2)) ∧ zE own0 m u S0 H B0 c w t f b S2 ∧ kX m S S2 ∧ kWh m c w t f b rest c S S2 ∧ (∀ i, sI S2 i = sI S i) := by
  intro rest
  induction rest with
  | nil =>
    intro li S hE hen hlt _
    exact ⟨S, fun lv q0 q2 q4 => zChF_1 q0 q2 q4 hle (by simp only [List.length_nil] at hlt; omega) (hen.trans rfl) (by simp only [List.length_nil] at hlt; omega) (Nat.le_refl _), hE, kX_refl m S, ⟨fun _ _ _ => rfl, (fun h hh => by cases hh), fun _ _ => rfl, fun _ _ => ⟨rfl, rfl⟩, fun _ _ => ⟨rfl, rfl, rfl, rfl⟩, fun _ _ => ⟨rfl, rfl⟩⟩, fun _ => rfl⟩
  | cons p r ih =>
    intro li S hE hen hlt hr
    rw [List.length_cons] at hen hlt
    obtain ⟨e1, e2⟩ := hr 0 p rfl
    have hcH : c ≤ H := by
      obtain ⟨own, N, Nw, Nt, Nd, Nb, _, _, _, _, _, _, _, _, _, _, _, _, q⟩ := id hE
      exact q
    obtain ⟨S1, hA, z1, kx1, c1, c2, c3, c4, c5⟩ := zE_fill (d := d + 7) hE hH e2
    have e81 : sA S1 81 = sA S 81 := (kx1.2.1 81 (by omega) (by omega) (by omega) (by omega)).1
    obtain ⟨S2, hB, z2, kx2, ⟨k1, k2, k3, k4, k5, k6⟩, i2⟩ := ih (li + 1) S1 z1 ((c5 _).trans (hen.trans (congrArg nI (by omega)))) (by omega) (fun i q hq => by
      obtain ⟨a1, a2⟩ := hr (i + 1) q hq
      rw [e81]
      exact ⟨by rw [← a1]; exact congrArg _ (by omega), a2⟩)
    have kx12 := kX_trans kx1 kx2
    refine ⟨S2, fun lv q0 q2 q4 => zChF_2 q0 q2 q4 hle (by omega) hen (by omega) (by omega) (by omega) e1 (by omega) hA (fun lv1 a0 a2 a4 => hB lv1 a0 a2 a4), z2, kx12, ⟨fun i hi hn => ?_, fun h hh => ?_, fun i hi => (k3 i hi).trans (c3 i hi), fun i hi => ⟨(k4 i hi).1.trans (c4 i hi).1, (k4 i hi).2.trans (c4 i hi).2⟩, fun i _ => ⟨congrFun kx12.2.2.1 i, congrFun kx12.2.2.2.1 i, congrFun kx12.2.2.2.2.1 i, congrFun kx12.2.2.2.2.2.1 i⟩, fun i _ => ⟨congrFun kx12.2.2.2.2.2.2.1 i, congrFun kx12.2.2.2.2.2.2.2.1 i⟩⟩, fun i => (i2 i).trans (c5 i)⟩
    · have hn' : i ≠ p ∧ i ∉ r := ⟨fun e => hn (by rw [e]; exact List.mem_cons_self ..), fun e => hn (List.mem_cons_of_mem _ e)⟩
      exact (k1 i hi hn'.2).trans (c1 i hn'.1)
    · by_cases hm : h ∈ r
      · exact k2 h hm
      · have hp : h = p := (List.mem_cons.mp hh).elim id (fun q => absurd q hm)
        rw [hp]
        rw [hp] at hm
        exact (k1 p e2 hm).trans c2
end
section
variable {β : Nat → Nat} {n : Nat} {E : Nat → Nat → Bool} {V : Nat → Int32} {T : Nat → Nat × Nat} {P : Nat → Int32 → Int32 × Int32} {own0 : Nat → Nat × Nat} {m u k1 : Nat} {S0 S S1 S2 : cS} {H B0 W d l c w t f f1 b j s : Nat} {X Y : Nat → Nat} {o1 o2 : List Op} {A A1 : Prop}
def upE (L : Nat) (X : Nat → Nat) : Nat → Nat := fun i => if i = 5 then L else X i
/-- an end more waits -/
theorem zI0_E {dp ind tr af k v : Nat} {y : Int32} {opn : Nat → Nat} {lp : LpT} {sc : SCs} {at' : List Nat} (h : zI0 β n E V T own0 m u k1 S0 H B0 W 0 opn dp ind s lp tr sc at' X af c w t b k (wI 6134 y S)) (hE : zE own0 m u S0 H B0 c w t (sc.1.length - 1) b S) (h6 : sI S 6134 = nI v) (hv : v ≤ qP β n k) : zI0 β n E V T own0 m u k1 S0 H B0 W 0 opn dp ind s lp tr sc at' (upE v X) af c w t b k S := by
  obtain ⟨h1, h2, h3, h4, h5, h6', h7, h8, h9, h10, h11, h12, h13⟩ := h
  obtain ⟨c0, c1, ⟨c21, c22, c23⟩, ⟨tr', c31, c32, c33⟩, c4, c5, c6, c7, c8, c9, c10⟩ := id h4
  have i3 : ∀ i, i ≠ 6134 → sI S i = sI (wI 6134 y S) i := fun i hi => (rIn _ _ hi).symm
  refine ⟨hE, (i3 _ (by decide)).trans h2, (i3 _ (by decide)).trans h3, ⟨⟨c0.1, (i3 _ (by decide)).trans c0.2.1, c0.2.2⟩, ⟨(i3 _ (by decide)).trans c1.1, c1.2⟩, ⟨(i3 _ (by decide)).trans c21, c22, fun hz => ?_⟩, ⟨tr', (i3 _ (by decide)).trans c31, c32, c33⟩, (i3 _ (by decide)).trans c4, (i3 _ (by decide)).trans c5, ⟨h6, hv⟩, ⟨(i3 _ (by decide)).trans c7.1, c7.2.1, (i3 _ (by decide)).trans c7.2.2.1, c7.2.2.2⟩, c8, zSc_go c9 id (scL_refl E sc) (fun _ _ => rfl) (fun _ _ => rfl) (fun _ _ => ⟨rfl, rfl, rfl⟩) (fun own st hr => hr), c10⟩, h5, h6', h7, (fun hz => by cases hz), h9, h10, h11, h12, h13⟩
  exact c23 hz
/-- good, with ends that waited told -/
def zP (β : Nat → Nat) (n : Nat) (E : Nat → Nat → Bool) (V : Nat → Int32) (T : Nat → Nat × Nat) (own0 : Nat → Nat × Nat) (m u k1 : Nat) (S0 : cS) (H B0 : Nat) (hs : List Nat) (le ind : Nat) (lp : LpT) (sc : SCs) (at' : List Nat) (X : Nat → Nat) (af : Nat) (S : cS) (c w t b k : Nat) (x : PT) (S1 : cS) : Prop :=
  zG β n E V T own0 m u k1 S0 H B0 0 ind lp sc at' X af S1 c w t b k x S1 ∧ kWh m c w t (sc.1.length - 1) b hs (c + wR (qK β n) x.2.1) S S1 ∧ kA (upE le X) S S1 ∧ (∀ i, i ∈ [6117, 6122, 6123, 6126, 6127, 6137, 6139, 6140] → sI S1 i = sI S i) ∧ sI S1 6134 = nI le
theorem zP_G {ind af k le : Nat} {lp : LpT} {sc : SCs} {at' : List Nat} {x : PT} (h : zP β n E V T own0 m u k1 S0 H B0 [] le ind lp sc at' X af S c w t b k x S1) (hX : X 5 = le) (h6 : sI S 6134 = nI (X 5)) : zG β n E V T own0 m u k1 S0 H B0 0 ind lp sc at' X af S c w t b k x S1 := by
  obtain ⟨⟨⟨o1, o2, o3, o4, o5, o6, o7, o8, o9⟩, g2, g3, g4, g5, g⟩, ⟨a1, a2, a3, a4, a5, a6⟩, hA, hI, h6'⟩ := h
  have eX : upE le X = X := by
    funext i
    show (if i = 5 then le else X i) = X i
    split
    · rename_i e
      rw [e, hX]
    · rfl
  rw [eX] at hA
  refine ⟨⟨o1, o2, o3, o4, o5, ⟨⟨fun i hi => a1 i hi (fun q => by cases q), a3, a4⟩, a5, a6⟩, hA, o8, o9⟩, fun i hi => ?_, fun _ => hI 6139 (by decide), (fun hz => by cases hz), g5, g⟩
  by_cases e : i = 6134
  · rw [e, h6', h6, hX]
  · refine hI i ?_
    simp only [List.mem_cons, List.not_mem_nil, or_false] at hi ⊢
    omega
/-- told at the end -/
theorem zP_end {ind af k le : Nat} {lp : LpT} {sc : SCs} {at' : List Nat} {x : PT} {hs : List Nat} {y : Int32} (g : zG β n E V T own0 m u k1 S0 H B0 0 ind lp sc at' X af S c w t b k x (wI 6134 y S1)) (hE : zE own0 m u S0 H B0 (c + wR (qK β n) x.2.1) (w + nwN (qK β n) x.2.1) (t + ntN (qK β n) x.2.1) (x.2.2.1.1.length - 1) (b + (zbk (qK β n) c x.2.1).length) S1) (hH : H ≤ 40000) (hle : le + hs.length < 3000) (h6 : sI S1 6134 = nI (le + hs.length)) (hX : X 5 = le + hs.length) (hh : ∀ i p, hs[i]? = some p → sA S 81 (le + i) = nI p ∧ p < c) : ∃ S2, (∀ lv : sm_L, sm_get lv 0 = some (.ref 61) → sm_get lv 2 = some (.int (nI le)) → sm_get lv 4 = some (.int (nI le)) → Bod (d + 8) 333 208 lv [] S1 (some (.int 1)) S2) ∧ zP β n E V T own0 m u k1 S0 H B0 hs le ind lp sc at' X af S c w t b k x S2 := by
  obtain ⟨⟨o1, o2, o3, o4, o5, o6, o7, o8, o9⟩, g2, g3, g4, g5, g⟩ := g
  obtain ⟨S2, hB, z2, kx2, ⟨a1, a2, a3, a4, a5, a6⟩, i2⟩ := fill_all (d := d) (le := le) hH (by omega) hs le S1 hE h6 hle (fun i p hp => by
    obtain ⟨e1, e2⟩ := hh i p hp
    have hi := (List.getElem?_eq_some_iff.mp hp).1
    exact ⟨(o7.2.2.2.2.2.1 (le + i) (by omega)).trans e1, by omega⟩)
  have hcw : ∀ i, c ≤ i → i < c + wR (qK β n) x.2.1 → cw S2 m i = cw S1 m i := fun i i1 i2 => a1 i i2 (fun q => by
    obtain ⟨j, hj⟩ := List.mem_iff_getElem?.mp q
    have := (hh j i hj).2
    omega)
  refine ⟨_, hB, ⟨⟨zE_wI z2 (by decide), (rIn _ _ (by decide)).trans ((i2 _).trans ((rIn y S1 (by decide)).symm.trans o2)), (rIn _ _ (by decide)).trans ((i2 _).trans ((rIn y S1 (by decide)).symm.trans o3)), fun hq => ?_, o5, kW_refl _ _ _ _ _ _ _, kA_refl _ _, o8, fun i p hp => ?_⟩, kI_refl _, fun _ => rfl, (fun hz => by cases hz), ?_, g⟩, ⟨fun i hi hn => ?_, fun h hh' => ?_, fun i hi => ?_, fun i hi => ?_, fun i hi => ?_, fun i hi => ?_⟩, ?_, fun i hi => ?_, rIe _ _ _⟩
  · exact lsS_mv (S := wI 6134 y S1) (S1 := wI 6134 (nI le) S2) (fun i hi => a3 i hi) (fun i hi => a4 i hi) (Nat.le_refl _) (Nat.le_refl _) x.2.1 c c o5 (fun i hi => hcw (c + i) (Nat.le_add_right _ _) (Nat.add_lt_add_left hi _)) (o4 hq)
  · obtain ⟨q1, q2⟩ := o9 i p hp
    have := (List.getElem?_eq_some_iff.mp hp).1
    obtain ⟨e1, e2⟩ := a6 (b + i) (by omega)
    exact ⟨e1.trans q1, e2.trans q2⟩
  · exact fun i e he => by
      obtain ⟨e1, e2, e3, e4⟩ := g5 i e he
      exact ⟨(congrFun kx2.2.2.1 i).trans e1, (congrFun kx2.2.2.2.1 i).trans e2, (congrFun kx2.2.2.2.2.1 i).trans e3, (congrFun kx2.2.2.2.2.2.1 i).trans e4⟩
  · exact (a1 i (by omega) hn).trans (o6.1.1 i hi)
  · exact a2 h hh'
  · exact (a3 i (by omega)).trans (o6.1.2.1 i hi)
  · exact ⟨(a4 i (by omega)).1.trans (o6.1.2.2 i hi).1, (a4 i (by omega)).2.trans (o6.1.2.2 i hi).2⟩
  · obtain ⟨e1, e2, e3, e4⟩ := o6.2.1 i hi
    obtain ⟨f1, f2, f3, f4⟩ := a5 i (by omega)
    exact ⟨f1.trans e1, f2.trans e2, f3.trans e3, f4.trans e4⟩
  · obtain ⟨e1, e2⟩ := o6.2.2 i hi
    obtain ⟨f1, f2⟩ := a6 i (by omega)
    exact ⟨f1.trans e1, f2.trans e2⟩
  · have hk1 := kX_kA (X := upE le X) kx2
    have hk2 : kA (upE le X) S S1 := kA_le o7 (fun i => by
      show (if i = 5 then le else X i) ≤ X i
      split
      · rename_i e
        rw [e]
        omega
      · exact Nat.le_refl _)
    exact kA_trans hk2 hk1
  · have h1 : i ≠ 6134 := by
      simp only [List.mem_cons, List.not_mem_nil, or_false] at hi
      omega
    refine (rIn _ _ h1).trans ((i2 i).trans ((rIn y S1 h1).symm.trans ?_))
    by_cases e : i = 6139
    · rw [e]
      exact g3 rfl
    · refine g2 i ?_
      simp only [List.mem_cons, List.not_mem_nil, or_false] at hi ⊢
      omega
/-- a piece, its jump to the end, and what follows -/
theorem zP_step {ind af k q le v : Nat} {lp : LpT} {sc sc2 : SCs} {at' : List Nat} {e : PT} {hs : List Nat} {y : Int32} {os1 : List Op} {S5 Sf : cS} {z : Int} (g : zG β n E V T own0 m u k1 S0 H B0 0 ind lp sc at' X af S c w t b k (q, os1 ++ [(4, [], 0, 0)], sc2, at') (wI 6134 y S5)) (hw : wR (qK β n) os1 + 4 + 13 * rem β n q ≤ 13 * rem β n k) (h : zP β n E V T own0 m u k1 S0 H B0 (hs ++ [c + wR (qK β n) os1 + 1]) le ind lp sc2 at' (upE v X) af S5 (c + wR (qK β n) (os1 ++ [(4, [], 0, 0)])) (w + nwN (qK β n) (os1 ++ [(4, [], 0, 0)])) (t + ntN (qK β n) (os1 ++ [(4, [], 0, 0)])) (b + (zbk (qK β n) c (os1 ++ [(4, [], 0, 0)])).length) q e Sf) (hh : ∀ p, p ∈ hs → p < c) (hle : le ≤ X 5) : zP β n E V T own0 m u k1 S0 H B0 hs le ind lp sc at' X af S c w t b k (e.1, os1 ++ (4, [], z, ((1 + wR (qK β n) e.2.1 : Nat) : Int)) :: e.2.1, e.2.2.1, at') Sf ∧ wR (qK β n) (os1 ++ (4, [], z, ((1 + wR (qK β n) e.2.1 : Nat) : Int)) :: e.2.1) + 2 + 13 * rem β n e.1 ≤ 13 * rem β n k := by
  obtain ⟨os, hos⟩ : ∃ os, os = os1 ++ [((4, [], 0, 0) : Op)] := ⟨_, rfl⟩
  obtain ⟨J, hJ⟩ : ∃ J : Op, J = (4, [], z, ((1 + wR (qK β n) e.2.1 : Nat) : Int)) := ⟨_, rfl⟩
  have n4 : ∀ o : Op, o.1 = 4 → lR (qK β n) o = 2 ∧ nwO (qK β n) o = 0 ∧ ntO (qK β n) o = 0 := fun o ho => by
    obtain ⟨o1, o2⟩ := o
    have ho' : o1 = 4 := ho
    subst ho'
    exact ⟨rfl, rfl, rfl⟩
  obtain ⟨lJ, nJ, tJ⟩ := n4 J (by rw [hJ])
  have hJ60 : J.1 ≠ 60 := by rw [hJ]; show (4 : Nat) ≠ 60; decide
  have wU : wR (qK β n) os = wR (qK β n) os1 + 2 := by rw [hos, wR_app]; rfl
  have nU : nwN (qK β n) os = nwN (qK β n) os1 := by rw [hos, nwN_app]; rfl
  have tU : ntN (qK β n) os = ntN (qK β n) os1 := by rw [hos, ntN_app]; rfl
  have bU : zbk (qK β n) c os = zbk (qK β n) c os1 := by
    rw [hos, zbk_app, zbk_n _ _ _ (n60_1 (by show (4 : Nat) ≠ 60; decide)), List.append_nil]
  have wF : wR (qK β n) (os1 ++ J :: e.2.1) = wR (qK β n) os + wR (qK β n) e.2.1 := by
    rw [wR_app, wU]
    show wR (qK β n) os1 + (lR (qK β n) J + wR (qK β n) e.2.1) = _
    rw [lJ]
    omega
  have nF : nwN (qK β n) (os1 ++ J :: e.2.1) = nwN (qK β n) os + nwN (qK β n) e.2.1 := by
    rw [nwN_app, nU]
    show nwN (qK β n) os1 + (nwO (qK β n) J + nwN (qK β n) e.2.1) = _
    rw [nJ]
    omega
  have tF : ntN (qK β n) (os1 ++ J :: e.2.1) = ntN (qK β n) os + ntN (qK β n) e.2.1 := by
    rw [ntN_app, tU]
    show ntN (qK β n) os1 + (ntO (qK β n) J + ntN (qK β n) e.2.1) = _
    rw [tJ]
    omega
  have bF : zbk (qK β n) c (os1 ++ J :: e.2.1) = zbk (qK β n) c os ++ zbk (qK β n) (c + wR (qK β n) os) e.2.1 := by
    rw [zbk_app, bU]
    show _ ++ ((if J.1 = 60 then _ else []) ++ zbk (qK β n) (c + wR (qK β n) os1 + lR (qK β n) J) e.2.1) = _
    rw [if_neg hJ60, lJ, wU, ← Nat.add_assoc]
    rfl
  rw [← hos] at g h
  rw [← hJ]
  obtain ⟨⟨o1', o2', o3', o4', o5', o6', o7', o8', o9'⟩, g2, g3, -, g5, g6, g7, g8, g9, g10, g11, g12, g13, g14, g15, g16⟩ := g
  obtain ⟨⟨⟨p1, p2, p3, p4, p5, p6, p7, p8, p9⟩, -, -, -, e5, e6, e7, e8, e9, e10, e11, e12, e13, e14, e15, e16⟩, ⟨a1, a2, a3, a4, a5, a6⟩, hA, hI, h6'⟩ := h
  have g7' : wR (qK β n) os + 13 * rem β n q ≤ 13 * rem β n k := g7
  have g8' : nwN (qK β n) os + rem β n q ≤ rem β n k := g8
  have g9' : ntN (qK β n) os + rem β n q ≤ rem β n k := g9
  have g10' : sc2.1.length + rem β n q ≤ sc.1.length + rem β n k := g10
  have g11' : (zbk (qK β n) c os).length + qP β n k ≤ qP β n q := g11
  have g15' : k ≤ q := g15
  have w5 : w23 (os1 ++ [((4, [], 0, 0) : Op)]) := by rw [← hos]; exact o5'
  have hkeep : ∀ i, c ≤ i → i < c + wR (qK β n) os → i ≠ c + wR (qK β n) os1 + 1 → cw Sf m i = cw S5 m i := fun i i1 i2 i3 => a1 i i2 (fun hm => by
    rcases List.mem_append.mp hm with hm | hm
    · have := hh i hm
      omega
    · exact i3 (List.mem_singleton.mp hm))
  have hE : zE own0 m u S0 H B0 (c + wR (qK β n) (os1 ++ J :: e.2.1)) (w + nwN (qK β n) (os1 ++ J :: e.2.1)) (t + ntN (qK β n) (os1 ++ J :: e.2.1)) (e.2.2.1.1.length - 1) (b + (zbk (qK β n) c (os1 ++ J :: e.2.1)).length) Sf := by
    rw [wF, nF, tF, bF, List.length_append, ← Nat.add_assoc, ← Nat.add_assoc, ← Nat.add_assoc, ← Nat.add_assoc]
    exact p1
  have hC : c + wR (qK β n) os + wR (qK β n) e.2.1 = c + wR (qK β n) (os1 ++ J :: e.2.1) := by rw [wF]; omega
  refine ⟨⟨⟨⟨hE, p2, p3, fun hq => ?_, ?_, kW_refl _ _ _ _ _ _ _, kA_refl _ _, ?_, fun i p hp => ?_⟩, kI_refl _, fun _ => rfl, (fun hz => by cases hz), e5, fun hl => ?_, ?_, ?_, ?_, ?_, ?_, fun j j1 j2 => ?_, e13, fun hj => ?_, ?_, scL_trans g16 e16⟩, ⟨fun i hi hn => ?_, fun p hp => ?_, fun i hi => ?_, fun i hi => ?_, fun i hi => ?_, fun i hi => ?_⟩, ?_, fun i hi => ?_, h6'⟩, ?_⟩
  · have hls := o4' (agT_L e16 hq)
    rw [hos] at hls
    obtain ⟨l1, l2⟩ := (lsS_app os1 c).mp hls
    refine (lsS_app os1 c).mpr ⟨?_, ?_, ?_⟩
    · rw [← hos] at l1
      refine lsS_mv (β := β) (n := n) (S := wI 6134 y S5) (fun i hi => a3 i hi) (fun i hi => a4 i hi) (show w + nwN (qK β n) os ≤ w + nwN (qK β n) (os1 ++ J :: e.2.1) by rw [nF]; omega) (show t + ntN (qK β n) os ≤ t + ntN (qK β n) (os1 ++ J :: e.2.1) by rw [tF]; omega) os1 c c (w23_app.mp w5).1 (fun i hi => ?_) l1
      exact hkeep (c + i) (by omega) (by rw [wU]; omega) (by omega)
    · have q0 : cw Sf m (c + wR (qK β n) os1) = nI 11 := by
        rw [hkeep _ (by omega) (by rw [wU]; omega) (by omega)]
        exact l2.1.1 0 (nI 11) rfl
      refine ⟨?_, fun e => absurd e (by rw [hJ]; show (4 : Nat) ≠ 16; decide), fun e => absurd e (by rw [hJ]; show (4 : Nat) ≠ 16; decide), fun e => absurd e (by rw [hJ]; show (4 : Nat) ≠ 16; decide)⟩
      have ew : wdS V (zPT (qK β n) (qI β n) V T) J = [nI 11, nI (1 + wR (qK β n) e.2.1)] := by rw [hJ]; rfl
      rw [ew]
      refine two_w q0 ?_
      rw [a2 _ (List.mem_append.mpr (Or.inr (List.mem_singleton.mpr rfl)))]
      exact congrArg nI (by rw [wU]; omega)
    · rw [lJ]
      have := p4 hq
      rw [show c + wR (qK β n) os1 + 2 = c + wR (qK β n) os by rw [wU]; omega]
      rw [nF, tF, ← Nat.add_assoc, ← Nat.add_assoc]
      exact this
  · exact w23_app.mpr ⟨(w23_app.mp w5).1, fun o ho => (List.mem_cons.mp ho).elim (fun e1 => by rw [e1, hJ]; exact fun e2 => absurd e2 (by show (4 : Nat) ≠ 23; decide)) (fun e1 => p5 o e1)⟩
  · exact Nat.le_trans o8' p8
  · rw [bF, List.getElem?_append] at hp
    split at hp
    · rename_i hi
      obtain ⟨q1, q2⟩ := o9' i p hp
      obtain ⟨f1, f2⟩ := a6 (b + i) (by omega)
      exact ⟨f1.trans q1, f2.trans q2⟩
    · rename_i hi
      obtain ⟨q1, q2⟩ := p9 _ p hp
      have ei : b + (zbk (qK β n) c os).length + (i - (zbk (qK β n) c os).length) = b + i := by omega
      rw [ei] at q1 q2
      exact ⟨q1, q2⟩
  · have hn1 := g6 hl
    have hn1' : n60 (os1 ++ [((4, [], 0, 0) : Op)]) := by rw [← hos]; exact hn1
    exact n60_app.mpr ⟨(n60_app.mp hn1').1, fun o ho => (List.mem_cons.mp ho).elim (fun e1 => by rw [e1]; exact hJ60) (fun e1 => e6 hl o e1)⟩
  · show wR (qK β n) (os1 ++ J :: e.2.1) + 13 * rem β n e.1 ≤ 13 * rem β n k
    rw [wF]
    omega
  · show nwN (qK β n) (os1 ++ J :: e.2.1) + rem β n e.1 ≤ rem β n k
    rw [nF]
    omega
  · show ntN (qK β n) (os1 ++ J :: e.2.1) + rem β n e.1 ≤ rem β n k
    rw [tF]
    omega
  · show e.2.2.1.1.length + rem β n e.1 ≤ sc.1.length + rem β n k
    omega
  · show (zbk (qK β n) c (os1 ++ J :: e.2.1)).length + qP β n k ≤ qP β n e.1
    rw [bF, List.length_append]
    omega
  · rcases Nat.lt_or_ge j q with a1 | a1
    · exact g12 j j1 a1
    · exact e12 j a1 j2
  · rcases Nat.lt_or_ge q e.1 with a1 | a1
    · exact e14 a1
    · have : e.1 = q := by omega
      show qK β n (e.1 - 1) = 2
      rw [this]
      exact g14 (by show k < q; have : k < e.1 := hj; omega)
  · show k ≤ e.1
    omega
  · exact (a1 i (by omega) (fun hm => by
      rcases List.mem_append.mp hm with hm | hm
      · exact hn hm
      · have := List.mem_singleton.mp hm
        omega)).trans (o6'.1.1 i hi)
  · rw [a2 p (List.mem_append.mpr (Or.inl hp))]
    exact congrArg nI (by show c + wR (qK β n) os + wR (qK β n) e.2.1 - p = c + wR (qK β n) (os1 ++ J :: e.2.1) - p; rw [hC])
  · exact (a3 i (by omega)).trans (o6'.1.2.1 i hi)
  · exact ⟨(a4 i (by omega)).1.trans (o6'.1.2.2 i hi).1, (a4 i (by omega)).2.trans (o6'.1.2.2 i hi).2⟩
  · obtain ⟨e1, e2, e3, e4⟩ := o6'.2.1 i hi
    have o8'' : sc.1.length - 1 ≤ sc2.1.length - 1 := o8'
    obtain ⟨f1, f2, f3, f4⟩ := a5 i (by omega)
    exact ⟨f1.trans e1, f2.trans e2, f3.trans e3, f4.trans e4⟩
  · obtain ⟨e1, e2⟩ := o6'.2.2 i hi
    obtain ⟨f1, f2⟩ := a6 i (by omega)
    exact ⟨f1.trans e1, f2.trans e2⟩
  · have hk2 : kA (upE le X) S (wI 6134 y S5) := kA_le o7' (fun i => by
      show (if i = 5 then le else X i) ≤ X i
      split
      · rename_i e
        rw [e]
        omega
      · exact Nat.le_refl _)
    have e0 : upE le (upE v X) = upE le X := by
      funext i
      show (if i = 5 then le else if i = 5 then v else X i) = if i = 5 then le else X i
      split
      · rfl
      · rfl
    rw [e0] at hA
    exact kA_trans hk2 hA
  · have h1 : i ≠ 6134 := by
      simp only [List.mem_cons, List.not_mem_nil, or_false] at hi
      omega
    refine (hI i hi).trans ((rIn y S5 h1).symm.trans ?_)
    by_cases e : i = 6139
    · rw [e]
      exact g3 rfl
    · refine g2 i ?_
      simp only [List.mem_cons, List.not_mem_nil, or_false] at hi ⊢
      omega
  · show wR (qK β n) (os1 ++ J :: e.2.1) + 2 + 13 * rem β n e.1 ≤ _
    rw [wF]
    omega
end
