/-! THE MACHINES, STEP BY STEP: both between two steps -/
/-- an array of the reference's names: none of the machine's -/
def nG (g : Nat) : Prop := 108 ≤ g ∨ 62 ≤ g ∧ g ≤ 66 ∨ g = 79 ∨ g = 80
/-- the reference's table of names -/
def rTb (Q : Nat → Prop) (S : cS) (nn g0 g1 g3 g4 g5 gn : Nat) : Prop := sI S 6102 = nI nn ∧ (sV S 6100 = .ref g0 ∧ sV S 6101 = .ref g1 ∧ sV S 6103 = .ref g3 ∧ sV S 6104 = .ref g4 ∧ sV S 6105 = .ref g5) ∧ (isK S g0 2 (12 * gn) ∧ isK S g1 0 gn ∧ isK S g3 0 gn ∧ isK S g4 1 gn ∧ isK S g5 1 gn) ∧ nn ≤ gn ∧ 64 ≤ gn ∧ gn < 2 ^ 16 ∧ (Q g0 ∧ Q g1 ∧ Q g3 ∧ Q g4 ∧ Q g5) ∧ (nG g0 ∧ nG g1 ∧ nG g3 ∧ nG g4 ∧ nG g5) ∧ g0 ≠ g1 ∧ g0 ≠ g3 ∧ g1 ≠ g3 ∧ g4 ≠ g5
def rRg (S : cS) (C : List Lv) : Prop := match C with
  | [] => False
  | x :: r => sI S 6151 = nI (topC (x :: r) + offC (x :: r)) ∧ sI S 6159 = nI (r.length + 1) ∧ sI S 6163 = nI (vT x + vU x)
/-- steps, fuel, what was printed, the rover -/
def rMs (Sc Sr : cS) : Prop := (sI Sr 6166 = sI Sc 5218 ∧ sI Sr 6165 = sI Sc 5219) ∧ (∃ o, o ≤ 4000 ∧ sI Sc 4906 = nI o ∧ sI Sr 6172 = nI o ∧ ∀ i, i < o → sA Sr 106 i = sA Sc 50 i) ∧ ∃ u, u < 1500 ∧ sI Sr 6147 = nI u
/-- what a run of the reference leaves alone (T: its start), and its room -/
def rKp (P : Nat → Prop) (T : cS) (gT gn : Nat) (S : cS) : Prop := sJ S = sJ T ∧ (∀ i, i < 6100 → sI S i = sI T i) ∧ (∀ i, i < 10800 → ¬ (6100 ≤ i ∧ i ≤ 6105) → sV S i = sV T i) ∧ (∃ l, sS S = sS T ++ l) ∧ (∀ a, P a → sA S a = sA T a ∧ sL S a = sL T a) ∧ (∀ b, b ≠ 86 → b ≠ 94 → sQ S b = sQ T b) ∧ (∀ m zm, 108 ≤ m → (sS T)[m - 108]? = some (12, zm) → ∀ j, j < 100 → sI S (100 * m + j) = sI T (100 * m + j) ∧ sV S (100 * m + j) = sV T (100 * m + j)) ∧ mu S + rtC T + 32 * gT = mu T + rtC S + 32 * gn ∧ (sS S).length + rtN T + gT ≤ (sS T).length + rtN S + gn
def pQ (P Q : Nat → Prop) (g0 g1 g3 g4 g5 : Nat) : Prop := (∀ a, P a → Q a ∧ (a < 62 ∨ a = 105 ∨ a = 107 ∨ 108 ≤ a)) ∧ ¬ P g0 ∧ ¬ P g1 ∧ ¬ P g3 ∧ ¬ P g4 ∧ ¬ P g5
/-- the names of both; F q 0 r: name q of the class is r of the reference, in some code -/
def NMw (F : Nat → Nat → Nat → Prop) (β : Nat → Nat) (Sc Sr : cS) (z nn g0 g1 g3 g4 g5 : Nat) : Prop := NMv β Sr (sL Sc 21) (sL Sc 22) z nn g0 g1 g3 g4 g5 ∧ z ≤ 4096 ∧ (sL Sr 17 = sL Sc 17 ∧ sL Sr 18 = sL Sc 18) ∧ ((∀ i k, i < z → k < z → sL Sc 17 i = sL Sc 17 k → sL Sc 18 i = sL Sc 18 k → i = k) ∧ ∀ i, fits .byte (.int (sA Sr g0 i)) = true) ∧ ∀ q r, F q 0 r → q < z ∧ r < nn ∧ nrel Sr g0 g1 q r
/-- the reference beside the class, between two steps -/
def XR (P : Nat → Prop) (T : cS) (gT : Nat) (Q : Nat → Prop) (β : Nat → Nat) (F : Nat → Nat → Nat → Prop) (D : List Nat) (z nn g0 g1 g3 g4 g5 gn : Nat) (tq : Nat → Nat × Nat) (C : List Lv) (Sc Sr : cS) : Prop :=
  HR Q β F D Sc Sr g0 g1 nn ∧ NMw F β Sc Sr z nn g0 g1 g3 g4 g5 ∧ rTb Q Sr nn g0 g1 g3 g4 g5 gn ∧ stkR β Sc Sr C ∧ rCal β Sr C ∧ rRg Sr C ∧ triX tq Sr C ∧ lnC Sc Sr C ∧ rMs Sc Sr ∧ rKp P T gT gn Sr ∧ pQ P Q g0 g1 g3 g4 g5
/-- the reference's stack above tp, and its height, alone have changed -/
def sFr (tp : Nat) (S W : cS) : Prop := sS W = sS S ∧ sQ W = sQ S ∧ sV W = sV S ∧ sJ W = sJ S ∧ mu W = mu S ∧ (∀ i, i ≠ 6151 → sI W i = sI S i) ∧ (∀ a, a ≠ 91 → a ≠ 104 → a ≠ 104 → sA W a = sA S a) ∧ (∀ a, a ≠ 92 → a ≠ 93 → sL W a = sL S a) ∧ ∀ i, i < tp → sA W 91 i = sA S 91 i ∧ sL W 92 i = sL S 92 i ∧ sL W 93 i = sL S 93 i
section
variable {P : Nat → Prop} {T : cS} {gT : Nat} {Q : Nat → Prop} {β : Nat → Nat} {F : Nat → Nat → Nat → Prop} {D K : List Nat} {z nn g0 g1 g3 g4 g5 gn : Nat} {tq : Nat → Nat × Nat} {C r : List Lv} {x : Lv} {Sc Sr S S' W X : cS} {tp v : Nat} {hi lo : Int64}
theorem sFr.refl (tp : Nat) (S : cS) : sFr tp S S := ⟨rfl, rfl, rfl, rfl, rfl, fun _ _ => rfl, fun _ _ _ _ => rfl, fun _ _ _ => rfl, fun _ _ => ⟨rfl, rfl, rfl⟩⟩
theorem sFr.trans (h : sFr tp S W) (g : sFr tp W X) : sFr tp S X := by
  obtain ⟨a1, a2, a3, a4, a5, a6, a7, a8, a9⟩ := h
  obtain ⟨b1, b2, b3, b4, b5, b6, b7, b8, b9⟩ := g
  exact ⟨b1.trans a1, b2.trans a2, b3.trans a3, b4.trans a4, b5.trans a5, fun i hi => (b6 i hi).trans (a6 i hi), fun a ha h4 h5 => (b7 a ha h4 h5).trans (a7 a ha h4 h5), fun a h1 h2 => (b8 a h1 h2).trans (a8 a h1 h2), fun i hi => ⟨(b9 i hi).1.trans (a9 i hi).1, (b9 i hi).2.1.trans (a9 i hi).2.1, (b9 i hi).2.2.trans (a9 i hi).2.2⟩⟩
theorem sFr_I {n : Int32} (h : sFr tp S W) : sFr tp S (wI 6151 n W) := h.trans ⟨rfl, rfl, rfl, rfl, rfl, fun _ hi => if_neg hi, fun _ _ _ _ => rfl, fun _ _ _ => rfl, fun _ _ => ⟨rfl, rfl, rfl⟩⟩
theorem sFr_push {i : Nat} {kd : Int32} {xa xb : Int64} (h : sFr tp S W) (hi : tp ≤ i) : sFr tp S (wL 93 i xb (wL 92 i xa (wA 91 i kd W))) := h.trans ⟨rfl, rfl, rfl, rfl, rfl, fun _ _ => rfl, fun _ ha _ _ => if_neg ha, fun a h2 h3 => by rw [rL, if_neg h3, rL, if_neg h2]; rfl, fun j hj => ⟨by
    show (if 91 = 91 then va_up (sA W 91) i kd else sA W 91) j = _
    rw [if_pos rfl]; exact if_neg (by omega), by
    rw [rL, if_neg (by decide), rL, if_pos rfl]; exact if_neg (by omega), by
    rw [rL, if_pos rfl, rL, if_neg (by decide)]; exact if_neg (by omega)⟩⟩
theorem spush_at {i : Nat} {kd : Int32} {xa xb : Int64} : sA (wL 93 i xb (wL 92 i xa (wA 91 i kd W))) 91 i = kd ∧ sL (wL 93 i xb (wL 92 i xa (wA 91 i kd W))) 92 i = xa ∧ sL (wL 93 i xb (wL 92 i xa (wA 91 i kd W))) 93 i = xb := by
  refine ⟨?_, ?_, ?_⟩
  · show (if 91 = 91 then va_up (sA W 91) i kd else sA W 91) i = kd
    rw [if_pos rfl]; exact if_pos rfl
  · rw [rL, if_neg (by decide), rL, if_pos rfl]; exact if_pos rfl
  · rw [rL, if_pos rfl, rL, if_neg (by decide)]; exact if_pos rfl
theorem sFr_M (h : sFr tp S W) : rM S W := ⟨h.1, by rw [h.2.1], h.2.2.1, fun i hi => h.2.2.2.2.2.1 i (by omega), fun a ha => ⟨h.2.2.2.2.2.2.1 a (by omega) (by omega) (by omega), h.2.2.2.2.2.2.2.1 a (by omega) (by omega)⟩, h.2.2.2.2.2.2.1 87 (by decide) (by decide) (by decide)⟩
theorem nG_ne {g a : Nat} (h : nG g) (ha : 67 ≤ a ∧ a < 108 ∧ a ≠ 79 ∧ a ≠ 80) : g ≠ a := by unfold nG at h; omega
theorem sFr_N (h : sFr tp S W) (hg : nG g0 ∧ nG g1) : tnE S W g0 g1 := ⟨h.2.2.2.2.2.2.1 g0 (nG_ne hg.1 (by omega)) (nG_ne hg.1 (by omega)) (nG_ne hg.1 (by omega)), h.2.2.2.2.2.2.1 g1 (nG_ne hg.2 (by omega)) (nG_ne hg.2 (by omega)) (nG_ne hg.2 (by omega)), h.2.2.2.2.2.2.2.1 17 (by decide) (by decide), h.2.2.2.2.2.2.2.1 18 (by decide) (by decide)⟩
theorem NMv_E {V W' : Nat → Int64} (h : NMv β S V W' z nn g0 g1 g3 g4 g5) (hn : tnE S W g0 g1) (e3 : sA W g3 = sA S g3) (e4 : sL W g4 = sL S g4) (e5 : sL W g5 = sL S g5) : NMv β W V W' z nn g0 g1 g3 g4 g5 := by
  obtain ⟨h1, h2, h3, h4, h5, h6⟩ := h
  have eH := fun r => (rnE hn r).1
  have eL := fun r => (rnE hn r).2
  refine ⟨fun r hr => ?_, fun r s hr hs a b => ?_, fun r q hr hq hrel => ?_, fun r hr hno => ?_, fun q hq hno => h5 q hq (fun r hr hrel => hno r hr ((nrelE hn q r).mpr hrel)), h6⟩
  · unfold rnOk
    rw [hn.1, hn.2.1]
    exact h1 r hr
  · rw [eH, eH] at a
    rw [eL, eL] at b
    exact h2 r s hr hs a b
  · rw [e3, e4, e5]
    exact h3 r q hr hq ((nrelE hn q r).mp hrel)
  · rw [e3]
    exact h4 r hr (fun q hq hrel => hno q hq ((nrelE hn q r).mpr hrel))
theorem NMw_E (h : NMw F β Sc Sr z nn g0 g1 g3 g4 g5) (e21 : sL S' 21 = sL Sc 21) (e22 : sL S' 22 = sL Sc 22) (e17 : sL S' 17 = sL Sc 17) (e18 : sL S' 18 = sL Sc 18) (hn : tnE Sr W g0 g1) (e3 : sA W g3 = sA Sr g3) (e4 : sL W g4 = sL Sr g4) (e5 : sL W g5 = sL Sr g5) : NMw F β S' W z nn g0 g1 g3 g4 g5 := by
  obtain ⟨h1, h2, ⟨h3, h4⟩, h5, h6⟩ := h
  refine ⟨?_, h2, ⟨hn.2.2.1.trans (h3.trans e17.symm), hn.2.2.2.trans (h4.trans e18.symm)⟩, ?_, fun q r hF => ⟨(h6 q r hF).1, (h6 q r hF).2.1, (nrelE hn q r).mpr (h6 q r hF).2.2⟩⟩
  · rw [e21, e22]
    exact NMv_E h1 hn e3 e4 e5
  · rw [e17, e18]
    exact ⟨h5.1, fun i => by rw [hn.1]; exact h5.2 i⟩
theorem rTb_E (h : rTb Q S nn g0 g1 g3 g4 g5 gn) (eS : sS W = sS S) (eV : ∀ i, 6100 ≤ i → i ≤ 6105 → sV W i = sV S i) (eI : sI W 6102 = sI S 6102) : rTb Q W nn g0 g1 g3 g4 g5 gn := by
  obtain ⟨h1, ⟨h2, h3, h4, h5, h6⟩, ⟨k0, k1, k3, k4, k5⟩, hr⟩ := h
  exact ⟨by rw [eI]; exact h1, ⟨by rw [eV _ (by omega) (by omega)]; exact h2, by rw [eV _ (by omega) (by omega)]; exact h3, by rw [eV _ (by omega) (by omega)]; exact h4, by rw [eV _ (by omega) (by omega)]; exact h5, by rw [eV _ (by omega) (by omega)]; exact h6⟩, ⟨isK_S eS k0, isK_S eS k1, isK_S eS k3, isK_S eS k4, isK_S eS k5⟩, hr⟩
/-- the stacks below n, tp are as they were -/
theorem stkR_E {n : Nat} (h : stkR β Sc Sr C) (hn : ∀ y, y ∈ C → vB y + vH y ≤ n) (ec : ∀ i, i < n → sL S' 47 i = sL Sc 47 i ∧ sL S' 48 i = sL Sc 48 i) (er : ∀ i, i < n + offC C → sA W 91 i = sA Sr 91 i ∧ sL W 92 i = sL Sr 92 i ∧ sL W 93 i = sL Sr 93 i) : stkR β S' W C := by
  induction C with
  | nil => exact h
  | cons x r ih =>
    obtain ⟨h1, h2, h3⟩ := h
    have hx := hn x List.mem_cons_self
    have eo : offC (x :: r) = mkb x + offC r := rfl
    refine ⟨fun i hi => ?_, fun hd => ?_, ih h3 (fun y hy => hn y (List.mem_cons_of_mem _ hy)) (fun i hi => er i (by omega))⟩
    · obtain ⟨c1, c2⟩ := ec (vB x + i) (by omega)
      obtain ⟨d1, d2, d3⟩ := er (vB x + i + offC (x :: r)) (by omega)
      rw [c1, c2, d1, d2, d3]
      exact h1 i hi
    · have hm : mkb x = 1 := if_neg hd
      obtain ⟨d1, d2, d3⟩ := er (vB x + offC r) (by omega)
      rw [d1, d2]
      exact h2 hd
theorem lnC_E {C : List Lv} (h : lnC Sc Sr C) (e1 : sA S' 55 = sA Sc 55) (e2 : sI S' 5217 = sI Sc 5217) (e3 : sA W 98 = sA Sr 98) : lnC S' W C := by
  cases C with
  | nil => exact h
  | cons x r =>
    refine ⟨fun i hi => ?_, ?_⟩
    · rw [e1, e3]; exact h.1 i hi
    · rw [e2, e3]; exact h.2
theorem rKp_s (h : rKp P T gT gn S) (hp : pQ P Q g0 g1 g3 g4 g5) (hW : sFr tp S W) : rKp P T gT gn W := by
  obtain ⟨a1, a2, a3, ⟨l, a4⟩, a5, a6, a7, a8, a9⟩ := h
  obtain ⟨w1, w2, w3, w4, w5, w6, w7, w8, w9⟩ := hW
  obtain ⟨e1, e2⟩ := tc_same (S := S) (W := W) (by rw [w2]) w1 w3
  have er : rtC W = rtC S ∧ rtN W = rtN S := by unfold rtC rtN; rw [e1, e2]; exact ⟨rfl, rfl⟩
  refine ⟨w4.trans a1, fun i hi => (w6 i (by omega)).trans (a2 i hi), fun i hi hn => by rw [w3]; exact a3 i hi hn, ⟨l, by rw [w1]; exact a4⟩, fun a ha => ?_, fun b h1 h2 => by rw [w2]; exact a6 b h1 h2, fun m zm hm hs j hj => ⟨(w6 _ (by omega)).trans (a7 m zm hm hs j hj).1, by rw [w3]; exact (a7 m zm hm hs j hj).2⟩, by rw [w5, er.1]; exact a8, by rw [w1, er.2]; exact a9⟩
  have := (hp.1 a ha).2
  exact ⟨(w7 a (by omega) (by omega) (by omega)).trans (a5 a ha).1, (w8 a (by omega) (by omega)).trans (a5 a ha).2⟩
/-- both behind a step that only took v values off and put one -/
theorem XR_give (h : XR P T gT Q β F D z nn g0 g1 g3 g4 g5 gn tq (x :: r) Sc Sr) (hcl : h_cl Sc) (hok : ∀ j, 1 ≤ j → j ≤ 1500 → h_ok Sc j) (hcal : cCal Sc (x :: r)) (hK : KX K Sc S') (hv : v ≤ vH x) (e : ∀ i, i < topC (x :: r) - v → sL S' 47 i = sL Sc 47 i ∧ sL S' 48 i = sL Sc 48 i) (e1 : sL S' 47 (topC (x :: r) - v) = hi) (e2 : sL S' 48 (topC (x :: r) - v) = lo) (htp : tp = topC (x :: r) - v + offC (x :: r)) (hW : sFr tp Sr W) (h51 : sI W 6151 = nI (tp + 1)) (hvr : vrel β hi lo (sA W 91 tp) (sL W 92 tp) (sL W 93 tp)) : XR P T gT Q β F (D ++ K.map β) z nn g0 g1 g3 g4 g5 gn tq (vAt x (vP x) (vQ x) (vH x - v + 1, vU x, vL x) :: r) S' W := by
  obtain ⟨a1, a2, a3, a4, a5, a6, a7, a8, a9, a10, a11⟩ := h
  have ht : topC (x :: r) = vB x + vH x := rfl
  have hgs := a3.2.2.2.2.2.2.2.1
  have hN := sFr_N hW ⟨hgs.1, hgs.2.1⟩
  have eI : ∀ i, i ∉ kxI → sI S' i = sI Sc i := fun i hi => hK.1.I hi
  have eA : ∀ a, a ∉ kxA → sA S' a = sA Sc a := fun a ha => hK.1.A ha
  have eWI : ∀ i, i ≠ 6151 → sI W i = sI Sr i := hW.2.2.2.2.2.1
  have eWA : ∀ a, a ≠ 91 → a ≠ 104 → a ≠ 104 → sA W a = sA Sr a := hW.2.2.2.2.2.2.1
  have eWL : ∀ a, a ≠ 92 → a ≠ 93 → sL W a = sL Sr a := hW.2.2.2.2.2.2.2.1
  refine ⟨HR_M (sFr_M hW) hN (HR_kill a1 hcl hok hK), ?_, rTb_E a3 hW.1 (fun i _ _ => by rw [hW.2.2.1]) (eWI _ (by decide)), ?_, ?_, ?_, triX_E (C := vAt x (vP x) (vQ x) (vH x - v + 1, vU x, vL x) :: r) a7 (fun a ha => eWA a (fun c => by rw [c] at ha; revert ha; decide) (fun c => by rw [c] at ha; revert ha; decide) (fun c => by rw [c] at ha; revert ha; decide)), lnC_E (C := vAt x (vP x) (vQ x) (vH x - v + 1, vU x, vL x) :: r) a8 (eA 55 (by decide)) (eI 5217 (by decide)) (eWA 98 (by decide) (by decide) (by decide)), ?_, rKp_s a10 a11 hW, a11⟩
  · exact NMw_E a2 (hK.1.2.1 21 (by decide)) (hK.1.2.1 22 (by decide)) (hK.1.2.1 17 (by decide)) (hK.1.2.1 18 (by decide)) hN (eWA g3 (nG_ne hgs.2.2.1 (by omega)) (nG_ne hgs.2.2.1 (by omega)) (nG_ne hgs.2.2.1 (by omega))) (eWL g4 (nG_ne hgs.2.2.2.1 (by omega)) (nG_ne hgs.2.2.2.1 (by omega))) (eWL g5 (nG_ne hgs.2.2.2.2 (by omega)) (nG_ne hgs.2.2.2.2 (by omega)))
  · obtain ⟨b1, b2, b3⟩ := a4
    have eo : offC (x :: r) = mkb x + offC r := rfl
    refine ⟨fun i hi => ?_, fun hd => ?_, stkR_E (n := topC (x :: r) - v) b3 (fun y hy => by have := cCal_lo hcal y hy; omega) e (fun i hi => hW.2.2.2.2.2.2.2.2 i (by omega))⟩
    · have hi' : i < vH x - v + 1 := hi
      show vrel β (sL S' 47 (vB x + i)) (sL S' 48 (vB x + i)) (sA W 91 (vB x + i + offC (x :: r))) (sL W 92 (vB x + i + offC (x :: r))) (sL W 93 (vB x + i + offC (x :: r)))
      by_cases c : i < vH x - v
      · obtain ⟨c1, c2⟩ := e (vB x + i) (by omega)
        obtain ⟨d1, d2, d3⟩ := hW.2.2.2.2.2.2.2.2 (vB x + i + offC (x :: r)) (by omega)
        rw [c1, c2, d1, d2, d3]
        exact b1 i (by omega)
      · rw [show vB x + i = topC (x :: r) - v by omega, e1, e2, ← htp]
        exact hvr
    · have hm : mkb x = 1 := if_neg hd
      obtain ⟨d1, d2, d3⟩ := hW.2.2.2.2.2.2.2.2 (vB x + offC r) (by omega)
      show sA W 91 (vB x + offC r) = _ ∧ sL W 92 (vB x + offC r) = _
      rw [d1, d2]
      exact b2 hd
  · exact rCal_E (C := vAt x (vP x) (vQ x) (vH x - v + 1, vU x, vL x) :: r) a5 (by rw [hW.2.1]) (fun a ha => eWA a (fun c => by rw [c] at ha; revert ha; decide) (fun c => by rw [c] at ha; revert ha; decide) (fun c => by rw [c] at ha; revert ha; decide))
  · obtain ⟨b1, b2, b3⟩ := a6
    refine ⟨?_, by rw [eWI _ (by decide)]; exact b2, by rw [eWI _ (by decide)]; exact b3⟩
    rw [h51, htp]
    congr 1
    show vB x + vH x - v + offC (x :: r) + 1 = vB x + (vH x - v + 1) + offC (x :: r)
    omega
  · obtain ⟨⟨b1, b2⟩, ⟨o, o1, o2, o3, o4⟩, u, u1, u2⟩ := a9
    refine ⟨⟨by rw [eWI _ (by decide), eI 5218 (by decide)]; exact b1, by rw [eWI _ (by decide), eI 5219 (by decide)]; exact b2⟩, ⟨o, o1, by rw [eI 4906 (by decide)]; exact o2, by rw [eWI _ (by decide)]; exact o3, fun i hi => by rw [eWA 106 (by decide) (by decide) (by decide), eA 50 (by decide)]; exact o4 i hi⟩, u, u1, by rw [eWI _ (by decide)]; exact u2⟩
end
