/-! CALLS OF CLASSES: both sides, when there is room: what each case makes of it -/
section
variable {F : Nat → Nat → Nat → Prop} {loc par : Nat → Nat → Nat} {ty : Nat → Nat × Nat} {G : Nat → Nat → Nat → Nat × Nat × LL → Prop} {d i s gv id : Nat} {tq : Nat → Nat × Nat} {r : List Lv} {x : Lv} {S : cS} {l' : List (Nat × Nat)}
/-- the class's four ends -/
def mkEC (d id gv k o : Nat) (S X : cS) : Prop := (h_kd X o = 3 → ∀ S', Ans (d + 13) 254 [.ref 52, .int (nI o), .int (nI gv), .int (nI k), .int (nI k)] X (some (.int (nI 0))) S' → Ans (d + 14) 265 [.ref 52, .int (nI id), .int (nI gv)] S (some (.int (nI 0))) S') ∧ (h_kd X o = 3 → ∀ e X2 S', 1 ≤ e ∧ e ≤ 100 → Ans (d + 13) 254 [.ref 52, .int (nI o), .int (nI gv), .int (nI k), .int (nI k)] X (some (.int (nI e))) X2 → Ans (d + 13) 142 [.ref 2, .ref 6, .int (nI k)] X2 none S' → Ans (d + 14) 265 [.ref 52, .int (nI id), .int (nI gv)] S (some (.int (nI e))) S') ∧ (h_kd X o ≠ 3 → gv ≠ 0 → ∀ S', Ans (d + 13) 142 [.ref 2, .ref 6, .int (nI k)] X none S' → Ans (d + 14) 265 [.ref 52, .int (nI id), .int (nI gv)] S (some (.int (nI 2))) S') ∧ (h_kd X o ≠ 3 → gv = 0 → ∀ X2 S', Ans (d + 13) 148 [.ref 46, .int (nI 1), .long 4611686018427387904, .long (lN k)] X (some (.int (nI 0))) X2 → Ans (d + 13) 142 [.ref 2, .ref 6, .int (nI k)] X2 none S' → Ans (d + 14) 265 [.ref 52, .int (nI id), .int (nI gv)] S (some (.int (nI 0))) S')
/-- the reference's three -/
def mkER (d ba gv r0 bo : Nat) (fn : Prop) (Sr V1 : cS) : Prop := (¬ fn → gv = 0 → ∀ V2, Ans (d + 13) 391 [.ref 61, .int (nI (ba + 1)), .int (nI ba)] V1 none V2 → Ans (d + 14) 397 [.ref 61, .int (nI ba), .int (nI gv)] Sr (some (.int 1)) (wI 6151 (nI (ba + 1)) V2)) ∧ (¬ fn → 0 < gv → Ans (d + 14) 397 [.ref 61, .int (nI ba), .int (nI gv)] Sr (some (.int 0)) (wI 6164 (nI 2) V1)) ∧ (fn → ∀ (b : Nat) W', b = 0 ∨ b = 1 → Ans (d + 13) 396 [.ref 61, .int (nI bo), .int (nI ba), .int (nI gv), .int (nI r0), .int (nI 1)] V1 (some (.int (nI b))) W' → Ans (d + 14) 397 [.ref 61, .int (nI ba), .int (nI gv)] Sr (some (.int (nI b))) W')
theorem make_M (h : CI F loc par ty G tq (x :: r) S) (hf : nLive S < 1500) (hx : vL x = ((i, 1) :: l', s)) (hi : vH x = i + 1 + gv) (h6 : vH x + 1 ≤ 600) (hid : lv S id) (k4 : sA S 3 id = nI 4) (hcv : sL S 47 (vB x + i) = 4611686018427387904 ∧ sL S 48 (vB x + i) = lN id) (hW : c_is S (e_H iniB 4) (e_L iniB 4) 34) : ∃ k X o, nbX k (fun q => gC (x :: r) q + dl k q) (topC (x :: r)) S X ∧ CIg 0 (fun q => gC (x :: r) q + dl k q) F loc par ty G tq (x :: r) X ∧ (lv X k ∧ sA X 3 k = nI 5) ∧ (o = 0 ∨ lv X o) ∧ (h_kd X o = 3 → o ≠ 0) ∧ mkEC d id gv k o S X ∧ ∀ P T gT Q β D z nn g0 g1 g3 g4 g5 gn Sr, XR P T gT Q β F D z nn g0 g1 g3 g4 g5 gn tq (x :: r) S Sr → 35 ≤ z → P 105 → (∀ j, j < 4 → sA T 105 j = nI (iniB j)) → gn < 2 ^ 15 → ∃ β' D' V1 Q' nn' h0 h1 h3 h4 h5 hn, (∀ j, j ≠ k → β' j = β j) ∧ XR P T gT Q' β' F D' z nn' h0 h1 h3 h4 h5 hn tq (vAt x (vP x) (vQ x) (vH x + 1, vU x, vL x) :: r) (gst (vB x + i + 1) (topC (x :: r)) k X) V1 ∧ mkER d (vB x + i + offC (x :: r)) gv (β' k) (β' o) (h_kd X o = 3) Sr V1 := by
  rcases inst_B (d := d + 11) (dr := d + 3) h hid k4 with ⟨c, _⟩ | ⟨_, k, X0, X1, X, b1, A1, A2, n2, ⟨e3, e7, e8, e9, e10⟩, hC0, href⟩
  · omega
  · have hk := nbX_lk n2
    have hkl : lv X k := (n2.2.2.2.2.1 k).mpr (Or.inr rfl)
    have hidX : lv X id ∧ sA X 3 id = nI 4 := ⟨(n2.2.2.2.2.1 id).mpr (Or.inl hid), by rw [(n2.2.2.2.2.2.1 id hid).1]; exact k4⟩
    have eL : ∀ a, a < 108 → sL X a = sL S a := n2.2.2.2.2.2.2.1
    have hok := mHS_ok hC0.1
    obtain ⟨hh, o, hi', lo', ⟨p1, p2, p3⟩, p4, p5, ⟨rb, c1, c2, c3, c4⟩, hL⟩ := init_L (d := d) (q := 34) (mHS_cl hC0.1) (fun c hc => hok c hc.1 hc.2.1) (fun c hc => hC0.2.2.2.1 c hc) (by omega) hidX.1 hidX.2
    have hG := CI_gst (gv := gv) hC0 hx hi h6 hkl (vP x) (vQ x)
    have z0 : sA X 3 0 = 0 := by
      have := CI_z0 hG
      exact this
    have hkk : h_kd X o ≤ 7 ∧ sA X 3 o = nI (h_kd X o) ∧ Ans (d + 13) 138 [.ref 2, .int (nI o)] X (some (.int (nI (h_kd X o)))) X := by
      rcases p3 with c | c
      · subst c
        have e : h_kd X 0 = 0 := by unfold h_kd; rw [z0]; rfl
        rw [e]
        exact ⟨by omega, z0, kindAt_0 (d := d + 11)⟩
      · obtain ⟨kd, _, _, _, w1, w2, _⟩ := hok o c.1 c.2.1
        have e : h_kd X o = kd := kd_of w2 (by omega)
        have hA := kindAt_T (d := d + 11) (S := X) c.1 c.2.1
        rw [w2] at hA
        rw [e]
        exact ⟨w1, w2, hA⟩
    have hid15 := hid.2.1
    have hb600 : vH x ≤ 600 := by omega
    have h3o : h_kd X o = 3 → o ≠ 0 := fun c c0 => by
      have e : h_kd X o = 0 := by rw [c0]; unfold h_kd; rw [z0]; rfl
      omega
    refine ⟨k, X, o, n2, hC0, ⟨hkl, e3⟩, p3, h3o, mkC_0 (d := d) (by omega) (by omega) ⟨hk.1, hk.2.1⟩ p4 p1 hkk.2.2 hkk.1 b1 A1 A2 c1 c2 c3 c4, fun P T gT Q β D z nn g0 g1 g3 g4 g5 gn Sr hX h35 hP h105 hgn => ?_⟩
    obtain ⟨β', D', r0, s', S1, eb, r1, eo, A364, q1, s108, hsN, hXS1, eLr, hX2⟩ := href P T gT Q β D z nn g0 g1 g3 g4 g5 gn Sr hX
    have hne : id ≠ k := fun c => n2.2.2.2.1 (c ▸ hid)
    rw [← eo id hne] at hX2
    have e105 : ∀ j, j < 4 → sA (rsT r0 s' (nI 5) S1) 105 j = nI (iniB j) := fun j hj => by
      have e : sA (wI (100 * s' + 11) (nI (β' id)) (rsT r0 s' (nI 5) S1)) 105 = sA T 105 := (hX2.2.2.2.2.2.2.2.2.2.1.2.2.2.2.1 105 hP).1
      have e2 : sA (rsT r0 s' (nI 5) S1) 105 = sA T 105 := e
      rw [e2]
      exact h105 j hj
    obtain ⟨V1, Q', nn', h0, h1, h3, h4, h5, hn, hXV, m1, m2, m3⟩ := mkR_A (d := d) (id := id) (hh := hh) (o := o) hC0 hX2 hi ⟨hk.1, hk.2.1⟩ eb r1 hidX.1 ⟨by rw [eL 47 (by omega)]; exact hcv.1, by rw [eL 48 (by omega)]; exact hcv.2⟩ A364 q1 s108 hsN e105 hgn h35 ⟨by rw [eL 17 (by omega)]; exact hW.1, by rw [eL 18 (by omega)]; exact hW.2⟩ p3 hkk.1 hkk.2.1 p5 hL
    exact ⟨β', D', V1, Q', nn', h0, h1, h3, h4, h5, hn, eo, hXV, fun c g V2 a => m1 (Or.inr c) g V2 a, fun c g => m2 (Or.inr c) g, fun c b W' hb a => m3 (h3o c) c b W' hb (by rw [eb] at a; exact a)⟩
end
