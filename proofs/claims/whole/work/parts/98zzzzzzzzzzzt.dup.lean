/-! THE REFERENCE'S STACK HOLDS A THING ONCE MORE: a new object all the same -/
section
variable {P : Nat → Prop} {T : cS} {gT : Nat} {Q : Nat → Prop} {β β' : Nat → Nat} {F : Nat → Nat → Nat → Prop} {loc par : Nat → Nat → Nat} {ty : Nat → Nat × Nat} {G : Nat → Nat → Nat → Nat × Nat × LL → Prop} {D D' K : List Nat} {z nn g0 g1 g3 g4 g5 gn d d' n m p q q' q1 k e jc o xx v rr t : Nat} {ac : List Value} {tq : Nat → Nat × Nat} {C r : List Lv} {x : Lv} {S S' S1 X W W1 Sc Sr : cS} {hi lo : Int64} {R : cS → Int32 → cS → Prop} {kd : Int32} {e5 e6 : Nat → Nat}
theorem XR_W (h : XR P T gT Q β F D z nn g0 g1 g3 g4 g5 gn tq (x :: r) S Sr) (hcal : cCal S (x :: r)) (hW : sFr (topC (x :: r) + offC (x :: r)) Sr W) (h51 : sI W 6151 = nI (topC (x :: r) + offC (x :: r))) : XR P T gT Q β F D z nn g0 g1 g3 g4 g5 gn tq (x :: r) S W := by
  obtain ⟨a1, a2, a3, a4, a5, a6, a7, a8, a9, a10, a11⟩ := h
  have hgs := a3.2.2.2.2.2.2.2.1
  have hN := sFr_N hW ⟨hgs.1, hgs.2.1⟩
  have eWI : ∀ i, i ≠ 6151 → sI W i = sI Sr i := hW.2.2.2.2.2.1
  have eWA : ∀ a, a ≠ 91 → a ≠ 104 → a ≠ 104 → sA W a = sA Sr a := hW.2.2.2.2.2.2.1
  have eWL : ∀ a, a ≠ 92 → a ≠ 93 → sL W a = sL Sr a := hW.2.2.2.2.2.2.2.1
  refine ⟨HR_M (sFr_M hW) hN a1, ?_, rTb_E a3 hW.1 (fun i _ _ => by rw [hW.2.2.1]) (eWI _ (by decide)), ?_, ?_, ?_, triX_E (C := x :: r) a7 (fun a ha => eWA a (fun c => by rw [c] at ha; revert ha; decide) (fun c => by rw [c] at ha; revert ha; decide) (fun c => by rw [c] at ha; revert ha; decide)), lnC_E (C := x :: r) a8 rfl rfl (eWA 98 (by decide) (by decide) (by decide)), ?_, rKp_s a10 a11 hW, a11⟩
  · exact NMw_E a2 rfl rfl rfl rfl hN (eWA g3 (nG_ne hgs.2.2.1 (by omega)) (nG_ne hgs.2.2.1 (by omega)) (nG_ne hgs.2.2.1 (by omega))) (eWL g4 (nG_ne hgs.2.2.2.1 (by omega)) (nG_ne hgs.2.2.2.1 (by omega))) (eWL g5 (nG_ne hgs.2.2.2.2 (by omega)) (nG_ne hgs.2.2.2.2 (by omega)))
  · refine stkR_E (n := topC (x :: r)) a4 (fun y hy => ?_) (fun i _ => ⟨rfl, rfl⟩) (fun i hi => hW.2.2.2.2.2.2.2.2 i hi)
    rcases List.mem_cons.mp hy with c | c
    · subst c
      exact Nat.le_refl _
    · have := cCal_lo hcal y c
      have : topC (x :: r) = vB x + vH x := rfl
      omega
  · exact rCal_E (C := x :: r) a5 (by rw [hW.2.1]) (fun a ha => eWA a (fun c => by rw [c] at ha; revert ha; decide) (fun c => by rw [c] at ha; revert ha; decide) (fun c => by rw [c] at ha; revert ha; decide))
  · exact ⟨h51, by rw [eWI _ (by decide)]; exact a6.2.1, by rw [eWI _ (by decide)]; exact a6.2.2⟩
  · obtain ⟨⟨b1, b2⟩, ⟨o, o1, o2, o3, o4⟩, u, u1, u2⟩ := a9
    exact ⟨⟨by rw [eWI _ (by decide)]; exact b1, by rw [eWI _ (by decide)]; exact b2⟩, ⟨o, o1, o2, by rw [eWI _ (by decide)]; exact o3, fun i hi => by rw [eWA 106 (by decide) (by decide) (by decide)]; exact o4 i hi⟩, u, u1, by rw [eWI _ (by decide)]; exact u2⟩
theorem wI_slf (S : cS) (i : Nat) : wI i (sI S i) S = S := by
  have e : upd (sI S) i (sI S i) = sI S := funext (fun j => by
    by_cases c : j = i
    · rw [c, pk_us]
    · rw [pk_un c])
  show (upd (sI S) i (sI S i), S.2) = S
  rw [e]
  rfl
theorem mem_seqN {f : Nat → Nat} {y : Nat} {i : Nat} : ∀ {r j : Nat}, j ≤ i → i < j + r → y = f i → y ∈ seqN f j r := by
  intro r
  induction r with
  | zero => intro j h1 h2; omega
  | succ r ih =>
    intro j h1 h2 h3
    by_cases c : i = j
    · rw [h3, c]
      exact List.mem_cons_self
    · exact List.mem_cons_of_mem _ (ih (by omega) (by omega) h3)
theorem wkL_dup (h51 : sI W 6151 = nI (t + 1)) (h1 : 1 ≤ t) (ht : t < 20480) (d1 : sA W 91 t = sA W 91 (t - 1)) (d2 : sL W 92 t = sL W 92 (t - 1)) (y : Nat) : y ∈ wkL W ↔ y ∈ wkL (wI 6151 (nI t) W) := by
  have e1 : gN (nI (t + 1)) = t + 1 := gN_nI (by omega)
  have e2 : gN (nI t) = t := gN_nI (by omega)
  have ea : wkL W = seqN (fun i => r_o (sA W 91 i) (sL W 92 i)) 0 (t + 1) ++ seqN (fun i => r_opt (sA W 96 i)) 0 (gN (sI W 6159)) := by unfold wkL; rw [h51, e1]
  have eb : wkL (wI 6151 (nI t) W) = seqN (fun i => r_o (sA W 91 i) (sL W 92 i)) 0 t ++ seqN (fun i => r_opt (sA W 96 i)) 0 (gN (sI W 6159)) := by
    unfold wkL
    rw [rIe, e2, rI, if_neg (by decide : (6159 : Nat) ≠ 6151)]
    rfl
  rw [ea, eb, List.mem_append, List.mem_append]
  refine or_congr ⟨fun hm => ?_, fun hm => ?_⟩ Iff.rfl
  · obtain ⟨j, j1, j2, j3⟩ := seqN_mem hm
    by_cases c : j = t
    · refine mem_seqN (i := t - 1) (by omega) (by omega) ?_
      rw [j3, c]
      show r_o _ _ = r_o _ _
      rw [d1, d2]
    · exact mem_seqN (i := j) (by omega) (by omega) j3
  · obtain ⟨j, j1, j2, j3⟩ := seqN_mem hm
    exact mem_seqN (i := j) (by omega) (by omega) j3
theorem nm_51 {k : Int32} : nmL (wI 6151 k W) = nmL W := by
  unfold nmL
  rw [rI, if_neg (by decide : (6102 : Nat) ≠ 6151)]
  rfl
theorem dup_root (h : CI F loc par ty G tq (x :: r) S) (hX : XR P T gT Q β F D z nn g0 g1 g3 g4 g5 gn tq (x :: r) S (wI 6151 (nI t) W)) (et : t = topC (x :: r) + offC (x :: r)) (h51 : sI W 6151 = nI (t + 1)) (h1 : 1 ≤ t) (ht : t < 20000) (d1 : sA W 91 t = sA W 91 (t - 1)) (d2 : sL W 92 t = sL W 92 (t - 1)) : RtQ β (nmE S) (fun k => stE (topC (x :: r)) S k + gC (x :: r) k) S W ∧ r_nm W ∧ r_wk W ∧ (∀ g, sV W 6103 = .ref g → g ∉ [87, 89, 90]) ∧ ∀ k, k < 1500 → rRoot W k ≤ 1000000 := by
  obtain ⟨⟨a1, a2⟩, ⟨n1, b3, b4, bn, b5, b6, b7, b8, b9, b10, b11, b12, b13⟩, ⟨sp, c, c1, c2, c3, c4, c5, c6⟩, a5, a6⟩ := XR_root h hX
  have hm := wkL_dup h51 h1 (by omega) d1 d2
  have e5 : sI (wI 6151 (nI t) W) 6102 = sI W 6102 := by rw [rI, if_neg (by decide : (6102 : Nat) ≠ 6151)]
  have e6 : sI (wI 6151 (nI t) W) 6159 = sI W 6159 := by rw [rI, if_neg (by decide : (6159 : Nat) ≠ 6151)]
  rw [e6] at c4
  rw [e5] at b5
  rw [rIe] at c1
  have esp : t = sp := nI_j (by omega) (by omega) c1
  subst esp
  refine ⟨⟨fun o ho => a1 o (by rw [nm_51, ← hm o]; exact ho), fun k hk hp => ?_⟩, ⟨n1, b3, b4, bn, b5, b6, b7, b8, b9, b10, b11, b12, b13⟩, ⟨t + 1, c, h51, by omega, fun i hi => ?_, c4, c5, c6⟩, a5, fun k hk => ?_⟩
  · rcases a2 k hk hp with q1 | q1
    · rw [nm_51] at q1
      exact Or.inl q1
    · exact Or.inr ((hm _).mpr q1)
  · by_cases c' : i = t
    · rw [c', d1, d2]
      exact c3 (t - 1) (by omega)
    · exact c3 i (by omega)
  · have h1 := List.count_le_length (a := k + 1) (l := nmL W)
    have h2 := List.count_le_length (a := k + 1) (l := wkL W)
    have hnn := (XN_of hX).2.2
    have hn1 : n1 = nn := nI_j (by omega) (by omega) (b5.symm.trans (e5.symm.trans hX.2.2.1.1))
    have g1 : (nmL W).length = n1 := by unfold nmL; rw [seqN_len, b5, gN_nI (by omega)]
    have g2 : (wkL W).length = t + 1 + c := by unfold wkL; rw [List.length_append, seqN_len, seqN_len, h51, c4, gN_nI (by omega), gN_nI (by omega)]
    unfold rRoot
    omega
theorem hpF_51 {k : Int32} (h : hpF Q S W) : hpF Q (wI 6151 k S) (wI 6151 k W) := by
  obtain ⟨w1, w2, w3, w4, w5, w6, w7, w8, w9, w10⟩ := h
  refine ⟨w1, w2, w3, fun i h1 h2 => ?_, w5, w6, w7, fun m zm hm hs j hj => ?_, w9, w10⟩
  · by_cases c : i = 6151
    · subst c
      rw [rIe, rIe]
    · rw [rI, if_neg c, rI, if_neg c]
      exact w4 i h1 h2
  · have e : 100 * m + j ≠ 6151 := by omega
    rw [rI, if_neg e, rI, if_neg e]
    exact w8 m zm hm hs j hj
theorem HR_51 {k : Int32} (h : HR Q β F D S W g0 g1 nn) (hg : nG g0 ∧ nG g1) : HR Q β F D S (wI 6151 k W) g0 g1 nn := HR_M (sFr_M (tp := 0) (sFr_I ⟨rfl, rfl, rfl, rfl, rfl, fun _ _ => rfl, fun _ _ _ _ => rfl, fun _ _ _ => rfl, fun _ _ => ⟨rfl, rfl, rfl⟩⟩)) (sFr_N (tp := 0) (sFr_I ⟨rfl, rfl, rfl, rfl, rfl, fun _ _ => rfl, fun _ _ _ _ => rfl, fun _ _ _ => rfl, fun _ _ => ⟨rfl, rfl, rfl⟩⟩) hg) h
/-- a new object of the reference, its stack one higher -/
theorem new_D (h : CI F loc par ty G tq (x :: r) S) (hX : XR P T gT Q β F D z nn g0 g1 g3 g4 g5 gn tq (x :: r) S Sr) (hW : sFr (topC (x :: r) + offC (x :: r)) Sr W) (h51 : sI W 6151 = nI (topC (x :: r) + offC (x :: r) + 1)) (h1 : 1 ≤ vH x) (d1 : sA W 91 (topC (x :: r) + offC (x :: r)) = sA W 91 (topC (x :: r) + offC (x :: r) - 1)) (d2 : sL W 92 (topC (x :: r) + offC (x :: r)) = sL W 92 (topC (x :: r) + offC (x :: r) - 1)) (hl : lob (vL x) ≤ vH x) : (nLive S = 1500 → ∃ S1 D', Ans (d + 10) 364 [.ref 61, .int kd] W (some (.int (Int32.ofInt (-1)))) (wI 6164 (nI 8) S1) ∧ XRe P T gT Q β F D' z nn g0 g1 g3 g4 g5 gn tq x r S (wI 6164 (nI 8) S1)) ∧ (nLive S < 1500 → ∃ r0 t S1 D', r0 < 1500 ∧ sA S1 87 r0 = 0 ∧ sQ S1 86 r0 = some t ∧ tOk S1 r0 t ∧ XR P T gT Q β F D' z nn g0 g1 g3 g4 g5 gn tq (x :: r) S (wI 6151 (nI (topC (x :: r) + offC (x :: r))) S1) ∧ sI S1 6151 = nI (topC (x :: r) + offC (x :: r) + 1) ∧ Ans (d + 10) 364 [.ref 61, .int kd] W (some (.int (nI r0))) (rsT r0 t kd S1) ∧ (∀ p s, sQ Sr 86 p = some s → sQ S1 86 p = some s) ∧ ∃ l, sS S1 = sS Sr ++ l) := by
  obtain ⟨l1, l2, l3, l4, l5⟩ := CI_len h
  have hT := CI_T h
  have ho := offC_le (C := x :: r)
  have hcal : cCal S (x :: r) := h.2.2.2.2.1
  have hXt := XR_W hX hcal (sFr_I (n := nI (topC (x :: r) + offC (x :: r))) hW) (rIe _ _ _)
  obtain ⟨r1, r2, r3, r4, r5⟩ := dup_root h hXt rfl h51 (by omega) (by omega) d1 d2
  obtain ⟨_, _, u, u1, u2⟩ := hXt.2.2.2.2.2.2.2.2.1
  have u2' : sI W 6147 = nI u := by
    rw [← u2, rI, if_neg (by decide : (6147 : Nat) ≠ 6151)]
  have hg := hX.2.2.1.2.2.2.2.2.2.2.1
  have hm := h.1
  have hRW : HR Q β F D S W g0 g1 nn := HR_M (sFr_M hW) (sFr_N hW ⟨hg.1, hg.2.1⟩) hX.1
  have e47 : ∀ {S1}, (∃ u', u' < 1500 ∧ sI S1 6147 = nI u') → ∃ u', u' < 1500 ∧ sI (wI 6151 (nI (topC (x :: r) + offC (x :: r))) S1) 6147 = nI u' := fun {S1} ⟨u', p1, p2⟩ => ⟨u', p1, by rw [rI, if_neg (by decide : (6147 : Nat) ≠ 6151)]; exact p2⟩
  rcases fresh_T (d := d) (kd := kd) hRW hm.1 (fun k hk => by have := hm.2.1 k hk (by have := hk.1; omega); omega) r1 r2 r3 r4 r5 u1 u2' with ⟨n1, S1, D', b1, b2, b3, b4⟩ | ⟨n1, r0, t, S1, D', b1, b2, b3, b4, b5, b6, b7, b8⟩
  · refine ⟨fun _ => ⟨S1, D', b1, ?_⟩, fun c => by omega⟩
    have hX1 := XR_hp hXt (HR_51 b2 ⟨hg.1, hg.2.1⟩) (hpF_51 b3) (e47 b4)
    have e51 : sI S1 6151 = nI (topC (x :: r) + offC (x :: r) + 1) := (b3.2.2.2.1 6151 (by omega) (by omega)).trans h51
    have : S1 = wI 6151 (nI (topC (x :: r) + offC (x :: r) + 1)) (wI 6151 (nI (topC (x :: r) + offC (x :: r))) S1) := by
      rw [wI_wI, ← e51]
      exact (wI_slf S1 6151).symm
    have hE := XRe_W hX1 hcal hl (sFr_I (n := nI (topC (x :: r) + offC (x :: r) + 1)) ⟨rfl, rfl, rfl, rfl, rfl, fun _ _ => rfl, fun _ _ _ _ => rfl, fun _ _ _ => rfl, fun _ _ => ⟨rfl, rfl, rfl⟩⟩)
    rw [← this] at hE
    exact XRe_I hE (Or.inl rfl)
  · exact ⟨fun c => by omega, fun _ => ⟨r0, t, S1, D', b1, b2, b3, b4, XR_hp hXt (HR_51 b5 ⟨hg.1, hg.2.1⟩) (hpF_51 b6) (e47 b7), (b6.2.2.2.1 6151 (by omega) (by omega)).trans h51, b8, fun p s hp => b6.2.1.2 p s (by rw [hW.2.1]; exact hp), by rw [← hW.1]; exact b6.2.2.1⟩⟩
end
