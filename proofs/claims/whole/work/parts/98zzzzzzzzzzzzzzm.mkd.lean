/-! CALLS OF CLASSES: what the reference does with init (397 from 58) -/
/-- lv by another name (lv is a row of locals below) -/
abbrev lvO (S : cS) (k : Nat) : Prop := lv S k
section
variable {Q : Nat → Prop} {β : Nat → Nat} {F : Nat → Nat → Nat → Prop} {D : List Nat} {z nn g0 g1 g3 g4 g5 hh o id ba gv r0 rr t d : Nat} {X W V0 V1 : cS} {lv : sm_L}
theorem mkR_2 (hX : XN Q β F D z nn g0 g1 g3 g4 g5 X V1) (hol : o = 0 ∨ lvO X o) (hk7 : h_kd X o ≤ 7) (hk3 : sA X 3 o = nI (h_kd X o)) (hid : β id < 1500) (hgv : gv < 2 ^ 20) (hr0 : r0 < 1500) (hba : ba + 1 < 20480) (hrr : rr < 2 ^ 20) (hW : sI W 6151 = nI t) (ht : t < 20480) (hV : V0 = wI 6151 (nI (t + 1)) (wL 92 (ba + 1) (nI r0).toInt64 (wA 91 (ba + 1) (nI 3) W))) (c1 : Ans (d + 13) 294 [.ref 61, .ref 105, .int (nI 0), .int (nI 4)] V0 (some (.int (nI rr))) V1) (h92 : (sL V1 92 ba).toInt32 = nI (β id)) (hc : hh = 0 → o = 0) (c2 : Ans (d + 13) 398 [.ref 61, .int (nI (β id)), .int (nI rr)] V1 (some (.int (lkI β hh))) V1) (hl : hh ≠ 0 → β hh < 1500 ∧ ∃ e t v2 v3 v4 v5 v6 v7 n m ev, tRef V1 (β hh) t v2 v3 v4 v5 v6 v7 n m ∧ e < n ∧ Ans (d + 13) 399 [.ref t, .int (nI 0), .long ((nI rr).toInt64), .long 0] V1 (some (.int (nI e))) V1 ∧ ev ≤ 4 ∧ sA V1 v2 e = nI ev ∧ ((ev ≠ 3 ∧ o = 0) ∨ (ev = 3 ∧ o ≠ 0 ∧ sL V1 v4 e = lN (β o)))) (q0 : sm_get lv 0 = some (.ref 61)) (q1 : sm_get lv 1 = some (.int (nI ba))) (q2 : sm_get lv 2 = some (.int (nI gv))) (q3 : sm_get lv 3 = some (.int (nI r0))) : ((o = 0 ∨ h_kd X o ≠ 3) → gv = 0 → ∀ V2, Ans (d + 13) 391 [.ref 61, .int (nI (ba + 1)), .int (nI ba)] V1 none V2 → Bod (d + 13) 397 58 lv [] W (some (.int 1)) (wI 6151 (nI (ba + 1)) V2)) ∧ ((o = 0 ∨ h_kd X o ≠ 3) → 0 < gv → Bod (d + 13) 397 58 lv [] W (some (.int 0)) (wI 6164 (nI 2) V1)) ∧ (o ≠ 0 → h_kd X o = 3 → ∀ (b : Nat) W', b = 0 ∨ b = 1 → Ans (d + 13) 396 [.ref 61, .int (nI (β o)), .int (nI ba), .int (nI gv), .int (nI r0), .int (nI 1)] V1 (some (.int (nI b))) W' → Bod (d + 13) 397 58 lv [] W (some (.int (nI b))) W') := by
  have ht' : sI (wL 92 (ba + 1) ((nI r0).toInt64) (wA 91 (ba + 1) (nI 3) W)) 6151 = nI t := hW
  rw [hV] at c1
  have hfail : Ans (d + 13) 351 [.ref 61, .int (nI 2)] V1 (some (.int (nI 0))) (wI 6164 (nI 2) V1) := rfail_T (d := d + 4) 2 (by omega) V1
  by_cases c0 : hh = 0
  · have ho := hc c0
    have el : lkI β hh = Int32.ofInt (-1) := if_pos c0
    rw [el] at c2
    refine ⟨fun _ g V2 a4 => ?_, fun _ g => ?_, fun c => absurd ho c⟩
    · exact rMkB_7 (d := d + 5) q0 q1 q2 q3 (by omega) hgv (by omega) (by omega) ht' (by omega) hrr c1 (by omega) h92 hid c2 (by omega) a4
    · exact rMkB_8 (d := d + 5) q0 q1 q2 q3 (by omega) hgv (by omega) (by omega) ht' (by omega) hrr c1 (by omega) h92 hid c2 g hfail
  · have el : lkI β hh = nI (β hh) := if_neg c0
    rw [el] at c2
    obtain ⟨bh, e, g, v2, v3, v4, v5, v6, v7, n, m, ev, tR, he, c3, ev4, eA, hor⟩ := hl c0
    obtain ⟨d1, d2, ⟨N, d3⟩, e2, e3, e4, _, _, _, k2, k3, k4, _, _, _, n20, _⟩ := tR
    have he20 : e < 2 ^ 20 := by omega
    rcases hor with ⟨u1, u2⟩ | ⟨u1, u2, u3⟩
    · refine ⟨fun _ gg V2 a4 => ?_, fun _ gg => ?_, fun c => absurd u2 c⟩
      · exact rMkB_1 (d := d + 5) q0 q1 q2 q3 (by omega) hgv (by omega) (by omega) ht' (by omega) hrr c1 (by omega) h92 hid bh c2 d2 d1 he20 c3 d3 d2 d1 d3 e2 k2 n20 he eA (by omega) u1 (by omega) a4
      · exact rMkB_2 (d := d + 5) q0 q1 q2 q3 (by omega) hgv (by omega) (by omega) ht' (by omega) hrr c1 (by omega) h92 hid bh c2 d2 d1 he20 c3 d3 d2 d1 d3 e2 k2 n20 he eA (by omega) u1 gg hfail
    · have hlo := hol.resolve_left u2
      obtain ⟨t', _, _, _, _, _, _, _, _, bo, t1, _, t108, ⟨N', tS⟩, _, _, _, _, f0, _⟩ := HR_o hX.1 hlo
      have hv4 : (sL V1 v4 e).toInt32 = nI (β o) := by rw [u3]; exact lN_i _
      have hok := hX.1.ob hlo
      have hk20 : h_kd X o < 2 ^ 20 := by omega
      have f0' : sI V1 (100 * t' + 0) = nI (h_kd X o) := by
        rw [f0]
        exact hk3
      refine ⟨fun c gg V2 a4 => ?_, fun c gg => ?_, fun _ c3' b W' hb a4 => ?_⟩
      · exact rMkB_3 (d := d + 5) q0 q1 q2 q3 (by omega) hgv (by omega) (by omega) ht' (by omega) hrr c1 (by omega) h92 hid bh c2 d2 d1 he20 c3 d3 d2 d1 d3 e2 k2 n20 he eA (by omega) u1 e4 k4 n20 he hv4 bo t108 t1 tS f0' hk20 (c.resolve_left u2) (by omega) a4
      · exact rMkB_4 (d := d + 5) q0 q1 q2 q3 (by omega) hgv (by omega) (by omega) ht' (by omega) hrr c1 (by omega) h92 hid bh c2 d2 d1 he20 c3 d3 d2 d1 d3 e2 k2 n20 he eA (by omega) u1 e4 k4 n20 he hv4 bo t108 t1 tS f0' hk20 (c.resolve_left u2) gg hfail
      · rcases hb with b0 | b0
        · subst b0
          exact rMkB_6 (d := d + 5) q0 q1 q2 q3 (by omega) hgv (by omega) (by omega) ht' (by omega) hrr c1 (by omega) h92 hid bh c2 d2 d1 he20 c3 d3 d2 d1 d3 e2 k2 n20 he eA (by omega) u1 e4 k4 n20 he hv4 bo t108 t1 tS f0' hk20 c3' a4
        · subst b0
          exact rMkB_5 (d := d + 5) q0 q1 q2 q3 (by omega) hgv (by omega) (by omega) ht' (by omega) hrr c1 (by omega) h92 hid bh c2 d2 d1 he20 c3 d3 d2 d1 d3 e2 k2 n20 he eA (by omega) u1 e4 k4 n20 he hv4 bo t108 t1 tS f0' hk20 c3' a4
end
