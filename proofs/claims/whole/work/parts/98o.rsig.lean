/-! ANY SIGN of the reference's line -/
def LG9 (lv : sm_L) (e l bl p : Nat) (x : Int32) (st : Nat) (dd : Int32) : Prop := LG8 lv e l bl p x st ∧ sm_get lv 9 = some (.int dd)
def rSg (d e l bl p st t : Nat) (x dd : Int32) (S : cS) (K : Nat) : Prop := ∃ vl, (6 ≤ K → vl = nI (rsg K)) ∧ ∀ (Sf : cS) (v : Option Value), (∀ lv1, LG6 lv1 e l bl (if 22 ≤ K then p + 2 else p + 1) → Bod (d + 8) 288 3 lv1 [] (wI 6112 (nI (t + 1)) (wA 70 t (nI bl) (wA 69 t (nI l) (wA 68 t vl (wA 67 t (nI (rkd K)) S))))) v Sf) → ∀ lv, LG9 lv e l bl p x st dd → Bod (d + 8) 288 476 lv [] S v Sf
theorem tk_sg_n {b c : Nat} (h : c ≠ 61) (h2 : ¬ (b = 47 ∧ c = 47)) : tk_sg b c = c_signOne b := by
  unfold tk_sg
  rw [if_neg h2, if_neg (fun c => h c.1)]
section
variable {d e l bl p st t : Nat} {dd : Int32} {S : cS}

theorem sg_33_61 (heM : e ≤ 3000) (hp : p ≤ e) (ht : sI S 6112 = nI t) (htM : t < 6002) : rSg d e l bl p st t (nI 33) (nI 61) S 27 := ⟨nI 8509, fun _ => rfl, fun Sf v hB lv h => rs_33_61 (x := nI 0) heM hp h.1.1.1 h.1.1.2.1 h.1.1.2.2.1 h.1.1.2.2.2.1 h.1.1.2.2.2.2.1 h.1.1.2.2.2.2.2 h.1.2.1 h.1.2.2 h.2 ht htM (fun lv1 a0 a1 a3 a4 a5 a6 => hB lv1 ⟨a0, a1, a3, a4, a5, a6⟩)⟩
theorem sg_33_n (heM : e ≤ 3000) (hp : p ≤ e) (ht : sI S 6112 = nI t) (htM : t < 6002) (n61 : dd ≠ nI 61) : rSg d e l bl p st t (nI 33) (dd) S 0 := ⟨nI 33, fun _ => (by omega), fun Sf v hB lv h => rs_33_n (x := nI 0) heM hp h.1.1.1 h.1.1.2.1 h.1.1.2.2.1 h.1.1.2.2.2.1 h.1.1.2.2.2.2.1 h.1.1.2.2.2.2.2 h.1.2.1 h.1.2.2 h.2 n61 ht htM (fun lv1 a0 a1 a3 a4 a5 a6 => hB lv1 ⟨a0, a1, a3, a4, a5, a6⟩)⟩
theorem sg_37_61 (heM : e ≤ 3000) (hp : p ≤ e) (ht : sI S 6112 = nI t) (htM : t < 6002) : rSg d e l bl p st t (nI 37) (nI 61) S 18 := ⟨nI 37, fun _ => rfl, fun Sf v hB lv h => rs_37_61 (x := nI 0) heM hp h.1.1.1 h.1.1.2.1 h.1.1.2.2.1 h.1.1.2.2.2.1 h.1.1.2.2.2.2.1 h.1.1.2.2.2.2.2 h.1.2.1 h.1.2.2 h.2 ht htM (fun lv1 a0 a1 a3 a4 a5 a6 => hB lv1 ⟨a0, a1, a3, a4, a5, a6⟩)⟩
theorem sg_37_n (heM : e ≤ 3000) (hp : p ≤ e) (ht : sI S 6112 = nI t) (htM : t < 6002) (n61 : dd ≠ nI 61) : rSg d e l bl p st t (nI 37) (dd) S 18 := ⟨nI 37, fun _ => rfl, fun Sf v hB lv h => rs_37_n (x := nI 0) heM hp h.1.1.1 h.1.1.2.1 h.1.1.2.2.1 h.1.1.2.2.2.1 h.1.1.2.2.2.2.1 h.1.1.2.2.2.2.2 h.1.2.1 h.1.2.2 h.2 n61 ht htM (fun lv1 a0 a1 a3 a4 a5 a6 => hB lv1 ⟨a0, a1, a3, a4, a5, a6⟩)⟩
theorem sg_40_61 (heM : e ≤ 3000) (hp : p ≤ e) (ht : sI S 6112 = nI t) (htM : t < 6002) : rSg d e l bl p st t (nI 40) (nI 61) S 6 := ⟨nI 40, fun _ => rfl, fun Sf v hB lv h => rs_40_61 (x := nI 0) heM hp h.1.1.1 h.1.1.2.1 h.1.1.2.2.1 h.1.1.2.2.2.1 h.1.1.2.2.2.2.1 h.1.1.2.2.2.2.2 h.1.2.1 h.1.2.2 h.2 ht htM (fun lv1 a0 a1 a3 a4 a5 a6 => hB lv1 ⟨a0, a1, a3, a4, a5, a6⟩)⟩
theorem sg_40_n (heM : e ≤ 3000) (hp : p ≤ e) (ht : sI S 6112 = nI t) (htM : t < 6002) (n61 : dd ≠ nI 61) : rSg d e l bl p st t (nI 40) (dd) S 6 := ⟨nI 40, fun _ => rfl, fun Sf v hB lv h => rs_40_n (x := nI 0) heM hp h.1.1.1 h.1.1.2.1 h.1.1.2.2.1 h.1.1.2.2.2.1 h.1.1.2.2.2.2.1 h.1.1.2.2.2.2.2 h.1.2.1 h.1.2.2 h.2 n61 ht htM (fun lv1 a0 a1 a3 a4 a5 a6 => hB lv1 ⟨a0, a1, a3, a4, a5, a6⟩)⟩
theorem sg_41_61 (heM : e ≤ 3000) (hp : p ≤ e) (ht : sI S 6112 = nI t) (htM : t < 6002) : rSg d e l bl p st t (nI 41) (nI 61) S 7 := ⟨nI 41, fun _ => rfl, fun Sf v hB lv h => rs_41_61 (x := nI 0) heM hp h.1.1.1 h.1.1.2.1 h.1.1.2.2.1 h.1.1.2.2.2.1 h.1.1.2.2.2.2.1 h.1.1.2.2.2.2.2 h.1.2.1 h.1.2.2 h.2 ht htM (fun lv1 a0 a1 a3 a4 a5 a6 => hB lv1 ⟨a0, a1, a3, a4, a5, a6⟩)⟩
theorem sg_41_n (heM : e ≤ 3000) (hp : p ≤ e) (ht : sI S 6112 = nI t) (htM : t < 6002) (n61 : dd ≠ nI 61) : rSg d e l bl p st t (nI 41) (dd) S 7 := ⟨nI 41, fun _ => rfl, fun Sf v hB lv h => rs_41_n (x := nI 0) heM hp h.1.1.1 h.1.1.2.1 h.1.1.2.2.1 h.1.1.2.2.2.1 h.1.1.2.2.2.2.1 h.1.1.2.2.2.2.2 h.1.2.1 h.1.2.2 h.2 n61 ht htM (fun lv1 a0 a1 a3 a4 a5 a6 => hB lv1 ⟨a0, a1, a3, a4, a5, a6⟩)⟩
theorem sg_42_61 (heM : e ≤ 3000) (hp : p ≤ e) (ht : sI S 6112 = nI t) (htM : t < 6002) : rSg d e l bl p st t (nI 42) (nI 61) S 25 := ⟨nI 10813, fun _ => rfl, fun Sf v hB lv h => rs_42_61 (x := nI 0) heM hp h.1.1.1 h.1.1.2.1 h.1.1.2.2.1 h.1.1.2.2.2.1 h.1.1.2.2.2.2.1 h.1.1.2.2.2.2.2 h.1.2.1 h.1.2.2 h.2 ht htM (fun lv1 a0 a1 a3 a4 a5 a6 => hB lv1 ⟨a0, a1, a3, a4, a5, a6⟩)⟩
theorem sg_42_n (heM : e ≤ 3000) (hp : p ≤ e) (ht : sI S 6112 = nI t) (htM : t < 6002) (n61 : dd ≠ nI 61) : rSg d e l bl p st t (nI 42) (dd) S 17 := ⟨nI 42, fun _ => rfl, fun Sf v hB lv h => rs_42_n (x := nI 0) heM hp h.1.1.1 h.1.1.2.1 h.1.1.2.2.1 h.1.1.2.2.2.1 h.1.1.2.2.2.2.1 h.1.1.2.2.2.2.2 h.1.2.1 h.1.2.2 h.2 n61 ht htM (fun lv1 a0 a1 a3 a4 a5 a6 => hB lv1 ⟨a0, a1, a3, a4, a5, a6⟩)⟩
theorem sg_43_61 (heM : e ≤ 3000) (hp : p ≤ e) (ht : sI S 6112 = nI t) (htM : t < 6002) : rSg d e l bl p st t (nI 43) (nI 61) S 23 := ⟨nI 11069, fun _ => rfl, fun Sf v hB lv h => rs_43_61 (x := nI 0) heM hp h.1.1.1 h.1.1.2.1 h.1.1.2.2.1 h.1.1.2.2.2.1 h.1.1.2.2.2.2.1 h.1.1.2.2.2.2.2 h.1.2.1 h.1.2.2 h.2 ht htM (fun lv1 a0 a1 a3 a4 a5 a6 => hB lv1 ⟨a0, a1, a3, a4, a5, a6⟩)⟩
theorem sg_43_n (heM : e ≤ 3000) (hp : p ≤ e) (ht : sI S 6112 = nI t) (htM : t < 6002) (n61 : dd ≠ nI 61) : rSg d e l bl p st t (nI 43) (dd) S 15 := ⟨nI 43, fun _ => rfl, fun Sf v hB lv h => rs_43_n (x := nI 0) heM hp h.1.1.1 h.1.1.2.1 h.1.1.2.2.1 h.1.1.2.2.2.1 h.1.1.2.2.2.2.1 h.1.1.2.2.2.2.2 h.1.2.1 h.1.2.2 h.2 n61 ht htM (fun lv1 a0 a1 a3 a4 a5 a6 => hB lv1 ⟨a0, a1, a3, a4, a5, a6⟩)⟩
theorem sg_44_61 (heM : e ≤ 3000) (hp : p ≤ e) (ht : sI S 6112 = nI t) (htM : t < 6002) : rSg d e l bl p st t (nI 44) (nI 61) S 12 := ⟨nI 44, fun _ => rfl, fun Sf v hB lv h => rs_44_61 (x := nI 0) heM hp h.1.1.1 h.1.1.2.1 h.1.1.2.2.1 h.1.1.2.2.2.1 h.1.1.2.2.2.2.1 h.1.1.2.2.2.2.2 h.1.2.1 h.1.2.2 h.2 ht htM (fun lv1 a0 a1 a3 a4 a5 a6 => hB lv1 ⟨a0, a1, a3, a4, a5, a6⟩)⟩
theorem sg_44_n (heM : e ≤ 3000) (hp : p ≤ e) (ht : sI S 6112 = nI t) (htM : t < 6002) (n61 : dd ≠ nI 61) : rSg d e l bl p st t (nI 44) (dd) S 12 := ⟨nI 44, fun _ => rfl, fun Sf v hB lv h => rs_44_n (x := nI 0) heM hp h.1.1.1 h.1.1.2.1 h.1.1.2.2.1 h.1.1.2.2.2.1 h.1.1.2.2.2.2.1 h.1.1.2.2.2.2.2 h.1.2.1 h.1.2.2 h.2 n61 ht htM (fun lv1 a0 a1 a3 a4 a5 a6 => hB lv1 ⟨a0, a1, a3, a4, a5, a6⟩)⟩
theorem sg_45_61 (heM : e ≤ 3000) (hp : p ≤ e) (ht : sI S 6112 = nI t) (htM : t < 6002) : rSg d e l bl p st t (nI 45) (nI 61) S 24 := ⟨nI 11581, fun _ => rfl, fun Sf v hB lv h => rs_45_61 (x := nI 0) heM hp h.1.1.1 h.1.1.2.1 h.1.1.2.2.1 h.1.1.2.2.2.1 h.1.1.2.2.2.2.1 h.1.1.2.2.2.2.2 h.1.2.1 h.1.2.2 h.2 ht htM (fun lv1 a0 a1 a3 a4 a5 a6 => hB lv1 ⟨a0, a1, a3, a4, a5, a6⟩)⟩
theorem sg_45_n (heM : e ≤ 3000) (hp : p ≤ e) (ht : sI S 6112 = nI t) (htM : t < 6002) (n61 : dd ≠ nI 61) : rSg d e l bl p st t (nI 45) (dd) S 16 := ⟨nI 45, fun _ => rfl, fun Sf v hB lv h => rs_45_n (x := nI 0) heM hp h.1.1.1 h.1.1.2.1 h.1.1.2.2.1 h.1.1.2.2.2.1 h.1.1.2.2.2.2.1 h.1.1.2.2.2.2.2 h.1.2.1 h.1.2.2 h.2 n61 ht htM (fun lv1 a0 a1 a3 a4 a5 a6 => hB lv1 ⟨a0, a1, a3, a4, a5, a6⟩)⟩
theorem sg_46_61 (heM : e ≤ 3000) (hp : p ≤ e) (ht : sI S 6112 = nI t) (htM : t < 6002) : rSg d e l bl p st t (nI 46) (nI 61) S 14 := ⟨nI 46, fun _ => rfl, fun Sf v hB lv h => rs_46_61 (x := nI 0) heM hp h.1.1.1 h.1.1.2.1 h.1.1.2.2.1 h.1.1.2.2.2.1 h.1.1.2.2.2.2.1 h.1.1.2.2.2.2.2 h.1.2.1 h.1.2.2 h.2 ht htM (fun lv1 a0 a1 a3 a4 a5 a6 => hB lv1 ⟨a0, a1, a3, a4, a5, a6⟩)⟩
theorem sg_46_n (heM : e ≤ 3000) (hp : p ≤ e) (ht : sI S 6112 = nI t) (htM : t < 6002) (n61 : dd ≠ nI 61) : rSg d e l bl p st t (nI 46) (dd) S 14 := ⟨nI 46, fun _ => rfl, fun Sf v hB lv h => rs_46_n (x := nI 0) heM hp h.1.1.1 h.1.1.2.1 h.1.1.2.2.1 h.1.1.2.2.2.1 h.1.1.2.2.2.2.1 h.1.1.2.2.2.2.2 h.1.2.1 h.1.2.2 h.2 n61 ht htM (fun lv1 a0 a1 a3 a4 a5 a6 => hB lv1 ⟨a0, a1, a3, a4, a5, a6⟩)⟩
theorem sg_47_61 (heM : e ≤ 3000) (hp : p ≤ e) (ht : sI S 6112 = nI t) (htM : t < 6002) : rSg d e l bl p st t (nI 47) (nI 61) S 0 := ⟨nI 47, fun _ => (by omega), fun Sf v hB lv h => rs_47_61 (x := nI 0) heM hp h.1.1.1 h.1.1.2.1 h.1.1.2.2.1 h.1.1.2.2.2.1 h.1.1.2.2.2.2.1 h.1.1.2.2.2.2.2 h.1.2.1 h.1.2.2 h.2 ht htM (fun lv1 a0 a1 a3 a4 a5 a6 => hB lv1 ⟨a0, a1, a3, a4, a5, a6⟩)⟩
theorem sg_47_n (heM : e ≤ 3000) (hp : p ≤ e) (ht : sI S 6112 = nI t) (htM : t < 6002) (n61 : dd ≠ nI 61) (n47 : dd ≠ nI 47) : rSg d e l bl p st t (nI 47) (dd) S 0 := ⟨nI 47, fun _ => (by omega), fun Sf v hB lv h => rs_47_n (x := nI 0) heM hp h.1.1.1 h.1.1.2.1 h.1.1.2.2.1 h.1.1.2.2.2.1 h.1.1.2.2.2.2.1 h.1.1.2.2.2.2.2 h.1.2.1 h.1.2.2 h.2 n61 n47 ht htM (fun lv1 a0 a1 a3 a4 a5 a6 => hB lv1 ⟨a0, a1, a3, a4, a5, a6⟩)⟩
theorem sg_58_61 (heM : e ≤ 3000) (hp : p ≤ e) (ht : sI S 6112 = nI t) (htM : t < 6002) : rSg d e l bl p st t (nI 58) (nI 61) S 13 := ⟨nI 58, fun _ => rfl, fun Sf v hB lv h => rs_58_61 (x := nI 0) heM hp h.1.1.1 h.1.1.2.1 h.1.1.2.2.1 h.1.1.2.2.2.1 h.1.1.2.2.2.2.1 h.1.1.2.2.2.2.2 h.1.2.1 h.1.2.2 h.2 ht htM (fun lv1 a0 a1 a3 a4 a5 a6 => hB lv1 ⟨a0, a1, a3, a4, a5, a6⟩)⟩
theorem sg_58_n (heM : e ≤ 3000) (hp : p ≤ e) (ht : sI S 6112 = nI t) (htM : t < 6002) (n61 : dd ≠ nI 61) : rSg d e l bl p st t (nI 58) (dd) S 13 := ⟨nI 58, fun _ => rfl, fun Sf v hB lv h => rs_58_n (x := nI 0) heM hp h.1.1.1 h.1.1.2.1 h.1.1.2.2.1 h.1.1.2.2.2.1 h.1.1.2.2.2.2.1 h.1.1.2.2.2.2.2 h.1.2.1 h.1.2.2 h.2 n61 ht htM (fun lv1 a0 a1 a3 a4 a5 a6 => hB lv1 ⟨a0, a1, a3, a4, a5, a6⟩)⟩
theorem sg_60_61 (heM : e ≤ 3000) (hp : p ≤ e) (ht : sI S 6112 = nI t) (htM : t < 6002) : rSg d e l bl p st t (nI 60) (nI 61) S 28 := ⟨nI 15421, fun _ => rfl, fun Sf v hB lv h => rs_60_61 (x := nI 0) heM hp h.1.1.1 h.1.1.2.1 h.1.1.2.2.1 h.1.1.2.2.2.1 h.1.1.2.2.2.2.1 h.1.1.2.2.2.2.2 h.1.2.1 h.1.2.2 h.2 ht htM (fun lv1 a0 a1 a3 a4 a5 a6 => hB lv1 ⟨a0, a1, a3, a4, a5, a6⟩)⟩
theorem sg_60_n (heM : e ≤ 3000) (hp : p ≤ e) (ht : sI S 6112 = nI t) (htM : t < 6002) (n61 : dd ≠ nI 61) : rSg d e l bl p st t (nI 60) (dd) S 20 := ⟨nI 60, fun _ => rfl, fun Sf v hB lv h => rs_60_n (x := nI 0) heM hp h.1.1.1 h.1.1.2.1 h.1.1.2.2.1 h.1.1.2.2.2.1 h.1.1.2.2.2.2.1 h.1.1.2.2.2.2.2 h.1.2.1 h.1.2.2 h.2 n61 ht htM (fun lv1 a0 a1 a3 a4 a5 a6 => hB lv1 ⟨a0, a1, a3, a4, a5, a6⟩)⟩
theorem sg_61_61 (heM : e ≤ 3000) (hp : p ≤ e) (ht : sI S 6112 = nI t) (htM : t < 6002) : rSg d e l bl p st t (nI 61) (nI 61) S 26 := ⟨nI 15677, fun _ => rfl, fun Sf v hB lv h => rs_61_61 (x := nI 0) heM hp h.1.1.1 h.1.1.2.1 h.1.1.2.2.1 h.1.1.2.2.2.1 h.1.1.2.2.2.2.1 h.1.1.2.2.2.2.2 h.1.2.1 h.1.2.2 h.2 ht htM (fun lv1 a0 a1 a3 a4 a5 a6 => hB lv1 ⟨a0, a1, a3, a4, a5, a6⟩)⟩
theorem sg_61_n (heM : e ≤ 3000) (hp : p ≤ e) (ht : sI S 6112 = nI t) (htM : t < 6002) (n61 : dd ≠ nI 61) : rSg d e l bl p st t (nI 61) (dd) S 19 := ⟨nI 61, fun _ => rfl, fun Sf v hB lv h => rs_61_n (x := nI 0) heM hp h.1.1.1 h.1.1.2.1 h.1.1.2.2.1 h.1.1.2.2.2.1 h.1.1.2.2.2.2.1 h.1.1.2.2.2.2.2 h.1.2.1 h.1.2.2 h.2 n61 ht htM (fun lv1 a0 a1 a3 a4 a5 a6 => hB lv1 ⟨a0, a1, a3, a4, a5, a6⟩)⟩
theorem sg_62_61 (heM : e ≤ 3000) (hp : p ≤ e) (ht : sI S 6112 = nI t) (htM : t < 6002) : rSg d e l bl p st t (nI 62) (nI 61) S 29 := ⟨nI 15933, fun _ => rfl, fun Sf v hB lv h => rs_62_61 (x := nI 0) heM hp h.1.1.1 h.1.1.2.1 h.1.1.2.2.1 h.1.1.2.2.2.1 h.1.1.2.2.2.2.1 h.1.1.2.2.2.2.2 h.1.2.1 h.1.2.2 h.2 ht htM (fun lv1 a0 a1 a3 a4 a5 a6 => hB lv1 ⟨a0, a1, a3, a4, a5, a6⟩)⟩
theorem sg_62_n (heM : e ≤ 3000) (hp : p ≤ e) (ht : sI S 6112 = nI t) (htM : t < 6002) (n61 : dd ≠ nI 61) : rSg d e l bl p st t (nI 62) (dd) S 21 := ⟨nI 62, fun _ => rfl, fun Sf v hB lv h => rs_62_n (x := nI 0) heM hp h.1.1.1 h.1.1.2.1 h.1.1.2.2.1 h.1.1.2.2.2.1 h.1.1.2.2.2.2.1 h.1.1.2.2.2.2.2 h.1.2.1 h.1.2.2 h.2 n61 ht htM (fun lv1 a0 a1 a3 a4 a5 a6 => hB lv1 ⟨a0, a1, a3, a4, a5, a6⟩)⟩
theorem sg_91_61 (heM : e ≤ 3000) (hp : p ≤ e) (ht : sI S 6112 = nI t) (htM : t < 6002) : rSg d e l bl p st t (nI 91) (nI 61) S 8 := ⟨nI 91, fun _ => rfl, fun Sf v hB lv h => rs_91_61 (x := nI 0) heM hp h.1.1.1 h.1.1.2.1 h.1.1.2.2.1 h.1.1.2.2.2.1 h.1.1.2.2.2.2.1 h.1.1.2.2.2.2.2 h.1.2.1 h.1.2.2 h.2 ht htM (fun lv1 a0 a1 a3 a4 a5 a6 => hB lv1 ⟨a0, a1, a3, a4, a5, a6⟩)⟩
theorem sg_91_n (heM : e ≤ 3000) (hp : p ≤ e) (ht : sI S 6112 = nI t) (htM : t < 6002) (n61 : dd ≠ nI 61) : rSg d e l bl p st t (nI 91) (dd) S 8 := ⟨nI 91, fun _ => rfl, fun Sf v hB lv h => rs_91_n (x := nI 0) heM hp h.1.1.1 h.1.1.2.1 h.1.1.2.2.1 h.1.1.2.2.2.1 h.1.1.2.2.2.2.1 h.1.1.2.2.2.2.2 h.1.2.1 h.1.2.2 h.2 n61 ht htM (fun lv1 a0 a1 a3 a4 a5 a6 => hB lv1 ⟨a0, a1, a3, a4, a5, a6⟩)⟩
theorem sg_93_61 (heM : e ≤ 3000) (hp : p ≤ e) (ht : sI S 6112 = nI t) (htM : t < 6002) : rSg d e l bl p st t (nI 93) (nI 61) S 9 := ⟨nI 93, fun _ => rfl, fun Sf v hB lv h => rs_93_61 (x := nI 0) heM hp h.1.1.1 h.1.1.2.1 h.1.1.2.2.1 h.1.1.2.2.2.1 h.1.1.2.2.2.2.1 h.1.1.2.2.2.2.2 h.1.2.1 h.1.2.2 h.2 ht htM (fun lv1 a0 a1 a3 a4 a5 a6 => hB lv1 ⟨a0, a1, a3, a4, a5, a6⟩)⟩
theorem sg_93_n (heM : e ≤ 3000) (hp : p ≤ e) (ht : sI S 6112 = nI t) (htM : t < 6002) (n61 : dd ≠ nI 61) : rSg d e l bl p st t (nI 93) (dd) S 9 := ⟨nI 93, fun _ => rfl, fun Sf v hB lv h => rs_93_n (x := nI 0) heM hp h.1.1.1 h.1.1.2.1 h.1.1.2.2.1 h.1.1.2.2.2.1 h.1.1.2.2.2.2.1 h.1.1.2.2.2.2.2 h.1.2.1 h.1.2.2 h.2 n61 ht htM (fun lv1 a0 a1 a3 a4 a5 a6 => hB lv1 ⟨a0, a1, a3, a4, a5, a6⟩)⟩
theorem sg_123_61 (heM : e ≤ 3000) (hp : p ≤ e) (ht : sI S 6112 = nI t) (htM : t < 6002) : rSg d e l bl p st t (nI 123) (nI 61) S 10 := ⟨nI 123, fun _ => rfl, fun Sf v hB lv h => rs_123_61 (x := nI 0) heM hp h.1.1.1 h.1.1.2.1 h.1.1.2.2.1 h.1.1.2.2.2.1 h.1.1.2.2.2.2.1 h.1.1.2.2.2.2.2 h.1.2.1 h.1.2.2 h.2 ht htM (fun lv1 a0 a1 a3 a4 a5 a6 => hB lv1 ⟨a0, a1, a3, a4, a5, a6⟩)⟩
theorem sg_123_n (heM : e ≤ 3000) (hp : p ≤ e) (ht : sI S 6112 = nI t) (htM : t < 6002) (n61 : dd ≠ nI 61) : rSg d e l bl p st t (nI 123) (dd) S 10 := ⟨nI 123, fun _ => rfl, fun Sf v hB lv h => rs_123_n (x := nI 0) heM hp h.1.1.1 h.1.1.2.1 h.1.1.2.2.1 h.1.1.2.2.2.1 h.1.1.2.2.2.2.1 h.1.1.2.2.2.2.2 h.1.2.1 h.1.2.2 h.2 n61 ht htM (fun lv1 a0 a1 a3 a4 a5 a6 => hB lv1 ⟨a0, a1, a3, a4, a5, a6⟩)⟩
theorem sg_125_61 (heM : e ≤ 3000) (hp : p ≤ e) (ht : sI S 6112 = nI t) (htM : t < 6002) : rSg d e l bl p st t (nI 125) (nI 61) S 11 := ⟨nI 125, fun _ => rfl, fun Sf v hB lv h => rs_125_61 (x := nI 0) heM hp h.1.1.1 h.1.1.2.1 h.1.1.2.2.1 h.1.1.2.2.2.1 h.1.1.2.2.2.2.1 h.1.1.2.2.2.2.2 h.1.2.1 h.1.2.2 h.2 ht htM (fun lv1 a0 a1 a3 a4 a5 a6 => hB lv1 ⟨a0, a1, a3, a4, a5, a6⟩)⟩
theorem sg_125_n (heM : e ≤ 3000) (hp : p ≤ e) (ht : sI S 6112 = nI t) (htM : t < 6002) (n61 : dd ≠ nI 61) : rSg d e l bl p st t (nI 125) (dd) S 11 := ⟨nI 125, fun _ => rfl, fun Sf v hB lv h => rs_125_n (x := nI 0) heM hp h.1.1.1 h.1.1.2.1 h.1.1.2.2.1 h.1.1.2.2.2.1 h.1.1.2.2.2.2.1 h.1.1.2.2.2.2.2 h.1.2.1 h.1.2.2 h.2 n61 ht htM (fun lv1 a0 a1 a3 a4 a5 a6 => hB lv1 ⟨a0, a1, a3, a4, a5, a6⟩)⟩
theorem sg_47_47 (heM : e ≤ 3000) (hp : p ≤ e) (ht : sI S 6112 = nI t) (htM : t < 6002) : rSg d e l bl p st t (nI 47) (nI 47) S 22 := ⟨nI 12079, fun _ => rfl, fun Sf v hB lv h => rs_47_47 (x := nI 0) heM hp h.1.1.1 h.1.1.2.1 h.1.1.2.2.1 h.1.1.2.2.2.1 h.1.1.2.2.2.2.1 h.1.1.2.2.2.2.2 h.1.2.1 h.1.2.2 h.2 ht htM (fun lv1 a0 a1 a3 a4 a5 a6 => hB lv1 ⟨a0, a1, a3, a4, a5, a6⟩)⟩
theorem sg_x_61 {x : Int32} (heM : e ≤ 3000) (hp : p ≤ e) (ht : sI S 6112 = nI t) (htM : t < 6002) (hn : ∀ q, q ∈ [33, 37, 40, 41, 42, 43, 44, 45, 46, 47, 58, 60, 61, 62, 91, 93, 123, 125] → x ≠ nI q) : rSg d e l bl p st t x (nI 61) S 0 := ⟨x, fun h => by omega, fun Sf v hB lv h => rs_x_61 heM hp h.1.1.1 h.1.1.2.1 h.1.1.2.2.1 h.1.1.2.2.2.1 h.1.1.2.2.2.2.1 h.1.1.2.2.2.2.2 h.1.2.1 h.1.2.2 h.2 hn ht htM (fun lv1 a0 a1 a3 a4 a5 a6 => hB lv1 ⟨a0, a1, a3, a4, a5, a6⟩)⟩
theorem sg_x_n {x : Int32} (heM : e ≤ 3000) (hp : p ≤ e) (ht : sI S 6112 = nI t) (htM : t < 6002) (n61 : dd ≠ nI 61) (hn : ∀ q, q ∈ [33, 37, 40, 41, 42, 43, 44, 45, 46, 47, 58, 60, 61, 62, 91, 93, 123, 125] → x ≠ nI q) : rSg d e l bl p st t x dd S 0 := ⟨x, fun h => by omega, fun Sf v hB lv h => rs_x_n heM hp h.1.1.1 h.1.1.2.1 h.1.1.2.2.1 h.1.1.2.2.2.1 h.1.1.2.2.2.2.1 h.1.1.2.2.2.2.2 h.1.2.1 h.1.2.2 h.2 n61 hn ht htM (fun lv1 a0 a1 a3 a4 a5 a6 => hB lv1 ⟨a0, a1, a3, a4, a5, a6⟩)⟩
theorem sg_cases (b : Nat) : (b = 33 ∨ b = 37 ∨ b = 40 ∨ b = 41 ∨ b = 42 ∨ b = 43 ∨ b = 44 ∨ b = 45 ∨ b = 46 ∨ b = 47 ∨ b = 58 ∨ b = 60 ∨ b = 61 ∨ b = 62 ∨ b = 91 ∨ b = 93 ∨ b = 123 ∨ b = 125) ∨ b ∉ [33, 37, 40, 41, 42, 43, 44, 45, 46, 47, 58, 60, 61, 62, 91, 93, 123, 125] := by
  by_cases h : b ∈ [33, 37, 40, 41, 42, 43, 44, 45, 46, 47, 58, 60, 61, 62, 91, 93, 123, 125]
  · simp only [List.mem_cons, List.not_mem_nil, or_false] at h
    exact Or.inl h
  · exact Or.inr h
theorem sg_none {b : Nat} (hb : b ∉ [33, 37, 40, 41, 42, 43, 44, 45, 46, 47, 58, 60, 61, 62, 91, 93, 123, 125]) : c_signOne b = 0 ∧ c_signEq b = 0 := by
  unfold c_signOne c_signEq
  constructor
  · rw [if_neg (fun e => hb (by rw [e]; decide)), if_neg (fun e => hb (by rw [e]; decide)), if_neg (fun e => hb (by rw [e]; decide)), if_neg (fun e => hb (by rw [e]; decide)), if_neg (fun e => hb (by rw [e]; decide)), if_neg (fun e => hb (by rw [e]; decide)), if_neg (fun e => hb (by rw [e]; decide)), if_neg (fun e => hb (by rw [e]; decide)), if_neg (fun e => hb (by rw [e]; decide)), if_neg (fun e => hb (by rw [e]; decide)), if_neg (fun e => hb (by rw [e]; decide)), if_neg (fun e => hb (by rw [e]; decide)), if_neg (fun e => hb (by rw [e]; decide)), if_neg (fun e => hb (by rw [e]; decide)), if_neg (fun e => hb (by rw [e]; decide)), if_neg (fun e => hb (by rw [e]; decide))]
  · rw [if_neg (fun e => hb (by rw [e]; decide)), if_neg (fun e => hb (by rw [e]; decide)), if_neg (fun e => hb (by rw [e]; decide)), if_neg (fun e => hb (by rw [e]; decide)), if_neg (fun e => hb (by rw [e]; decide)), if_neg (fun e => hb (by rw [e]; decide)), if_neg (fun e => hb (by rw [e]; decide))]
theorem sg_any {b c : Nat} {x : Int32} (heM : e ≤ 3000) (hp : p ≤ e) (ht : sI S 6112 = nI t) (htM : t < 6002) (hf : fits .byte (.int x) = true) (hx : ub x = b) (hc : dd = nI 61 ∧ c = 61 ∨ dd = nI 47 ∧ c = 47 ∨ dd ≠ nI 61 ∧ dd ≠ nI 47 ∧ c ≠ 61 ∧ c ≠ 47) : rSg d e l bl p st t x dd S (tk_sg b c) := by
  rcases sg_cases b with hb | hb
  · rcases hb with rfl | rfl | rfl | rfl | rfl | rfl | rfl | rfl | rfl | rfl | rfl | rfl | rfl | rfl | rfl | rfl | rfl | rfl
    · obtain rfl : x = nI 33 := byte_val hf hx (by decide)
      rcases hc with ⟨rfl, rfl⟩ | ⟨rfl, rfl⟩ | ⟨n61, n47, m61, m47⟩
      · exact sg_33_61 heM hp ht htM
      · exact sg_33_n heM hp ht htM (by decide)
      · rw [tk_sg_n m61 (fun h => m47 h.2)]
        exact sg_33_n heM hp ht htM n61
    · obtain rfl : x = nI 37 := byte_val hf hx (by decide)
      rcases hc with ⟨rfl, rfl⟩ | ⟨rfl, rfl⟩ | ⟨n61, n47, m61, m47⟩
      · exact sg_37_61 heM hp ht htM
      · exact sg_37_n heM hp ht htM (by decide)
      · rw [tk_sg_n m61 (fun h => m47 h.2)]
        exact sg_37_n heM hp ht htM n61
    · obtain rfl : x = nI 40 := byte_val hf hx (by decide)
      rcases hc with ⟨rfl, rfl⟩ | ⟨rfl, rfl⟩ | ⟨n61, n47, m61, m47⟩
      · exact sg_40_61 heM hp ht htM
      · exact sg_40_n heM hp ht htM (by decide)
      · rw [tk_sg_n m61 (fun h => m47 h.2)]
        exact sg_40_n heM hp ht htM n61
    · obtain rfl : x = nI 41 := byte_val hf hx (by decide)
      rcases hc with ⟨rfl, rfl⟩ | ⟨rfl, rfl⟩ | ⟨n61, n47, m61, m47⟩
      · exact sg_41_61 heM hp ht htM
      · exact sg_41_n heM hp ht htM (by decide)
      · rw [tk_sg_n m61 (fun h => m47 h.2)]
        exact sg_41_n heM hp ht htM n61
    · obtain rfl : x = nI 42 := byte_val hf hx (by decide)
      rcases hc with ⟨rfl, rfl⟩ | ⟨rfl, rfl⟩ | ⟨n61, n47, m61, m47⟩
      · exact sg_42_61 heM hp ht htM
      · exact sg_42_n heM hp ht htM (by decide)
      · rw [tk_sg_n m61 (fun h => m47 h.2)]
        exact sg_42_n heM hp ht htM n61
    · obtain rfl : x = nI 43 := byte_val hf hx (by decide)
      rcases hc with ⟨rfl, rfl⟩ | ⟨rfl, rfl⟩ | ⟨n61, n47, m61, m47⟩
      · exact sg_43_61 heM hp ht htM
      · exact sg_43_n heM hp ht htM (by decide)
      · rw [tk_sg_n m61 (fun h => m47 h.2)]
        exact sg_43_n heM hp ht htM n61
    · obtain rfl : x = nI 44 := byte_val hf hx (by decide)
      rcases hc with ⟨rfl, rfl⟩ | ⟨rfl, rfl⟩ | ⟨n61, n47, m61, m47⟩
      · exact sg_44_61 heM hp ht htM
      · exact sg_44_n heM hp ht htM (by decide)
      · rw [tk_sg_n m61 (fun h => m47 h.2)]
        exact sg_44_n heM hp ht htM n61
    · obtain rfl : x = nI 45 := byte_val hf hx (by decide)
      rcases hc with ⟨rfl, rfl⟩ | ⟨rfl, rfl⟩ | ⟨n61, n47, m61, m47⟩
      · exact sg_45_61 heM hp ht htM
      · exact sg_45_n heM hp ht htM (by decide)
      · rw [tk_sg_n m61 (fun h => m47 h.2)]
        exact sg_45_n heM hp ht htM n61
    · obtain rfl : x = nI 46 := byte_val hf hx (by decide)
      rcases hc with ⟨rfl, rfl⟩ | ⟨rfl, rfl⟩ | ⟨n61, n47, m61, m47⟩
      · exact sg_46_61 heM hp ht htM
      · exact sg_46_n heM hp ht htM (by decide)
      · rw [tk_sg_n m61 (fun h => m47 h.2)]
        exact sg_46_n heM hp ht htM n61
    · obtain rfl : x = nI 47 := byte_val hf hx (by decide)
      rcases hc with ⟨rfl, rfl⟩ | ⟨rfl, rfl⟩ | ⟨n61, n47, m61, m47⟩
      · exact sg_47_61 heM hp ht htM
      · exact sg_47_47 heM hp ht htM
      · rw [tk_sg_n m61 (fun h => m47 h.2)]
        exact sg_47_n heM hp ht htM n61 n47
    · obtain rfl : x = nI 58 := byte_val hf hx (by decide)
      rcases hc with ⟨rfl, rfl⟩ | ⟨rfl, rfl⟩ | ⟨n61, n47, m61, m47⟩
      · exact sg_58_61 heM hp ht htM
      · exact sg_58_n heM hp ht htM (by decide)
      · rw [tk_sg_n m61 (fun h => m47 h.2)]
        exact sg_58_n heM hp ht htM n61
    · obtain rfl : x = nI 60 := byte_val hf hx (by decide)
      rcases hc with ⟨rfl, rfl⟩ | ⟨rfl, rfl⟩ | ⟨n61, n47, m61, m47⟩
      · exact sg_60_61 heM hp ht htM
      · exact sg_60_n heM hp ht htM (by decide)
      · rw [tk_sg_n m61 (fun h => m47 h.2)]
        exact sg_60_n heM hp ht htM n61
    · obtain rfl : x = nI 61 := byte_val hf hx (by decide)
      rcases hc with ⟨rfl, rfl⟩ | ⟨rfl, rfl⟩ | ⟨n61, n47, m61, m47⟩
      · exact sg_61_61 heM hp ht htM
      · exact sg_61_n heM hp ht htM (by decide)
      · rw [tk_sg_n m61 (fun h => m47 h.2)]
        exact sg_61_n heM hp ht htM n61
    · obtain rfl : x = nI 62 := byte_val hf hx (by decide)
      rcases hc with ⟨rfl, rfl⟩ | ⟨rfl, rfl⟩ | ⟨n61, n47, m61, m47⟩
      · exact sg_62_61 heM hp ht htM
      · exact sg_62_n heM hp ht htM (by decide)
      · rw [tk_sg_n m61 (fun h => m47 h.2)]
        exact sg_62_n heM hp ht htM n61
    · obtain rfl : x = nI 91 := byte_val hf hx (by decide)
      rcases hc with ⟨rfl, rfl⟩ | ⟨rfl, rfl⟩ | ⟨n61, n47, m61, m47⟩
      · exact sg_91_61 heM hp ht htM
      · exact sg_91_n heM hp ht htM (by decide)
      · rw [tk_sg_n m61 (fun h => m47 h.2)]
        exact sg_91_n heM hp ht htM n61
    · obtain rfl : x = nI 93 := byte_val hf hx (by decide)
      rcases hc with ⟨rfl, rfl⟩ | ⟨rfl, rfl⟩ | ⟨n61, n47, m61, m47⟩
      · exact sg_93_61 heM hp ht htM
      · exact sg_93_n heM hp ht htM (by decide)
      · rw [tk_sg_n m61 (fun h => m47 h.2)]
        exact sg_93_n heM hp ht htM n61
    · obtain rfl : x = nI 123 := byte_val hf hx (by decide)
      rcases hc with ⟨rfl, rfl⟩ | ⟨rfl, rfl⟩ | ⟨n61, n47, m61, m47⟩
      · exact sg_123_61 heM hp ht htM
      · exact sg_123_n heM hp ht htM (by decide)
      · rw [tk_sg_n m61 (fun h => m47 h.2)]
        exact sg_123_n heM hp ht htM n61
    · obtain rfl : x = nI 125 := byte_val hf hx (by decide)
      rcases hc with ⟨rfl, rfl⟩ | ⟨rfl, rfl⟩ | ⟨n61, n47, m61, m47⟩
      · exact sg_125_61 heM hp ht htM
      · exact sg_125_n heM hp ht htM (by decide)
      · rw [tk_sg_n m61 (fun h => m47 h.2)]
        exact sg_125_n heM hp ht htM n61
  · have hn : ∀ q, q ∈ [33, 37, 40, 41, 42, 43, 44, 45, 46, 47, 58, 60, 61, 62, 91, 93, 123, 125] → x ≠ nI q := fun q hq e => hb (by
      have h128 : ∀ q, q ∈ [33, 37, 40, 41, 42, 43, 44, 45, 46, 47, 58, 60, 61, 62, 91, 93, 123, 125] → q < 128 := by decide
      have h1 : b = q := by
        rw [← hx, e]
        unfold ub
        rw [ub_pos q (h128 q hq), gN_nI (by have := h128 q hq; omega)]
      rw [h1]
      exact hq)
    obtain ⟨g1, g2⟩ := sg_none hb
    have hs : tk_sg b c = 0 := by
      unfold tk_sg
      rw [if_neg (fun h => hb (by rw [h.1]; decide)), if_neg (fun h => h.2 g2), g1]
    rw [hs]
    rcases hc with ⟨rfl, rfl⟩ | ⟨rfl, rfl⟩ | ⟨n61, n47, m61, m47⟩
    · exact sg_x_61 heM hp ht htM hn
    · exact sg_x_n heM hp ht htM (by decide) hn
    · exact sg_x_n heM hp ht htM n61 hn
end
