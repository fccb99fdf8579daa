/-! CALLS OF CLASSES: the class's stack as if the instance lay on it (the reference puts it there, the class keeps it) -/
/-- with object k put in at b -/
def gsF (b : Nat) (v : Int64) (f : Nat → Int64) (p : Nat) : Int64 := if p < b then f p else if p = b then v else f (p - 1)
def gst (b t k : Nat) (S : cS) : cS := wI 4603 (nI (t + 1)) (S.1, S.2.1, S.2.2.1, (fun a => if a = 47 then gsF b 4611686018427387904 (sL S 47) else if a = 48 then gsF b (lN k) (sL S 48) else sL S a), S.2.2.2.2)
theorem sumN_ins {f f' : Nat → Nat} {b v : Nat} (h : ∀ p, f' p = if p < b then f p else if p = b then v else f (p - 1)) : ∀ {n : Nat}, b ≤ n → sumN f' (n + 1) = sumN f n + v := by
  intro n
  induction n with
  | zero =>
    intro hb
    have : b = 0 := by omega
    show sumN f' 0 + f' 0 = sumN f 0 + v
    rw [h 0, if_neg (by omega), if_pos this.symm]
    rfl
  | succ n ih =>
    intro hb
    show sumN f' (n + 1) + f' (n + 1) = sumN f n + f n + v
    by_cases c : b = n + 1
    · have e1 : sumN f' (n + 1) = sumN f (n + 1) := sumN_congr (fun k hk => by rw [h k, if_pos (by omega)])
      rw [e1, h (n + 1), if_neg (by omega), if_pos c.symm]
      rfl
    · rw [ih (by omega), h (n + 1), if_neg (by omega), if_neg (by omega)]
      show sumN f n + v + f (n + 1 - 1) = _
      rw [show n + 1 - 1 = n from rfl]
      omega
section
variable {P : Nat → Prop} {T : cS} {gT : Nat} {Q : Nat → Prop} {β β' : Nat → Nat} {F : Nat → Nat → Nat → Prop} {loc par : Nat → Nat → Nat} {ty : Nat → Nat × Nat} {G : Nat → Nat → Nat → Nat × Nat × LL → Prop} {D D' K : List Nat} {z nn g0 g1 g3 g4 g5 gn d n m p q k i s t b gv : Nat} {g : Nat → Nat} {tq : Nat → Nat × Nat} {C r : List Lv} {x : Lv} {S S' S1 X W Sr : cS} {l' : List (Nat × Nat)}
theorem gst_f (b t k : Nat) (X : cS) : FrL [4603] [] [47, 48] X (gst b t k X) ∧ (∀ p, sL (gst b t k X) 47 p = gsF b 4611686018427387904 (sL X 47) p) ∧ (∀ p, sL (gst b t k X) 48 p = gsF b (lN k) (sL X 48) p) ∧ sI (gst b t k X) 4603 = nI (t + 1) := by
  refine ⟨⟨rfl, fun a ha => ?_, rfl, rfl, rfl, rfl, fun i hi => ?_, fun a _ => rfl⟩, fun p => rfl, fun p => rfl, rfl⟩
  · simp only [List.mem_cons, List.not_mem_nil, or_false, not_or] at ha
    show (if a = 47 then _ else if a = 48 then _ else sL X a) = _
    rw [if_neg ha.1, if_neg ha.2]
  · have hi : i ≠ 4603 := fun c => hi (by rw [c]; exact List.mem_cons_self)
    unfold gst
    rw [rI, if_neg hi]
    rfl
theorem mHS_gst (h : mHS 0 (fun q => g q + dl k q) t X) (hb : b ≤ t) (ht : t + 1 ≤ 20480) (hk : lv X k) : mHS 0 g (t + 1) (gst b t k X) := by
  obtain ⟨hF, e47, e48, e46⟩ := gst_f b t k X
  have hk1 := hk.1
  have hk2 := hk.2.1
  obtain ⟨hP, hD, hT, hM, hL, hN, hG, hB, hg⟩ := h
  have hob := ob_obj hk2
  have hstE : ∀ q, stE (t + 1) (gst b t k X) q = stE t X q + (if k = q then 1 else 0) := fun q => by
    unfold stE
    refine sumN_ins (b := b) (fun p => ?_) hb
    show (if ob (sL (gst b t k X) 47 p) (sL (gst b t k X) 48 p) = q then 1 else 0) = _
    rw [e47, e48]
    unfold gsF
    by_cases c : p < b
    · rw [if_pos c, if_pos c, if_pos c]
    · rw [if_neg c, if_neg c, if_neg c]
      by_cases c2 : p = b
      · rw [if_pos c2, if_pos c2, if_pos c2]
        have : ob 4611686018427387904 (lN k) = k := ob_n hob.1 hk2
        rw [this]
      · rw [if_neg c2, if_neg c2, if_neg c2]
  have hsk : ∀ q, 1 ≤ q → stE (t + 1) (gst b t k X) q = stE t X q + dl k q := fun q hq => by
    rw [hstE q]
    by_cases c : k = q
    · rw [if_pos c, c, dl_e hq]
    · rw [if_neg c, dl_n (fun c2 => c c2.symm)]
  have hF0 : FrL [4603] [4, 5, 6, 14] [47, 48] X (gst b t k X) := hF.mono (by decide) (by decide) (by decide)
  have hP1 : Hp no_e (nmE X) (fun q => stE (t + 1) (gst b t k X) q + g q) X := Hp_e6 hP (fun q q1 _ => by
    show stE (t + 1) (gst b t k X) q + g q = stE t X q + (g q + dl k q)
    rw [hsk q q1]
    omega)
  obtain ⟨hP2, hh⟩ := Hp_reL (f4 := no_e) (f5 := nmE X) (f6 := fun q => stE (t + 1) (gst b t k X) q + g q) hP1 hF0 (by decide) (by decide) (fun q q1 q2 => by
    obtain ⟨p4, p5, p6, p7, p8, p9⟩ := hP1.2.2.2.2.2 q q1 q2
    exact ⟨by rw [hF.A (by decide)]; exact p4, by rw [hF.A (by decide)]; exact p5, by rw [hF.A (by decide)]; exact p6, p7, p8, p9⟩)
  have e3 : sA (gst b t k X) 3 = sA X 3 := hF.A (by decide)
  have elv : ∀ o, lv (gst b t k X) o ↔ lv X o := fun o => by unfold lv; rw [e3]
  obtain ⟨eN, eB⟩ := nmE_F hF (by decide)
  refine ⟨by rw [eN]; exact hP2, fun q hq hq0 => ?_, e46, ht, fun p hp => ?_, ?_, fun q hq => ?_, ?_, fun q => ?_⟩
  · have := hD q ((elv q).mp hq) hq0
    rw [hh, eN, hsk q hq.1]
    have : 0 < heldBy X q + nmE X q + (stE t X q + (g q + dl k q)) := this
    omega
  · rw [e47, e48]
    unfold gsF
    by_cases c : p < b
    · rw [if_pos c, if_pos c]
      obtain ⟨o, o1, o2, o3⟩ := hL p (by omega)
      exact ⟨o, o1, o2, o3.imp id (fun h => (elv o).mpr h)⟩
    · rw [if_neg c, if_neg c]
      by_cases c2 : p = b
      · rw [if_pos c2, if_pos c2]
        exact ⟨k, hk2, hob.1, Or.inr ((elv k).mpr hk)⟩
      · rw [if_neg c2, if_neg c2]
        obtain ⟨o, o1, o2, o3⟩ := hL (p - 1) (by omega)
        exact ⟨o, o1, o2, o3.imp id (fun h => (elv o).mpr h)⟩
  · intro p hp
    obtain ⟨o, o1, o2, o3⟩ := hN p hp
    exact ⟨o, o1, by rw [hF.2.1 21 (by decide), hF.2.1 22 (by decide)]; exact o2, o3.imp id (fun h => (elv o).mpr h)⟩
  · exact (elv q).mpr (hG q (by show 0 < g q + dl k q; omega))
  · rw [eB, hF.I (by decide)]
    exact hB
  · have : g q + dl k q ≤ 1000 := hg q
    omega
end
