/-! BOTH MACHINES: the class that has an attribute -/
section
variable {P : Nat → Prop} {T : cS} {gT : Nat} {Q : Nat → Prop} {β β' : Nat → Nat} {F : Nat → Nat → Nat → Prop} {loc par : Nat → Nat → Nat} {ty : Nat → Nat × Nat} {G : Nat → Nat → Nat → Nat × Nat × LL → Prop} {D D' K : List Nat} {z nn g0 g1 g3 g4 g5 gn d d' dr v o i k k0 c e n nt m t tp tt r0 ob_ vb q rr : Nat} {tq : Nat → Nat × Nat} {C r : List Lv} {x : Lv} {S S' S1 X W Sc Sr : cS} {f g : Nat → Nat} {hi lo kh kl a b ka kb : Int64} {kd rb : Int32} {l' : List (Nat × Nat)} {s : Nat}
def lkI (β : Nat → Nat) (c : Nat) : Int32 := if c = 0 then Int32.ofInt (-1) else nI (β c)
/-- h has the attribute: its entry e -/
def hldQ (S : cS) (kh kl : Int64) (h : Nat) : Prop := h = 0 ∨ (lv S h ∧ sA S 3 h = nI 4 ∧ ∃ e, keyAt S h kh kl (some e))
theorem kd_of {k j : Nat} (h : sA S 3 k = nI j) (hj : j < 2 ^ 20) : h_kd S k = j := by unfold h_kd; rw [h, gN_nI (by omega)]
theorem hold_B (hoA : ∀ c, lv S c → h_ok S c) (htA : ∀ c, lv S c → tyO F loc par ty S c) (hq : q < 4096) : ∀ n c, (c = 0 ∨ (lv S c ∧ sA S 3 c = nI 4 ∧ (ty c).2 < n)) → ∃ hh, (hldQ S (sL S 17 q) (sL S 18 q) hh ∧ (c = 0 → hh = 0)) ∧ (∀ (L : List Nat), L.Nodup → (∀ y, y ∈ L → (1 ≤ y ∧ y ≤ 1500) ∧ (c ≠ 0 → (ty c).2 < (ty y).2)) → ∀ d lv, sm_get lv 0 = some (.ref 2) → sm_get lv 2 = some (.long (sL S 17 q)) → sm_get lv 4 = some (.long (sL S 18 q)) → sm_get lv 6 = some (.int (nI c)) → sm_get lv 7 = some (.int (nI L.length)) → Bod (d + 8) 220 6 lv [] S (some (.int (nI hh))) S) ∧ ∀ {F' : Nat → Nat → Nat → Prop} {rr : Nat}, F' q 0 rr → ∀ {Q : Nat → Prop} {β : Nat → Nat} {D : List Nat} {z nn g0 g1 g3 g4 g5 : Nat} {Sr : cS}, XN Q β F' D z nn g0 g1 g3 g4 g5 S Sr → ∀ d lv, sm_get lv 0 = some (.ref 61) → sm_get lv 2 = some (.int (nI rr)) → sm_get lv 3 = some (.int (lkI β c)) → Bod (d + 9) 398 2 lv [] Sr (some (.int (lkI β hh))) Sr := by
  intro n
  have zero : ∀ c, c = 0 → ∃ hh, (hldQ S (sL S 17 q) (sL S 18 q) hh ∧ (c = 0 → hh = 0)) ∧ (∀ (L : List Nat), L.Nodup → (∀ y, y ∈ L → (1 ≤ y ∧ y ≤ 1500) ∧ (c ≠ 0 → (ty c).2 < (ty y).2)) → ∀ d lv, sm_get lv 0 = some (.ref 2) → sm_get lv 2 = some (.long (sL S 17 q)) → sm_get lv 4 = some (.long (sL S 18 q)) → sm_get lv 6 = some (.int (nI c)) → sm_get lv 7 = some (.int (nI L.length)) → Bod (d + 8) 220 6 lv [] S (some (.int (nI hh))) S) ∧ ∀ {F' : Nat → Nat → Nat → Prop} {rr : Nat}, F' q 0 rr → ∀ {Q : Nat → Prop} {β : Nat → Nat} {D : List Nat} {z nn g0 g1 g3 g4 g5 : Nat} {Sr : cS}, XN Q β F' D z nn g0 g1 g3 g4 g5 S Sr → ∀ d lv, sm_get lv 0 = some (.ref 61) → sm_get lv 2 = some (.int (nI rr)) → sm_get lv 3 = some (.int (lkI β c)) → Bod (d + 9) 398 2 lv [] Sr (some (.int (lkI β hh))) Sr := fun c hc => by
    subst hc
    refine ⟨0, ⟨Or.inl rfl, fun _ => rfl⟩, fun L hL hy d lv q0 q2 q4 q6 q7 => ?_, fun {F' rr} hF {Q β D z nn g0 g1 g3 g4 g5 Sr} hX d lv q0 q2 q3 => ?_⟩
    · have := nodup_len hL (fun y hy' => (hy y hy').1)
      exact mHdL_2 q0 q2 q4 q6 q7 (by omega) (by omega) (by omega) rfl
    · have hrr := (XR_nm hX hF).2.2.1
      exact rCwE_1 (d := d + 1) q0 q2 q3 (by omega)
  induction n with
  | zero =>
    intro c hc
    rcases hc with hc | ⟨_, _, hc⟩
    · exact zero c hc
    · exact absurd hc (Nat.not_lt_zero _)
  | succ n ih =>
    intro c hc
    rcases hc with hc | ⟨hl, h4, hn⟩
    · exact zero c hc
    · have hc0 : c ≠ 0 := by have := hl.1; omega
      have hl1 := hl.1
      have hl2 := hl.2.1
      have ek := kd_of h4 (by omega)
      have oko := hoA c hl
      have no := h_n_le oko
      have hw4 : c_width (h_kd S c) = 4 := by rw [ek]; rfl
      obtain ⟨oe, hka, hfi⟩ := find_C2 hl oko hw4 (sL S 17 q) (sL S 18 q)
      have elk : ∀ β, lkI β c = nI (β c) := fun β => if_neg hc0
      cases oe with
      | some e =>
        refine ⟨c, ⟨Or.inr ⟨hl, h4, e, hka⟩, fun c0 => c0⟩, fun L hL hy d lv q0 q2 q4 q6 q7 => ?_, fun {F' rr} hF {Q β D z nn g0 g1 g3 g4 g5 Sr} hX d lv q0 q2 q3 => ?_⟩
        · have := nodup_len hL (fun y hy' => (hy y hy').1)
          have he := hka.1
          exact mHdL_4 q0 q2 q4 q6 q7 (by omega) (by omega) (by omega) hc0 (hfi (d + 6)) (fI_pos (by omega)).1
        · have hrr := (XR_nm hX hF).2.2.1
          obtain ⟨t, _, _, _, _, _, _, _, _, bt, t1, t2, t108, ⟨N, tS⟩, _⟩ := HR_o hX.1 hl
          have he := hka.1
          have hf : Ans (d + 9) 399 [.ref t, .int (nI 0), .long ((nI rr).toInt64), .long 0] Sr (some (.int (nI e))) Sr := find_A (d := d) hX hF hl (Or.inl ek) hka t1
          rw [elk] at q3 ⊢
          exact rCwL_1 (d := d + 1) q0 q2 q3 (by omega) (by omega) bt t108 t1 (by omega) hf tS
      | none =>
        obtain ⟨_, a, a7, a8⟩ := (htA c hl).2.2.1 h4
        obtain ⟨hh, ⟨i1, _⟩, i2, i3⟩ := ih a (a8.imp id (fun b => ⟨b.1, b.2.1, by have := b.2.2; omega⟩))
        have hrank : a ≠ 0 → (ty a).2 < (ty c).2 := fun ha => (a8.resolve_left ha).2.2
        have ha15 : a ≤ 1500 := by
          rcases a8 with e | e
          · omega
          · exact e.1.2.1
        refine ⟨hh, ⟨i1, fun c0 => absurd c0 hc0⟩, fun L hL hy d lv q0 q2 q4 q6 q7 => ?_, fun {F' rr} hF {Q β D z nn g0 g1 g3 g4 g5 Sr} hX d lv q0 q2 q3 => ?_⟩
        · have hcL : c ∉ L := fun hm => by have := (hy c hm).2 hc0; omega
          have hL2 : (c :: L).Nodup := List.nodup_cons.mpr ⟨hcL, hL⟩
          have hy2 : ∀ y, y ∈ c :: L → (1 ≤ y ∧ y ≤ 1500) ∧ (a ≠ 0 → (ty a).2 < (ty y).2) := fun y hy' => by
            rcases List.mem_cons.mp hy' with e | e
            · rw [e]; exact ⟨⟨hl.1, hl.2.1⟩, hrank⟩
            · exact ⟨(hy y e).1, fun ha => Nat.lt_trans (hrank ha) ((hy y e).2 hc0)⟩
          have hlen := nodup_len hL2 (fun y hy' => (hy2 y hy').1)
          rw [List.length_cons] at hlen
          have f7 := firstAt_T (d := d + 6) (S := S) hl.1 hl.2.1
          rw [a7] at f7
          exact mHdL_3 q0 q2 q4 q6 q7 (by omega) (by omega) (by omega) hc0 (hfi (d + 6)) fI_neg.1 (by omega) f7 (fun lv1 p0 p2 p4 p6 p7 => i2 (c :: L) hL2 hy2 d lv1 p0 p2 p4 p6 (by rw [p7, List.length_cons]))
        · have hrr := (XR_nm hX hF).2.2.1
          obtain ⟨t, _, _, _, _, _, _, _, _, bt, t1, t2, t108, ⟨N, tS⟩, _⟩ := HR_o hX.1 hl
          have hf : Ans (d + 9) 399 [.ref t, .int (nI 0), .long ((nI rr).toInt64), .long 0] Sr (some (.int (Int32.ofInt (-1)))) Sr := find_A (d := d) hX hF hl (Or.inl ek) hka t1
          rw [elk] at q3
          have hob := hX.1.ob hl
          obtain ⟨_, _, t', v2, v3, v4, v5, v6, v7, n', m, c1, _, _, _, _, _, c7, _⟩ := hob
          have et : t' = t := Option.some.inj (c1.1.symm.trans t1)
          subst et
          rcases c7 with ⟨c7, c8⟩ | ⟨k, k1, k2, c7, c8⟩
          · have ha0 : a = 0 := nI_j (by omega) (by omega) (a7.symm.trans c7)
            subst ha0
            exact rCwL_3 (d := d + 1) q0 q2 q3 (by omega) (by omega) bt t108 t1 hf tS t108 t1 tS c8 (fun lv1 p0 p2 p3 => i3 hF hX d lv1 p0 p2 p3)
          · have hak : a = k := nI_j (by omega) (by omega) (a7.symm.trans c7)
            subst hak
            have hla := (a8.resolve_left (by omega)).1
            have hba := (hX.1.ob hla).1
            exact rCwL_2 (d := d + 1) q0 q2 q3 (by omega) (by omega) bt t108 t1 hf tS t108 t1 tS c8 (by omega) (fun lv1 p0 p2 p3 => i3 hF hX d lv1 p0 p2 (by rw [p3]; exact congrArg _ (congrArg _ (if_neg (by omega)).symm)))
end
