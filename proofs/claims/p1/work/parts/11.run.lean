/-! SOUND, part 6: a method's body, a call, by the function -/
theorem sm_do_inv {X : Option (Nat × (Nat → Int32))} {j : Nat} {i : Instr} {n pc : Nat} {lv : sm_L} {st : List Value} {σ : sm_H} {u : Nat} {r : sm_O} (h : sm_do X j i n pc lv st σ u = some r) :
    (∃ st1, sm_ops i st = some (n, st1) ∧ r = .inl (pc + n, lv, st1, σ, u)) ∨
    (∃ lv1 st1, sm_loc (sm_ml j) i lv st = some (n, lv1, st1) ∧ r = .inl (pc + n, lv1, st1, σ, u)) ∨
    (∃ pc1 st1, sm_br i n pc st = some (pc1, st1) ∧ r = .inl (pc1, lv, st1, σ, u)) ∨
    (∃ st1, sm_rd X (sm_ow j) i st σ = some (n, st1) ∧ r = .inl (pc + n, lv, st1, σ, u)) ∨
    (∃ st1 σ1, sm_wr (sm_ow j) (sm_ini j) i st σ = some (n, st1, σ1) ∧ r = .inl (pc + n, lv, st1, σ1, u)) ∨
    (∃ st1 σ1 u1, sm_mk (sm_ow j) i st σ u = some (n, st1, σ1, u1) ∧ r = .inl (pc + n, lv, st1, σ1, u1)) ∨
    (∃ st1 σ1, sm_na (sm_ow j) i st σ = some (n, st1, σ1) ∧ r = .inl (pc + n, lv, st1, σ1, u)) ∨
    (∃ j1 as r1, sm_cl (sm_ow j) i st σ = some (j1, as, r1) ∧ n = 3 ∧ r = .inr (.inl (j1, as, pc + 3, lv, r1, σ, u))) ∨
    (∃ v, sm_end (sm_rt j) i st = some v ∧ n = 1 ∧ r = .inr (.inr (v, σ, u))) := by
  unfold sm_do at h
  split at h
  · rename_i k st1 hq
    split at h
    · rename_i hn
      cases h
      exact Or.inl ⟨st1, hn ▸ hq, rfl⟩
    · cases h
  split at h
  · rename_i k lv1 st1 hq
    split at h
    · rename_i hn
      cases h
      exact Or.inr (Or.inl ⟨lv1, st1, hn ▸ hq, rfl⟩)
    · cases h
  split at h
  · rename_i pc1 st1 hq
    cases h
    exact Or.inr (Or.inr (Or.inl ⟨pc1, st1, hq, rfl⟩))
  split at h
  · rename_i k st1 hq
    split at h
    · rename_i hn
      cases h
      exact Or.inr (Or.inr (Or.inr (Or.inl ⟨st1, hn ▸ hq, rfl⟩)))
    · cases h
  split at h
  · rename_i k st1 σ1 hq
    split at h
    · rename_i hn
      cases h
      exact Or.inr (Or.inr (Or.inr (Or.inr (Or.inl ⟨st1, σ1, hn ▸ hq, rfl⟩))))
    · cases h
  split at h
  · rename_i k st1 σ1 u1 hq
    split at h
    · rename_i hn
      cases h
      exact Or.inr (Or.inr (Or.inr (Or.inr (Or.inr (Or.inl ⟨st1, σ1, u1, hn ▸ hq, rfl⟩)))))
    · cases h
  split at h
  · rename_i k st1 σ1 hq
    split at h
    · rename_i hn
      cases h
      exact Or.inr (Or.inr (Or.inr (Or.inr (Or.inr (Or.inr (Or.inl ⟨st1, σ1, hn ▸ hq, rfl⟩))))))
    · cases h
  split at h
  · rename_i j1 as r1 hq
    split at h
    · rename_i hn
      cases h
      exact Or.inr (Or.inr (Or.inr (Or.inr (Or.inr (Or.inr (Or.inr (Or.inl ⟨j1, as, r1, hq, hn, rfl⟩)))))))
    · cases h
  split at h
  · rename_i v hq
    split at h
    · rename_i hn
      cases h
      exact Or.inr (Or.inr (Or.inr (Or.inr (Or.inr (Or.inr (Or.inr (Or.inr ⟨v, hq, hn, rfl⟩)))))))
    · cases h
  cases h
/-- cells and what was made only grow -/
theorem sm_run_mono {X : Option (Nat × (Nat → Int32))} {cal : Nat → List Value → sm_H → Nat → Option sm_R} (hcal : ∀ j1 as σ u v σ1 u1, cal j1 as σ u = some (v, σ1, u1) → σ.length ≤ σ1.length ∧ u ≤ u1) (j : Nat) :
    ∀ (n pc : Nat) (lv : sm_L) (st : List Value) (σ : sm_H) (u : Nat) (v : Option Value) (σ1 : sm_H) (u1 : Nat), sm_run X cal j n (pc, lv, st, σ, u) = some (v, σ1, u1) → σ.length ≤ σ1.length ∧ u ≤ u1 := by
  intro n
  induction n with
  | zero => intro pc lv st σ u v σ1 u1 h; cases h
  | succ n ih =>
    intro pc lv st σ u v σ1 u1 h
    unfold sm_run at h
    split at h
    · cases h
    · rename_i K1 hs
      unfold sm_step at hs
      dsimp only at hs
      split at hs
      · rename_i i k hd
        rcases sm_do_inv hs with ⟨st2, -, e⟩ | ⟨lv2, st2, -, e⟩ | ⟨pc2, st2, -, e⟩ | ⟨st2, -, e⟩ | ⟨st2, σ2, hq, e⟩ | ⟨st2, σ2, u2, hq, e⟩ | ⟨st2, σ2, hq, e⟩ | ⟨_, _, _, -, -, e⟩ | ⟨_, -, -, e⟩
        all_goals cases e
        all_goals have h1 := ih _ _ _ _ _ _ _ _ h
        · exact h1
        · exact h1
        · exact h1
        · exact h1
        · have := sm_len_wr hq; omega
        · have := sm_len_mk hq; omega
        · have := sm_len_na hq; omega
      · cases hs
    · rename_i j1 as pc2 lv2 r h2 u2 hs
      unfold sm_step at hs
      dsimp only at hs
      split at hs
      · rename_i i k hd
        rcases sm_do_inv hs with ⟨st2, -, e⟩ | ⟨lv2, st2, -, e⟩ | ⟨pc2, st2, -, e⟩ | ⟨st2, -, e⟩ | ⟨st2, σ2, hq, e⟩ | ⟨st2, σ2, u2, hq, e⟩ | ⟨st2, σ2, hq, e⟩ | ⟨_, _, _, -, -, e⟩ | ⟨_, -, -, e⟩
        all_goals cases e
        split at h
        · cases h
        · rename_i v3 h3 u3 hc
          have h1 := hcal _ _ _ _ _ _ _ hc
          have h4 := ih _ _ _ _ _ _ _ _ h
          omega
      · cases hs
    · rename_i R0 hs
      unfold sm_step at hs
      dsimp only at hs
      split at hs
      · rename_i i k hd
        rcases sm_do_inv hs with ⟨st2, -, e⟩ | ⟨lv2, st2, -, e⟩ | ⟨pc2, st2, -, e⟩ | ⟨st2, -, e⟩ | ⟨st2, σ2, hq, e⟩ | ⟨st2, σ2, u2, hq, e⟩ | ⟨st2, σ2, hq, e⟩ | ⟨_, _, _, -, -, e⟩ | ⟨_, -, -, e⟩
        all_goals cases e
        cases h
        exact ⟨Nat.le_refl _, Nat.le_refl _⟩
      · cases hs
theorem sm_ev_mono {X : Option (Nat × (Nat → Int32))} : ∀ (d n j : Nat) (as : List Value) (σ : sm_H) (u : Nat) (v : Option Value) (σ1 : sm_H) (u1 : Nat), sm_ev X d n j as σ u = some (v, σ1, u1) → σ.length ≤ σ1.length ∧ u ≤ u1 := by
  intro d
  induction d with
  | zero => intro n j as σ u v σ1 u1 h; cases h
  | succ d ih =>
    intro n j as σ u v σ1 u1 h
    unfold sm_ev at h
    split at h
    · exact sm_run_mono (fun j1 as σ u v σ1 u1 h => ih n j1 as σ u v σ1 u1 h) j n _ _ _ _ _ _ _ _ h
    · cases h
section SMX
variable {p : Program} {l : Launch} {e : Env} {R : Room} {s : State} {m : MethodId} {args : Array Value} {below : List Frame} {meth : Method} {c : Code} {Q : State → Prop}
variable {b : Nat} {x : Nat → Nat} {H0 : Heap} {D : va_G} {aC : Nat → ClassId} {X : Option (Nat × (Nat → Int32))}
theorem sm_run_ok {cal : Nat → List Value → sm_H → Nat → Option sm_R} {d : Nat} (hmono : ∀ j1 as σ u v σ1 u1, cal j1 as σ u = some (v, σ1, u1) → σ.length ≤ σ1.length ∧ u ≤ u1) (hcal : ∀ j1 as σ u v σ1 u1, j1 < mt_m.length → cal j1 as σ u = some (v, σ1, u1) → sm_Met l b x H0 D aC X d j1 as σ u v σ1 u1)
    {j n0 u0 : Nat} (hx : p.tables.exec = Jvm.exec) (hb : c.code = sm_cc j) (hml : c.maxLocals = sm_ml j) (G : sm_G b x H0 D aC X s) (hts : ∀ w ∈ sm_GW, w.before args s = true) (hown : s.vm.findClass (sm_on (sm_ow j)) = some m.cls) (hini : sm_ini j = true → meth.name = "<init>")
    (hs0 : s.heap.size = b + n0) (hR1 : d + 1 ≤ R.frames) (hR2 : 100 * (d + 1) ≤ R.locals) {v : Option Value} {σ1 : sm_H} {u1 : Nat} (hC : σ1.length ≤ n0 + R.cells) (hU : u1 ≤ u0 + R.slots)
    (RET : ∀ (pc : Nat) (i : Instr) (st : List Value) (H : Heap) (locs : List Loc) (ls : Array Slot), decode (sm_cc j) pc = .ok (i, 1) → sm_end (sm_rt j) i st = some v → sm_w b x H0 D aC σ1 H → (∀ q ∈ locs, b ≤ q.base) →
      W p l e R s m args below meth c H locs (σ1.length - n0) (u1 - u0) Q (F0 m pc ls (st.map (sm_r b x)))) :
    ∀ (n pc : Nat) (lv : sm_L) (st : List Value) (σ : sm_H) (u : Nat) (H : Heap) (locs : List Loc) (ls : Array Slot) (cells slots : Nat), sm_run X cal j n (pc, lv, st, σ, u) = some (v, σ1, u1) → sm_w b x H0 D aC σ H → (∀ q ∈ locs, b ≤ q.base) → lv_has ls (sm_ml j) (sm_lr b x lv) →
      σ.length = n0 + cells → u = u0 + slots → W p l e R s m args below meth c H locs cells slots Q (F0 m pc ls (st.map (sm_r b x))) := by
  intro n
  induction n with
  | zero => intro pc lv st σ u H locs ls cells slots h; cases h
  | succ n ih =>
    intro pc lv st σ u H locs ls cells slots h hw hL hl hσ hu
    have mono := sm_run_mono (X := X) hmono j n
    unfold sm_run at h
    split at h
    · cases h
    · rename_i K1 hs
      unfold sm_step at hs
      dsimp only at hs
      split at hs
      · rename_i i k hd
        rcases sm_do_inv hs with ⟨st2, hq, e⟩ | ⟨lv2, st2, hq, e⟩ | ⟨pc2, st2, hq, e⟩ | ⟨st2, hq, e⟩ | ⟨st2, σ2, hq, e⟩ | ⟨st2, σ2, u2, hq, e⟩ | ⟨st2, σ2, hq, e⟩ | ⟨_, _, _, -, -, e⟩ | ⟨_, -, -, e⟩
        all_goals cases e
        · exact sm_ops_ok hx hb hq hd (ih _ _ _ _ _ _ _ _ _ _ h hw hL hl hσ hu)
        · exact sm_loc_ok hx hb hq hd hl (fun ls1 hl1 => ih _ _ _ _ _ _ _ _ _ _ h hw hL hl1 hσ hu)
        · exact sm_br_ok hx hb hq hd (ih _ _ _ _ _ _ _ _ _ _ h hw hL hl hσ hu)
        · exact sm_rd_ok hx hb G hts hown hw hq hd (ih _ _ _ _ _ _ _ _ _ _ h hw hL hl hσ hu)
        · exact sm_wr_ok hx hb G hts hown hini hw hL hq hd (fun H1 locs1 hw1 hL1 => ih _ _ _ _ _ _ _ _ _ _ h hw1 hL1 hl (by rw [sm_len_wr hq]; exact hσ) hu)
        · obtain ⟨g1, g2⟩ := sm_len_mk hq
          obtain ⟨g3, g4⟩ := mono _ _ _ _ _ _ _ _ h
          exact sm_mk_ok hx hb G hts hown hw hq hd (by omega) (by omega) (fun H1 hw1 => ih _ _ _ _ _ _ _ _ _ _ h hw1 hL hl (by omega) (by omega))
        · exact sm_na_ok hx hb hml hl.1 G hts hown hw hL (by omega) (by omega) (by omega) hq hd (fun H1 locs1 hw1 hL1 => ih _ _ _ _ _ _ _ _ _ _ h hw1 hL1 hl (by rw [sm_len_na hq]; exact hσ) hu)
      · cases hs
    · rename_i j1 as pc2 lv2 r h2 u2 hs
      unfold sm_step at hs
      dsimp only at hs
      split at hs
      · rename_i i k hd
        rcases sm_do_inv hs with ⟨st2, -, e⟩ | ⟨lv2, st2, -, e⟩ | ⟨pc2, st2, -, e⟩ | ⟨st2, -, e⟩ | ⟨st2, σ2, hq, e⟩ | ⟨st2, σ2, u2, hq, e⟩ | ⟨st2, σ2, hq, e⟩ | ⟨j2, as2, r2, hq, hn, e⟩ | ⟨_, -, -, e⟩
        all_goals cases e
        subst hn
        split at h
        · cases h
        · rename_i v3 σ3 u3 hc
          obtain ⟨g1, g2⟩ := hmono _ _ _ _ _ _ _ hc
          obtain ⟨g3, g4⟩ := mono _ _ _ _ _ _ _ _ h
          exact sm_cl_ok (k := 0) (v := v3) (σ1 := σ3) (u := u) (u1 := u3) hx hb hml hl.1 G hts hown hw hL hR1 hR2 hq hd (fun hj => hcal _ _ _ _ _ _ _ hj hc) (by omega) (by omega) (fun H1 locs1 hw1 hL1 => ih _ _ _ _ _ _ _ _ _ _ h hw1 hL1 hl (by omega) (by omega))
      · cases hs
    · rename_i R0 hs
      unfold sm_step at hs
      dsimp only at hs
      split at hs
      · rename_i i k hd
        rcases sm_do_inv hs with ⟨st2, -, e⟩ | ⟨lv2, st2, -, e⟩ | ⟨pc2, st2, -, e⟩ | ⟨st2, -, e⟩ | ⟨st2, σ2, hq, e⟩ | ⟨st2, σ2, u2, hq, e⟩ | ⟨st2, σ2, hq, e⟩ | ⟨_, _, _, -, -, e⟩ | ⟨v2, hq, hn, e⟩
        all_goals cases e
        subst hn
        cases h
        have hR := RET pc i st H locs ls hd hq hw hL
        rw [show σ1.length - n0 = cells by omega, show u1 - u0 = slots by omega] at hR
        exact hR
      · cases hs
end SMX
