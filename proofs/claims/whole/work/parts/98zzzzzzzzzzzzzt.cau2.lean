/-! AN ERROR IS CAUGHT: on both sides; the reference's turns -/
section
variable {P : Nat → Prop} {T : cS} {gT : Nat} {Q : Nat → Prop} {β β' : Nat → Nat} {F : Nat → Nat → Nat → Prop} {loc par : Nat → Nat → Nat} {ty : Nat → Nat × Nat} {G : Nat → Nat → Nat → Nat × Nat × LL → Prop} {D D' K : List Nat} {z nn g0 g1 g3 g4 g5 gn d n m p q p' q' pT k e e1 oc ln tp h' u' i s t b h2 y er n' : Nat} {l : LL} {l2 : LL} {l' e0 : List (Nat × Nat)} {tq : Nat → Nat × Nat} {C r r0 L : List Lv} {x x0 : Lv} {S S' S1 X W Sc Sr : cS} {w : Nat → Int32} {St : (Nat → Prop) → cS → Prop} {ok : List Lv → Prop} {hi lo : Int64}
theorem rGo_refl : rGo d S S := fun _ _ hc lv q0 => hc lv q0
theorem rGo_t (h : rGo d S S1) (g : rGo d S1 W) : rGo d S W := fun v Sf hc lv q0 => h v Sf (g v Sf hc) lv q0
theorem rGo_1 (hf : ftR S) (hA : Ans (d + 8) 350 [.ref 61] S (some (.int 1)) W) : rGo (d + 8) S W := fun v Sf hc lv q0 => by
  obtain ⟨cl, m, zm, a, N, q, e, h1, h2, h3, h4, h5, h6, h7, h8, h9, h10, h11, h12, h13, h14⟩ := hf
  have hq : q < 2 ^ 20 := by omega
  exact rWkL_2 (d := d) q0 h1 h2 h3 h4 h5 h6 h7 h8 h9 h10 hq h11 h12 (by omega) h14 hA hc
theorem rGo_n : ∀ n {S : cS}, rRn (d + 8) n S 1 W → rGo (d + 8) S W
  | 0, S, h => by
    obtain ⟨_, h2⟩ := h
    rw [h2]
    exact rGo_refl
  | n + 1, S, h => by
    obtain ⟨hf, h2⟩ := h
    rcases h2 with ⟨c, _⟩ | ⟨S1, hA, h3⟩
    · exact absurd c (by decide)
    · have g1 : rGo (d + 8) S S1 := rGo_1 hf hA
      have g2 : rGo (d + 8) S1 W := rGo_n n h3
      exact rGo_t g1 g2
theorem rGo_x (h : ∃ n, rRn (d + 8) n S 1 W) : rGo (d + 8) S W := by
  obtain ⟨n, hn⟩ := h
  exact rGo_n n hn
/-- the reference's turn that fails where a try is open -/
theorem rGo_ct : ∀ n {S : cS}, rRn (d + 8) n S 0 W → sI W 6164 = nI er → er < 2 ^ 20 → er ≠ 100 → sI W 6163 = nI (t + 1) → t < 400 → sA W 101 t = nI n' → n' < 31 → sA W 103 t = nI tp → tp < 2 ^ 20 → sA W 102 t = nI q → q < 2 ^ 20 → rGo (d + 8) S (wI 6167 (nI er) (wA 95 n' (nI q) (wI 6151 (nI tp) (wI 6159 (nI (n' + 1)) (wI 6163 (nI t) W)))))
  | 0, S, h, _, _, _, _, _, _, _, _, _, _, _ => absurd h.1 (by decide)
  | n + 1, S, h, a1, a2, a3, a4, a5, a6, a7, a8, a9, b1, b2 => by
    obtain ⟨hf, h2⟩ := h
    rcases h2 with ⟨_, hA⟩ | ⟨S1, hA, h3⟩
    · obtain ⟨cl, m, zm, a, N, q', e, h1, h2, h3, h4, h5, h6, h7, h8, h9, h10, h11, h12, h13, h14⟩ := hf
      have hq : q' < 2 ^ 20 := by omega
      intro v Sf hc lv q0
      have e101 : sA (wI 6163 (nI (t + 1 - 1)) W) 101 (t + 1 - 1) = nI n' := a6
      have e103 : sA (wI 6159 (nI (n' + 1)) (wI 6163 (nI (t + 1 - 1)) W)) 103 (t + 1 - 1) = nI tp := a8
      have e102 : sA (wI 6151 (nI tp) (wI 6159 (nI (n' + 1)) (wI 6163 (nI (t + 1 - 1)) W))) 102 (t + 1 - 1) = nI q := b1
      exact rWkL_4 (d := d) q0 h1 h2 h3 h4 h5 h6 h7 h8 h9 h10 hq h11 h12 (by omega) h14 hA a1 a2 a3 a4 (by omega) (by omega) (by omega) e101 (by omega) e103 a9 (by omega) e102 b2 a7 hc
    · have g1 : rGo (d + 8) S S1 := rGo_1 hf hA
      have g2 := @rGo_ct n S1 h3 a1 a2 a3 a4 a5 a6 a7 a8 a9 b1 b2
      exact rGo_t g1 g2
/-- the reference's turn that fails for good -/
theorem rFin : ∀ n {S : cS}, rRn (d + 8) n S 0 W → sI W 6164 = nI er → er < 2 ^ 20 → (er = 100 ∨ sI W 6163 = nI 0) → (er ≠ 100 → ∃ t, t < 401 ∧ sI W 6163 = nI t) → sI W 6159 = nI (n' + 1) → n' < 31 → sA W 98 n' = nI ln → ln < 2 ^ 20 → ∀ lv, sm_get lv 0 = some (.ref 61) → Bod (d + 8) 348 32 lv [] S (some (.int (nI er))) (wI 6151 (nI 0) (wI 6159 (nI 0) (wI 6168 (nI ln) W)))
  | 0, S, h, _, _, _, _, _, _, _, _ => absurd h.1 (by decide)
  | n + 1, S, h, a1, a2, a3, a4, a5, a6, a7, a8 => by
    obtain ⟨hf, h2⟩ := h
    rcases h2 with ⟨_, hA⟩ | ⟨S1, hA, h3⟩
    · obtain ⟨cl, m, zm, a, N, q', e, h1, h2, h3, h4, h5, h6, h7, h8, h9, h10, h11, h12, h13, h14⟩ := hf
      have hq : q' < 2 ^ 20 := by omega
      intro lv q0
      have e98 : sA W 98 (n' + 1 - 1) = nI ln := a7
      by_cases c : er = 100
      · exact rWkL_3 (d := d) q0 h1 h2 h3 h4 h5 h6 h7 h8 h9 h10 hq h11 h12 (by omega) h14 hA a1 a2 c a5 (by omega) (by omega) e98 a8
      · exact rWkL_5 (d := d) q0 h1 h2 h3 h4 h5 h6 h7 h8 h9 h10 hq h11 h12 (by omega) h14 hA a1 a2 c (a3.resolve_left c) (by omega) rfl a5 (by omega) (by omega) e98 a8
    · intro lv q0
      exact rGo_1 hf hA _ _ (rFin n h3 a1 a2 a3 a4 a5 a6 a7 a8) lv q0
end
