/-! WHERE NAMES ARE, PURE: the class's place of a name is the reference's -/
def rpl (p : Option (Nat × Nat)) : Int32 × Int32 := match p with
  | none => (Int32.ofInt (-1), nI 0)
  | some q => (nI q.1, nI q.2)
section
variable {β : Nat → Nat} {n k1 : Nat} {V : Nat → Int32} {E : Nat → Nat → Bool} {sc : SCs} {T : Nat → Nat × Nat} {x : PT}
theorem plc_w {s0 k : Nat} (hE : eqV E (qK β n) V) (hK : enK (qK β n) sc) (hg : ∀ u, 1 ≤ u → u < sc.1.length → gsc β n V sc u) (hT : agT T sc.1) (hk : qK β n k = 3) : ∀ (d u t f m : Nat), inD sc.1 d u → u < sc.1.length → d < f → d < m → u < s0 → wlk (qK β n) (qI β n) V T f t u (V k) = rpl (plc E sc s0 k m u t) := by
  intro d
  induction d with
  | zero =>
    intro u t f m h hu hf hm hs
    obtain ⟨f, rfl⟩ : ∃ y, f = y + 1 := ⟨f - 1, by omega⟩
    obtain ⟨m, rfl⟩ : ∃ y, m = y + 1 := ⟨m - 1, by omega⟩
    have h0 : u = 0 := h
    unfold wlk plc
    rw [if_pos h0, if_pos h0]
    rfl
  | succ d ih =>
    intro u t f m h hu hf hm hs
    obtain ⟨f, rfl⟩ : ∃ y, f = y + 1 := ⟨f - 1, by omega⟩
    obtain ⟨m, rfl⟩ : ∃ y, m = y + 1 := ⟨m - 1, by omega⟩
    unfold wlk plc
    by_cases h0 : u = 0
    · rw [if_pos h0, if_pos h0]
      rfl
    · rw [if_neg h0, if_neg h0]
      rcases h with h | ⟨e, e1, e2⟩
      · exact absurd h h0
      · obtain ⟨g1, g2⟩ := gsc_k hE hK (hg u (by omega) hu) e1 hk
        have hTu : T u = (e.1, e.2.2.2) := hT u e e1
        have hSu : scI sc u = e := by
          unfold scI
          rw [List.getD_eq_getElem?_getD, e1]
          rfl
        rw [hTu, hSu]
        dsimp only
        have hi := ih e.1 (t + 1) f m e2 (by omega) (by omega) (by omega) (by omega)
        cases hx : scX E sc u k with
        | none =>
          rw [hx] at g2
          dsimp only at g2 ⊢
          rw [g2.1]
          exact hi
        | some i =>
          rw [hx] at g2
          dsimp only at g2 ⊢
          by_cases hk2 : sKd sc.2 i ≠ 2
          · rw [if_pos hk2] at g2 ⊢
            rw [g2.1]
            rfl
          · rw [if_neg hk2] at g2 ⊢
            rw [g2.1, if_neg (by omega)]
            exact hi
theorem plc_T {s k : Nat} (hE : eqV E (qK β n) V) (hK : enK (qK β n) sc) (hg : ∀ u, 1 ≤ u → u < sc.1.length → gsc β n V sc u) (hD : ∀ u, 1 ≤ u → u < sc.1.length → inD sc.1 10 u) (hT : agT T sc.1) (hk : qK β n k = 3) (hs : s < sc.1.length) : zPT (qK β n) (qI β n) V T s (V k) = rpl (plc E sc s k 300 s 0) := by
  unfold zPT
  by_cases h0 : s = 0
  · subst h0
    rw [if_neg (fun q => q.1 rfl)]
    rfl
  · rcases hD s (by omega) hs with h | ⟨e, e1, e2⟩
    · exact absurd h h0
    · obtain ⟨g1, g2⟩ := gsc_k hE hK (hg s (by omega) hs) e1 hk
      have hTu : T s = (e.1, e.2.2.2) := hT s e e1
      have hSu : scI sc s = e := by
        unfold scI
        rw [List.getD_eq_getElem?_getD, e1]
        rfl
      have hi := plc_w (s0 := s) hE hK hg hT hk 9 e.1 (0 + 1) 19 299 e2 (by omega) (by omega) (by omega) g1
      have ew : wlk (qK β n) (qI β n) V T 20 0 s (V k) = match (lcO (qK β n) (qI β n) V e.2.2.2).1.findIdx? (fun y => y == V k) with
          | some i => (nI 0, nI i)
          | none => wlk (qK β n) (qI β n) V T 19 (0 + 1) e.1 (V k) := by
        show (if s = 0 then _ else match (lcO (qK β n) (qI β n) V (T s).2).1.findIdx? (fun y => y == V k) with
          | some i => (nI 0, nI i)
          | none => wlk (qK β n) (qI β n) V T 19 (0 + 1) (T s).1 (V k)) = _
        rw [if_neg h0, hTu]
      have ep : plc E sc s k 300 s 0 = match scX E sc s k with
          | none => plc E sc s k 299 e.1 (0 + 1)
          | some i => if sKd sc.2 i ≠ 2 then some (0, slC sc.2 i s) else if s = s then none else plc E sc s k 299 e.1 (0 + 1) := by
        show (if s = 0 then none else match scX E sc s k with
          | none => plc E sc s k 299 (scI sc s).1 (0 + 1)
          | some i => if sKd sc.2 i ≠ 2 then some (0, slC sc.2 i s) else if s = s then none else plc E sc s k 299 (scI sc s).1 (0 + 1)) = _
        rw [if_neg h0, hSu]
      rw [ew, ep, hTu]
      dsimp only
      cases hx : scX E sc s k with
      | none =>
        rw [hx] at g2
        dsimp only at g2 ⊢
        rw [if_neg (fun q => g2.2 q.2), g2.1]
        exact hi
      | some i =>
        rw [hx] at g2
        dsimp only at g2 ⊢
        by_cases hk2 : sKd sc.2 i ≠ 2
        · rw [if_pos hk2] at g2 ⊢
          rw [if_neg (fun q => g2.2 q.2), g2.1]
          rfl
        · rw [if_neg hk2] at g2 ⊢
          rw [if_pos ⟨h0, g2.2⟩, if_pos rfl]
          rfl
/-- of a text that is good -/
theorem psT_plc {F : Nat} (hZ : zTk β n k1) (hE : eqV E (qK β n) V) (h : ps (qK β n) (qL β n) (qI β n) E F 1 0 0 0 none 0 0 0 sc0 [] 0 = .inr x) (hT : agT T x.2.2.1.1) : ∀ s k, qK β n k = 3 → s < x.2.2.1.1.length → zPT (qK β n) (qI β n) V T s (V k) = rpl (plc E x.2.2.1 s k 300 s 0) := by
  obtain ⟨g1, g2, g3⟩ := psT_V hZ hE h
  obtain ⟨_, d1, d2⟩ := ps_D F _ _ _ _ _ _ _ _ _ _ _ _ h (show inD sc0.1 0 0 from rfl) (Nat.lt_succ_self 0)
  exact fun s k hk hs => plc_T hE g2 g1 (fun u h1 h2 => d2 u h1 h2) hT hk hs
end
