/-! STATEMENTS OF THE REFERENCE: 301, a statement as a whole -/
section
variable {β : Nat → Nat} {n : Nat} {E : Nat → Nat → Bool} {V : Nat → Int32} {T : Nat → Nat × Nat} {P : Nat → Int32 → Int32 × Int32} {own0 : Nat → Nat × Nat} {m u k1 : Nat} {S0 S S1 S2 : cS} {H B0 W d l c w t f f1 b j s : Nat} {X Y : Nat → Nat} {o1 o2 : List Op} {A A1 : Prop}
def stO (L k : Nat) (r : PSr) : PSr := sb r fun x => .inr (x.1, (1, [L], 0, 0) :: x.2.1, x.2.2.1, x.2.2.2)
/-- the first step, behind it what a statement comes to -/
theorem zG_st {z ind af k L : Nat} {lp : LpT} {sc : SCs} {at' : List Nat} {x : PT} (z1 : zO β n V (zPT (qK β n) (qI β n) V T) (agT T sc.1) own0 m u S0 H B0 X (X 2 - 1) S c w t (sc.1.length - 1) b k [(1, [L], 0, 0)] (sc.1.length - 1) S1) (kx : kX m S S1) (h : zG β n E V T own0 m u k1 S0 H B0 z ind lp sc at' X af S1 (c + 2) w t b k x S2) (hr : wR (qK β n) x.2.1 + 2 + 13 * rem β n x.1 ≤ 13 * rem β n k) : zG β n E V T own0 m u k1 S0 H B0 z ind lp sc at' X af S c w t b k (x.1, (1, [L], 0, 0) :: x.2.1, x.2.2.1, x.2.2.2) S2 := by
  obtain ⟨g1, g2, g3, g4, g5, g6, g7, g8, g9, g10, g11, g12, g13, g14, g15, g16⟩ := h
  have n1 : n60 [((1, [L], 0, 0) : Op)] := n60_1 (by show (1 : Nat) ≠ 60; decide)
  have bk1 : zbk (qK β n) c ((1, [L], 0, 0) :: x.2.1) = zbk (qK β n) (c + 2) x.2.1 := rfl
  have w1 : wR (qK β n) ((1, [L], 0, 0) :: x.2.1) = 2 + wR (qK β n) x.2.1 := rfl
  have nw1 : nwN (qK β n) ((1, [L], 0, 0) :: x.2.1) = nwN (qK β n) x.2.1 := by
    show nwO (qK β n) (1, [L], 0, 0) + nwN (qK β n) x.2.1 = _
    exact Nat.zero_add _
  have nt1 : ntN (qK β n) ((1, [L], 0, 0) :: x.2.1) = ntN (qK β n) x.2.1 := by
    show ntO (qK β n) (1, [L], 0, 0) + ntN (qK β n) x.2.1 = _
    exact Nat.zero_add _
  have h39 : sI S1 6139 = sI S 6139 := kX_nx kx (by decide)
  refine ⟨?_, kI_trans (kX_kI kx) g2, fun hz => (g3 hz).trans h39, g4, g5, fun hl o ho => ?_, by show wR (qK β n) ((1, [L], 0, 0) :: x.2.1) + 13 * rem β n x.1 ≤ _; rw [w1]; omega, by rw [nw1]; exact g8, by rw [nt1]; exact g9, g10, by rw [bk1]; exact g11, g12, g13, g14, g15, g16⟩
  · exact zO_app (o1 := [(1, [L], 0, 0)]) (Y := X) z1 g1 (fun _ => Nat.le_refl _) (fun q => agT_L g16 q)
  · rcases List.mem_cons.mp ho with e | e
    · rw [e]; show (1 : Nat) ≠ 60; decide
    · exact g6 hl o e
theorem zOu_st {z dp ind af k L : Nat} {v : Int32} {opn : Nat → Nat} {lp : LpT} {sc : SCs} {at' : List Nat} {r : PSr} (z1 : zO β n V (zPT (qK β n) (qI β n) V T) (agT T sc.1) own0 m u S0 H B0 X (X 2 - 1) S c w t (sc.1.length - 1) b k [(1, [L], 0, 0)] (sc.1.length - 1) S1) (kx : kX m S S1) (h : zOs β n E V T own0 m u k1 S0 H B0 W z opn dp ind lp sc at' X af S1 (c + 2) w t b k r v S2) : zOu β n E V T own0 m u k1 S0 H B0 W z opn dp ind lp sc at' X af S c w t b k (stO L k r) v S2 := by
  rcases h with ⟨l, hb, hv, hB⟩ | ⟨x, hx, hv, hG, hr⟩
  · refine Or.inl ⟨l, ?_, hv, hB⟩
    rcases hb with ⟨q, h1, h2⟩ | ⟨x, h1, h2, h3, h4⟩
    · exact Or.inl ⟨q, by rw [h1]; rfl, h2⟩
    · exact Or.inr ⟨(x.1, (1, [L], 0, 0) :: x.2.1, x.2.2.1, x.2.2.2), by rw [h1]; rfl, h2, h3, h4⟩
  · exact Or.inr ⟨(x.1, (1, [L], 0, 0) :: x.2.1, x.2.2.1, x.2.2.2), by rw [hx]; rfl, hv, zG_st z1 kx hG hr⟩
/-- a statement of a line, its newline -/
theorem zLn_nl {dp ind tr af k D : Nat} {v : Int32} {opn : Nat → Nat} {lp : LpT} {sc : SCs} {at' : List Nat} {res : PSr} (hX : zX β n V own0 m k1 S0) (h : zIs β n E V T own0 m u k1 S0 H B0 W 0 opn dp ind s lp tr sc at' X af c w t b k S) (hA : Ans D 304 [.ref 61] S (some (.int v)) S1) (g : zLn β n E V T own0 m u S0 H B0 W lp sc at' X S c w t b k res v S1) (hD : 9 ≤ D) : ∃ S2 v2, ((Ans D 304 [.ref 61] S (some (.int (nI 0))) S2 ∧ v2 = nI 0) ∨ ∃ S1, Ans D 304 [.ref 61] S (some (.int (nI 1))) S1 ∧ Ans D 332 [.ref 61] S1 (some (.int v2)) S2 ∧ (v2 = nI 0 ∨ v2 = nI 1)) ∧ zOs β n E V T own0 m u k1 S0 H B0 W 0 opn (dp + 1) ind lp sc at' X af S c w t b k res v2 S2 := by
  obtain ⟨h0, hr, hls, hK1, hI, hx1, hx2, hx3⟩ := h
  rcases g with ⟨h1, h2, h3⟩ | ⟨r, os, sc2, h1, h2, h3⟩
  · rw [h2] at hA
    exact ⟨S1, nI 0, Or.inl ⟨hA, rfl⟩, Or.inl ⟨_, zB_in (q := qL β n k) rfl |> fun q => by rw [h1]; exact q, rfl, h3⟩⟩
  · rw [h2] at hA
    obtain ⟨S2, v2, hA2, hR⟩ := zH_nl (d := D - 9) hX h0 hr hI h3
    rw [show D - 9 + 9 = D by omega] at hA2
    rw [h1]
    rcases hR with ⟨a1, a2, a3⟩ | ⟨a1, a2, a3, a4⟩
    · exact ⟨S2, v2, Or.inr ⟨S1, hA, hA2, Or.inl a2⟩, Or.inl ⟨_, by rw [a1]; exact zB_in (q := qL β n k) rfl, a2, a3⟩⟩
    · exact ⟨S2, v2, Or.inr ⟨S1, hA, hA2, Or.inr a2⟩, Or.inr ⟨_, a1, a2, a3, a4⟩⟩
/-- what is put behind a statement's first step -/
theorem zIs_st {z dp ind tr af k D : Nat} {opn : Nat → Nat} {lp : LpT} {sc : SCs} {at' : List Nat} (hX : zX β n V own0 m k1 S0) (hz : z = 0 ∨ z = 1) (h : zIn β n E V T own0 m u k1 S0 H B0 W z opn dp ind s lp tr sc at' X af c w t b k S) (hK1 : qK β n k ≠ 1) (hI : qI β n k = ind) (hD : 4 ≤ D) : ∃ S1, Ans D 302 [.ref 61, .int (nI 0), .int (nI (qL β n k))] S none S1 ∧ zO β n V (zPT (qK β n) (qI β n) V T) (agT T sc.1) own0 m u S0 H B0 X (X 2 - 1) S c w t (sc.1.length - 1) b k [(1, [qL β n k], 0, 0)] (sc.1.length - 1) S1 ∧ kX m S S1 ∧ zIs β n E V T own0 m u k1 S0 H B0 W z opn dp ind s lp tr sc at' X af (c + 2) w t b k S1 := by
  obtain ⟨h0, ⟨r1, r2, r3, r4, r5, r6⟩, hls, hb1, hb2, hb3⟩ := h
  obtain ⟨h1, h2, h3, h4, h5, h6, h7, h8, h9, h10, h11, h12, h13⟩ := id h0
  obtain ⟨q5, q6⟩ := rem_ge hK1
  have z0 : zO β n V (zPT (qK β n) (qI β n) V T) (agT T sc.1) own0 m u S0 H B0 X (X 2 - 1) S c w t (sc.1.length - 1) b k [] (sc.1.length - 1) S := zO_nil h1 h2 h3
  obtain ⟨S1, hA, z1, kx⟩ := zO_2 (d := D - 4) (o := (1, [qL β n k], 0, 0)) (x := nI 0) (y := nI (qL β n k)) hX z0 (by show c + 0 + 2 ≤ H; omega) h12 rfl (by show (1 : Nat) ≠ 16; decide) (by show (1 : Nat) ≠ 60; decide) (by show (1 : Nat) ≠ 23; decide) rfl
  rw [show D - 4 + 4 = D by omega] at hA
  have zE1 : zE own0 m u S0 H B0 (c + 2) w t (sc.1.length - 1) b S1 := z1.1
  refine ⟨S1, hA, z1, kx, zI0_X h0 kx zE1 z1.2.1 z1.2.2.1 (by omega) h9 h10 (Nat.le_refl _) h7 hK1 hI (fun j j1 j2 => by
    obtain rfl : j = k := by omega
    exact ⟨hK1, by omega⟩) rfl (scL_refl E sc) hz (Or.inl rfl), ⟨by omega, r2, r3, r4⟩, hls, hK1, hI, hb1, hb2, hb3⟩
end
