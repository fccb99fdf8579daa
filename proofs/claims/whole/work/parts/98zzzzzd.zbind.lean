/-! STATEMENTS OF THE REFERENCE: what is no word's statement -/
/-- how an expression begins -/
theorem px_1st {K : Nat → Nat} : ∀ F t d k a b r, t = 0 ∨ t = 2 ∨ t = 4 ∨ t = 5 ∨ t = 6 ∨ t = 8 ∨ t = 10 ∨ t = 11 ∨ t = 15 → px K F t d k a b = some r → K k = 3 ∨ K k = 4 ∨ K k = 5 ∨ K k = 6 ∨ K k = 8 ∨ K k = 10 ∨ K k = 16 ∨ K k = 59 ∨ K k = 61 ∨ K k = 62 ∨ K k = 63 := by
  intro F
  induction F with
  | zero => intro t d k a b r _ h; cases h
  | succ F ih =>
    have hL : ∀ t u d k r, t = 0 ∨ t = 2 ∨ t = 4 ∨ t = 5 ∨ t = 6 ∨ t = 8 ∨ t = 10 ∨ t = 11 ∨ t = 15 → pxL (px K F) t u d k = some r → K k = 3 ∨ K k = 4 ∨ K k = 5 ∨ K k = 6 ∨ K k = 8 ∨ K k = 10 ∨ K k = 16 ∨ K k = 59 ∨ K k = 61 ∨ K k = 62 ∨ K k = 63 := fun t u d k r ht h => by
      unfold pxL at h
      obtain ⟨r1, h1, h⟩ := Option.bind_eq_some_iff.mp h
      exact ih _ _ _ _ _ _ ht h1
    have hU : ∀ w op t u d k r, (w = 59 ∨ w = 16) → u = 5 ∨ u = 11 → pxU K (px K F) w op t u d k = some r → K k = 3 ∨ K k = 4 ∨ K k = 5 ∨ K k = 6 ∨ K k = 8 ∨ K k = 10 ∨ K k = 16 ∨ K k = 59 ∨ K k = 61 ∨ K k = 62 ∨ K k = 63 := fun w op t u d k r hw hu h => by
      unfold pxU at h
      split at h
      · omega
      · exact ih _ _ _ _ _ _ (by omega) h
    intro t d k a b r ht h
    replace h : pxS K (px K F) t d k a b = some r := h
    rcases ht with rfl | rfl | rfl | rfl | rfl | rfl | rfl | rfl | rfl
    · exact hL 2 _ _ _ _ (by decide) h
    · exact hL 4 _ _ _ _ (by decide) h
    · exact hU _ _ _ _ _ _ _ (by decide) (by decide) h
    · replace h : px5 K (px K F) d k = some r := h
      unfold px5 at h
      obtain ⟨r1, h1, h⟩ := Option.bind_eq_some_iff.mp h
      exact ih _ _ _ _ _ _ (by decide) h1
    · exact hL 8 _ _ _ _ (by decide) h
    · exact hL 10 _ _ _ _ (by decide) h
    · exact hU _ _ _ _ _ _ _ (by decide) (by decide) h
    · exact hL 15 _ _ _ _ (by decide) h
    · replace h : px15 K (px K F) d k = some r := h
      unfold px15 at h
      split at h
      · omega
      split at h
      · omega
      split at h
      · omega
      split at h
      · omega
      split at h
      · omega
      · cases h
theorem exs_1st {K : Nat → Nat} {s k : Nat} (h : K k = 41 ∨ K k = 42 ∨ K k = 45 ∨ K k = 55 ∨ K k = 57 ∨ K k = 58 ∨ K k = 60) : exs K s k = none := by
  cases hx : exs K s k with
  | none => rfl
  | some r =>
    obtain ⟨r0, h1, _⟩ := exs_px hx
    have := px_1st _ _ _ _ _ _ _ (Or.inl rfl) h1
    omega
section
variable {β : Nat → Nat} {n : Nat} {E : Nat → Nat → Bool} {V : Nat → Int32} {T : Nat → Nat × Nat} {P : Nat → Int32 → Int32 × Int32} {own0 : Nat → Nat × Nat} {m u k1 : Nat} {S0 S S1 S2 : cS} {H B0 W d l c w t f f1 b j s : Nat} {X Y : Nat → Nat} {o1 o2 : List Op} {A A1 : Prop}
theorem z_bind {dp ind tr af k e : Nat} {opn : Nat → Nat} {lp : LpT} {sc : SCs} {at' : List Nat} (hX : zX β n V own0 m k1 S0) (h : zIs β n E V T own0 m u k1 S0 H B0 W 0 opn dp ind s lp tr sc at' X af c w t b k S) (hD : 238 ≤ e + 9) : ∃ S1 v, Ans (e + 10) 305 [.ref 61] S (some (.int v)) S1 ∧ zLn β n E V T own0 m u S0 H B0 W lp sc at' X S c w t b k (psBind (qK β n) (qL β n) E s sc at' k) v S1 := by
  obtain ⟨h0, ⟨r1, r2, r3, r4⟩, hls, hK1, hI, hx1, hx2, hx3⟩ := id h
  obtain ⟨h1, h2, h3, h4, h5, h6, h7, h8, h9, h10, h11, h12, h13⟩ := id h0
  have hk1 := hX.2.1
  obtain ⟨q5, q6⟩ := rem_ge hK1
  obtain ⟨m1, m2, m3, m4, -⟩ := zE_m h1
  have hcM : c < 2 ^ 20 := by omega
  have ml : ∀ {v' : Int32} {Sf : cS}, Bod (e + 9) 305 0 [(0, .ref 61)] [] S (some (.int v')) Sf → Ans (e + 10) 305 [.ref 61] S (some (.int v')) Sf := fun p => Ans.of (by rw [ml_305]; exact Nat.le_of_ble_eq_true rfl) p
  obtain ⟨S1, v, hA, x1, x2⟩ := zIs_x (q := k) (D := e + 9) hX h0 (kX_refl m S) h1 h2 h3 h7 (by omega) (by omega) (by omega) (by omega)
  unfold psBind
  cases hex : exs (qK β n) s k with
  | none =>
    obtain ⟨a1, a2⟩ := x1 hex
    rw [a1] at hA
    exact ⟨S1, nI 0, ml (zAs_2 (d := e + 1) m1 m3 m2 m4 hcM hA), Or.inl ⟨rfl, rfl, a2⟩⟩
  | some r =>
    obtain ⟨a1, g4, kx1, n1, htg, hta⟩ := x2 r hex
    rw [a1] at hA
    obtain ⟨y1, y2, y3, y4, y5⟩ := exs_3 hex
    have z1 := g4 X (X 2 - 1)
    have hlg : r.2.1 < 5 := by
      by_cases hg : r.2.1 = 0
      · omega
      · obtain ⟨_, _, _, h2⟩ := ex_tg hex hg
        rcases h2 with ⟨e1, _⟩ | ⟨e1, _⟩ | ⟨e1, _⟩ <;> omega
    have hrk := r_k1 hX h7 y1
    obtain ⟨y6, y7, y8, y9⟩ := rm_run (β := β) (n := n) (k := k) (k1 := r.1) (by omega) y1
    have go : ∀ {v' : Int32} {Sf : cS}, (∀ lv : sm_L, sm_get lv 0 = some (.ref 61) → sm_get lv 1 = some (.int (nI c)) → sm_get lv 2 = some (.int (nI r.2.1)) → sm_get lv 3 = some (.int (sA S1 68 (r.1 - 1))) → Bod (e + 9) 305 35 lv [] S1 (some (.int v')) Sf) → Ans (e + 10) 305 [.ref 61] S (some (.int v')) Sf := fun hB => ml (zAs_1 (d := e + 1) m1 m3 m2 m4 hcM hA htg hlg z1.2.1 (Nat.lt_of_le_of_lt hrk hk1) (by omega) (fun lv a0 a1 a2 a3 => hB lv a0 a1 a2 a3))
    show ∃ S1 v, Ans (e + 10) 305 [.ref 61] S (some (.int v)) S1 ∧ zLn β n E V T own0 m u S0 H B0 W lp sc at' X S c w t b k (if qK β n r.1 = 19 then _ else if chO (qK β n r.1) = 0 then _ else _) v S1
    by_cases h19 : qK β n r.1 = 19
    · obtain ⟨S2, v2, hB, hO⟩ := z_eq (e := e) hX h hD hex z1 kx1 n1 hta y1 y2 y4 y5 hlg h19
      rw [if_pos h19]
      exact ⟨S2, v2, go hB, hO⟩
    rw [if_neg h19]
    by_cases h23 : qK β n r.1 = 23 ∨ qK β n r.1 = 24 ∨ qK β n r.1 = 25
    · obtain ⟨S2, v2, hB, hO⟩ := z_aug (e := e) hX h hD hex z1 kx1 n1 htg hta y1 y2 y3 y4 y5 hlg h23
      have hc : chO (qK β n r.1) ≠ 0 := by rcases h23 with e' | e' | e' <;> (rw [e']; decide)
      rw [if_neg hc]
      exact ⟨S2, v2, go hB, hO⟩
    · have hc : chO (qK β n r.1) = 0 := by
        unfold chO
        rw [if_neg (by omega), if_neg (by omega), if_neg (by omega)]
      rw [if_pos hc]
      obtain ⟨S2, hB, z2, kx2⟩ := z_pop (e := e) (lc := c) (lnm := sA S1 68 (r.1 - 1)) hX z1 (by omega) h12 hrk hcM hlg ⟨h19, fun q => h23 (Or.inl q), fun q => h23 (Or.inr (Or.inl q)), fun q => h23 (Or.inr (Or.inr q))⟩
      have wF : wR (qK β n) (r.2.2 ++ [(17, [], 0, 0)]) = wR (qK β n) r.2.2 + 1 := by rw [wR_app]; rfl
      have nF : nwN (qK β n) (r.2.2 ++ [(17, [], 0, 0)]) = nwN (qK β n) r.2.2 := by rw [nwN_app]; rfl
      have tF : ntN (qK β n) (r.2.2 ++ [(17, [], 0, 0)]) = ntN (qK β n) r.2.2 := by rw [ntN_app]; rfl
      exact ⟨S2, nI 1, go hB, Or.inr ⟨r.1, _, sc, rfl, rfl, zH_X h0 (kX_trans kx1 kx2) ⟨kX_refl m S, fun _ _ _ _ _ => kW_refl _ _ _ _ _ _ _⟩ z2 (n60_app.mpr ⟨n1, n60_1 (by show (17 : Nat) ≠ 60; decide)⟩) (by rw [wF]; omega) (by rw [nF]; exact y4) (by rw [tF]; exact y5) y1 y2 rfl (scL_refl E sc)⟩⟩
end
