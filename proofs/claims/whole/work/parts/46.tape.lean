/-! THE TAPES OF BOTH SIDES HOLD THE SAME: feed, end keep it -/
/-- the class's state behind a feed -/
def c_feed (t : Nat) (a b x y z : Int32) (S : cS) : cS := c_put4 (t + 16) z (c_put4 (t + 12) y (c_put4 (t + 8) x (c_put4 (t + 4) b (c_put4 t a S))))
theorem cfeed_A (t : Nat) (a b x y z : Int32) (S : cS) (c k : Nat) : sA (c_feed t a b x y z S) c k = if c = 1 ∧ t ≤ k ∧ k < t + 20 then c_b4 (w_five a b x y z ((k - t) / 4)) ((k - t) % 4) else sA S c k := by
  unfold c_feed
  rw [put4_A, put4_A, put4_A, put4_A, put4_A]
  by_cases h : c = 1 ∧ t ≤ k ∧ k < t + 20
  · rw [if_pos h]
    have hq : (k - t) / 4 = 0 ∨ (k - t) / 4 = 1 ∨ (k - t) / 4 = 2 ∨ (k - t) / 4 = 3 ∨ (k - t) / 4 = 4 := by omega
    rcases hq with e | e | e | e | e
    · rw [if_neg (by omega), if_neg (by omega), if_neg (by omega), if_neg (by omega), if_pos (by omega), e, show k - t = (k - t) % 4 by omega, Nat.mod_mod]; rfl
    · rw [if_neg (by omega), if_neg (by omega), if_neg (by omega), if_pos (by omega), e, show k - (t + 4) = (k - t) % 4 by omega]; rfl
    · rw [if_neg (by omega), if_neg (by omega), if_pos (by omega), e, show k - (t + 8) = (k - t) % 4 by omega]; rfl
    · rw [if_neg (by omega), if_pos (by omega), e, show k - (t + 12) = (k - t) % 4 by omega]; rfl
    · rw [if_pos (by omega), e, show k - (t + 16) = (k - t) % 4 by omega]; rfl
  · rw [if_neg h, if_neg (by omega), if_neg (by omega), if_neg (by omega), if_neg (by omega), if_neg (by omega)]
theorem cfeed_I (t : Nat) (a b x y z : Int32) (S : cS) {i : Nat} (h : i ≠ 7) : sI (c_feed t a b x y z S) i = sI S i := by
  unfold c_feed
  rw [put4_I _ _ _ h, put4_I _ _ _ h, put4_I _ _ _ h, put4_I _ _ _ h, put4_I _ _ _ h]
theorem cfeed_7 (t : Nat) (a b x y z : Int32) (S : cS) : sI (c_feed t a b x y z S) 7 = nI (t + 20) := put4_7 _ _ _
theorem cfeed_J (t : Nat) (a b x y z : Int32) (S : cS) : sJ (c_feed t a b x y z S) = sJ S := by
  unfold c_feed
  rw [put4_J, put4_J, put4_J, put4_J, put4_J]
theorem cfeed_L (t : Nat) (a b x y z : Int32) (S : cS) : sL (c_feed t a b x y z S) = sL S := by
  unfold c_feed
  rw [put4_L, put4_L, put4_L, put4_L, put4_L]
theorem cfeed_V (t : Nat) (a b x y z : Int32) (S : cS) : sV (c_feed t a b x y z S) = sV S := by
  unfold c_feed
  rw [put4_V, put4_V, put4_V, put4_V, put4_V]
theorem cfeed_Q (t : Nat) (a b x y z : Int32) (S : cS) : sQ (c_feed t a b x y z S) = sQ S := by
  unfold c_feed
  rw [put4_Q, put4_Q, put4_Q, put4_Q, put4_Q]
theorem cfeed_S (t : Nat) (a b x y z : Int32) (S : cS) : sS (c_feed t a b x y z S) = sS S := by
  unfold c_feed
  rw [put4_S, put4_S, put4_S, put4_S, put4_S]
theorem cfeed_mu (t : Nat) (a b x y z : Int32) (S : cS) : mu (c_feed t a b x y z S) = mu S := by
  unfold c_feed
  rw [put4_mu, put4_mu, put4_mu, put4_mu, put4_mu]
/-- both sides' state behind a feed -/
def b_feed (t : Nat) (a b x y z : Int32) (S : cS) : cS := wI 6175 (nI (t + 20)) (r_put (w_five a b x y z) t 0 20 (r_five a b x y z (c_feed t a b x y z S)))
theorem bfeed_A (t : Nat) (a b x y z : Int32) (S : cS) {c : Nat} (hc : c < 108) (k : Nat) : sA (b_feed t a b x y z S) c k = if (c = 1 ∨ c = 107) ∧ t ≤ k ∧ k < t + 20 then c_b4 (w_five a b x y z ((k - t) / 4)) ((k - t) % 4) else sA S c k := by
  unfold b_feed
  rw [rIA, rput_A, five_A _ _ _ _ _ _ (by omega), cfeed_A, Nat.add_zero]
  by_cases h1 : c = 107
  · by_cases h2 : t ≤ k ∧ k < t + 20
    · rw [if_pos ⟨h1, h2⟩, if_pos ⟨Or.inr h1, h2⟩]
    · rw [if_neg (fun h => h2 h.2), if_neg (fun h => h2 h.2), if_neg (fun h => h2 h.2)]
  · rw [if_neg (fun h => h1 h.1)]
    by_cases h2 : c = 1 ∧ t ≤ k ∧ k < t + 20
    · rw [if_pos h2, if_pos ⟨Or.inl h2.1, h2.2⟩]
    · rw [if_neg h2, if_neg (fun h => h2 ⟨h.1.resolve_right h1, h.2⟩)]
theorem bfeed_I (t : Nat) (a b x y z : Int32) (S : cS) {i : Nat} (h : i ≠ 7) (h2 : i ≠ 6175) : sI (b_feed t a b x y z S) i = sI S i := by
  unfold b_feed
  rw [rIn _ _ h2, rput_I, five_I, cfeed_I _ _ _ _ _ _ _ h]
theorem bfeed_7 (t : Nat) (a b x y z : Int32) (S : cS) : sI (b_feed t a b x y z S) 7 = nI (t + 20) := by
  unfold b_feed
  rw [rIn _ _ (by decide), rput_I, five_I, cfeed_7]
theorem bfeed_r (t : Nat) (a b x y z : Int32) (S : cS) : sI (b_feed t a b x y z S) 6175 = nI (t + 20) := rIe _ _ _
theorem bfeed_J (t : Nat) (a b x y z : Int32) (S : cS) : sJ (b_feed t a b x y z S) = sJ S := by
  unfold b_feed
  rw [show ∀ (v : Int32) (S3 : cS), sJ (wI 6175 v S3) = sJ S3 from fun _ _ => rfl, rput_J, five_J, cfeed_J]
theorem bfeed_L (t : Nat) (a b x y z : Int32) (S : cS) : sL (b_feed t a b x y z S) = sL S := by
  unfold b_feed
  rw [show ∀ (v : Int32) (S3 : cS), sL (wI 6175 v S3) = sL S3 from fun _ _ => rfl, rput_L, five_L, cfeed_L]
theorem bfeed_V (t : Nat) (a b x y z : Int32) (S : cS) : sV (b_feed t a b x y z S) = sV S := by
  unfold b_feed
  rw [rIV, rput_V, five_V, cfeed_V]
theorem bfeed_Q (t : Nat) (a b x y z : Int32) (S : cS) : sQ (b_feed t a b x y z S) = sQ S := by
  unfold b_feed
  rw [rIQ, rput_Q, five_Q, cfeed_Q]
theorem bfeed_S (t : Nat) (a b x y z : Int32) (S : cS) : sS (b_feed t a b x y z S) = sS S ++ [(0, 5)] := by
  unfold b_feed
  rw [rIS, rput_S, five_S, cfeed_S]
theorem bfeed_mu (t : Nat) (a b x y z : Int32) (S : cS) : mu (b_feed t a b x y z S) = mu S + 5 := by
  unfold b_feed
  rw [mu_I, rput_mu, five_mu, cfeed_mu]
/-- both tapes: as long, and of the same bytes -/
def b_tape (t : Nat) (S : cS) : Prop := sI S 7 = nI t ∧ sI S 6175 = nI t ∧ t ≤ 3000 ∧ ∀ k, k < t → sA S 1 k = sA S 107 k
theorem tape_feed {t : Nat} {a b x y z : Int32} {S : cS} (h : b_tape t S) (hM : t + 20 ≤ 3000) : b_tape (t + 20) (b_feed t a b x y z S) := ⟨bfeed_7 _ _ _ _ _ _ _, bfeed_r _ _ _ _ _ _ _, hM, fun k hk => by
  rw [bfeed_A _ _ _ _ _ _ _ (by decide), bfeed_A _ _ _ _ _ _ _ (by decide)]
  by_cases h2 : t ≤ k
  · rw [if_pos ⟨Or.inl rfl, h2, hk⟩, if_pos ⟨Or.inr rfl, h2, hk⟩]
  · rw [if_neg (fun h3 => h2 h3.2.1), if_neg (fun h3 => h2 h3.2.1)]
    exact h.2.2.2 k (by omega)⟩
theorem tape_end {t q : Nat} {S : cS} (h : b_tape t S) (hq : q ≤ t) : b_tape q (wI 6175 (nI q) (wI 7 (nI q) S)) := ⟨(rIn _ _ (by decide)).trans (rIe _ _ _), rIe _ _ _, Nat.le_trans hq h.2.2.1, fun k hk => h.2.2.2 k (Nat.lt_of_lt_of_le hk hq)⟩
theorem feed_St2 {Inv : Nat → cS → Prop} {k t : Nat} {S : cS} {a b x y z : Int32} (h : b_tape t S) (hI : Inv (k + 1) S) (hI2 : t + 20 ≤ 3000 → Inv (k + 1) (b_feed t a b x y z S)) : c_St Inv k S 27 282 [.int a, .int b, .int x, .int y, .int z] := feed_St h.1 h.2.1 h.2.2.1 hI (fun h3 S1 h4 => by
  rw [h4]
  exact hI2 h3)
theorem end_St2 {Inv : Nat → cS → Prop} {k t : Nat} {S : cS} {a : Int32} (h : b_tape t S) (hI : Inv (k + 1) S) (hI2 : ∀ q, q ≤ t → Inv (k + 1) (wI 6175 (nI q) (wI 7 (nI q) S))) : c_St Inv k S 29 283 [.int a] := end_St h.1 h.2.1 h.2.2.1 hI hI2
