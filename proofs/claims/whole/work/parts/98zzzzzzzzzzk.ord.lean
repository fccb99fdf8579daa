/-! DEEDS ON BOTH SIDES: which comes first -/
section
variable {f f' g : Nat → Nat} {n n' m i d q : Nat} {S : cS} {u u1 : Int64}
/-- less, the same, more -/
def sg (x y : Int) : Int32 := if x < y then Int32.ofInt (-1) else if x = y then nI 0 else nI 1
theorem sg_0 {x y : Int} : (sg x y = nI 0 ↔ x = y) ∧ (sm_c1 .eq (sg x y) true false = true ↔ x = y) := by
  unfold sg
  by_cases h : x < y
  · rw [if_pos h]
    exact ⟨⟨fun c => absurd c (by decide), fun c => by omega⟩, ⟨fun c => absurd c (by decide), fun c => by omega⟩⟩
  · rw [if_neg h]
    by_cases e : x = y
    · rw [if_pos e]
      exact ⟨⟨fun _ => e, fun _ => rfl⟩, ⟨fun _ => e, fun _ => by decide⟩⟩
    · rw [if_neg e]
      exact ⟨⟨fun c => absurd c (by decide), fun c => absurd c e⟩, ⟨fun c => absurd c (by decide), fun c => absurd c e⟩⟩
theorem cl_T : Ans (d + 9) 215 [.long u, .long u1] S (some (.int (sg u.toInt u1.toInt))) S := by
  have m := ml_215
  have go : ∀ {v : Int32}, Bod (d + 8) 215 0 [(0, .long u), (2, .long u1)] [] S (some (.int v)) S → Ans (d + 9) 215 [.long u, .long u1] S (some (.int v)) S := fun h => Ans.of (by rw [m]; exact Nat.le_of_ble_eq_true rfl) (Bod.lv (by rfl) h)
  unfold sg
  by_cases h : u < u1
  · rw [if_pos (Int64.lt_iff_toInt_lt.mp h)]
    exact go (jCl_3 (lg_ge.2 h))
  · rw [if_neg (fun c => h (Int64.lt_iff_toInt_lt.mpr c))]
    by_cases e : u = u1
    · rw [if_pos (by rw [e])]
      exact go (jCl_2 (lg_ge.1 h) (by rw [e]; exact lgne_F))
    · rw [if_neg (fun c => e (Int64.toInt_inj.mp c))]
      exact go (jCl_1 (lg_ge.1 h) (lgne_T e))
theorem lN_min {a : Nat} (ha : a < 2 ^ 64) : (lN a + (-9223372036854775808)).toInt = (a : Int) - 2 ^ 63 := by
  rw [Int64.toInt_add]
  unfold lN
  rw [Int64.toInt_ofNat', show Int64.size = 2 ^ 64 from rfl, show (-9223372036854775808 : Int64).toInt = -9223372036854775808 by decide]
  simp only [Int.bmod_def]
  omega
theorem cu_T {a b : Nat} (ha : a < 2 ^ 64) (hb : b < 2 ^ 64) : Ans (d + 10) 389 [.long (lN a), .long (lN b)] S (some (.int (sg a b))) S := by
  have m := ml_389
  have h := cl_T (d := d) (S := S) (u := lN a + (-9223372036854775808)) (u1 := lN b + (-9223372036854775808))
  have e : sg (lN a + (-9223372036854775808)).toInt (lN b + (-9223372036854775808)).toInt = sg a b := by
    rw [lN_min ha, lN_min hb]
    unfold sg
    by_cases c : (a : Int) < b
    · rw [if_pos c, if_pos (by omega)]
    · rw [if_neg c, if_neg (by omega)]
      by_cases c2 : (a : Int) = b
      · rw [if_pos c2, if_pos (by omega)]
      · rw [if_neg c2, if_neg (by omega)]
  rw [e] at h
  exact Ans.of (by rw [m]; exact Nat.le_of_ble_eq_true rfl) (Bod.lv (by rfl) (jCu_1 (d := d + 1) h))
/-- first the high part, then the low -/
theorem sg_lex {M a b a' b' : Nat} (hb : b < M) (hb' : b' < M) : (sg a a' ≠ nI 0 → sg ((a * M + b : Nat) : Int) ((a' * M + b' : Nat) : Int) = sg a a') ∧ (a = a' → sg ((a * M + b : Nat) : Int) ((a' * M + b' : Nat) : Int) = sg b b') := by
  have lt : ∀ {a b a' b' : Nat}, b < M → a < a' → a * M + b < a' * M + b' := fun {a b a' b'} hb h => by
    have h1 : (a + 1) * M ≤ a' * M := Nat.mul_le_mul_right M h
    rw [Nat.add_mul, Nat.one_mul] at h1
    omega
  refine ⟨fun h => ?_, fun h => ?_⟩
  · have hne : a ≠ a' := fun c => h (sg_0.1.mpr (by rw [c]))
    unfold sg
    rcases Nat.lt_or_ge a a' with c | c
    · have := lt (b := b) (b' := b') hb c
      rw [if_pos (by omega), if_pos (by omega)]
    · have := lt (b := b') (b' := b) hb' (show a' < a by omega)
      rw [if_neg (by omega), if_neg (by omega), if_neg (by omega), if_neg (by omega)]
  · subst h
    unfold sg
    by_cases c : b < b'
    · rw [if_pos (by omega), if_pos (by omega)]
    · rw [if_neg (by omega), if_neg (show ¬ (b : Int) < b' by omega)]
      by_cases c2 : b = b'
      · rw [if_pos (by omega), if_pos (by omega)]
      · rw [if_neg (by omega), if_neg (by omega)]
theorem bE_split (g : Nat → Nat) (a : Nat) : ∀ b, bE g (a + b) = bE g a * 2 ^ (8 * b) + bE (fun i => g (a + i)) b := by
  intro b
  induction b with
  | zero =>
    show bE g a = bE g a * 2 ^ 0 + 0
    rw [Nat.pow_zero, Nat.mul_one, Nat.add_zero]
  | succ b ih =>
    show 256 * bE g (a + b) + g (a + b) = bE g a * 2 ^ (8 * (b + 1)) + (256 * bE (fun i => g (a + i)) b + g (a + b))
    have e : bE g a * 2 ^ (8 * (b + 1)) = 256 * (bE g a * 2 ^ (8 * b)) := by
      rw [show 8 * (b + 1) = 8 + 8 * b by omega, Nat.pow_add, show (2 : Nat) ^ 8 = 256 by decide, Nat.mul_left_comm]
    rw [ih, e]
    omega
theorem bE_z : ∀ m, (∀ i, i < m → g i = 0) → bE g m = 0 := by
  intro m
  induction m with
  | zero => intro _; rfl
  | succ m ih =>
    intro h
    show 256 * bE g m + g m = 0
    rw [ih (fun i hi => h i (by omega)), h m (by omega)]
/-- a text's bytes as one number -/
def pdT (f : Nat → Nat) (n : Nat) : Nat → Nat := fun i => if i < n then f i else 0
def PPt (f : Nat → Nat) (n : Nat) : Nat := bE (pdT f n) 15
theorem pd_lt (hf : ∀ i, i < n → f i < 256) : ∀ i, pdT f n i < 256 := fun i => by
  unfold pdT
  split
  · exact hf i (by assumption)
  · omega
theorem xH_pd (hn : n ≤ 15) (hf : ∀ i, i < n → f i < 256) : xH f n % 2 ^ 56 = bE (pdT f n) 7 ∧ xL f n = bE (fun i => pdT f n (7 + i)) 8 := by
  have h7 : (if n ≤ 7 then bE f n * 2 ^ (56 - 8 * n) else bE f 7) = bE (pdT f n) 7 := by
    split
    · rename_i c
      obtain ⟨k, hk⟩ : ∃ k, 7 = n + k := ⟨7 - n, by omega⟩
      rw [hk, bE_split, bE_z (g := fun i => pdT f n (n + i)) k (fun i _ => if_neg (by omega)), Nat.add_zero, show 56 - 8 * n = 8 * k by omega]
      congr 1
      exact bE_congr (fun i hi => (if_pos hi).symm)
    · exact bE_congr (fun i hi => (if_pos (by omega)).symm)
  refine ⟨?_, ?_⟩
  · have hlt := bE_lt (f := pdT f n) (m := 7) (fun i _ => pd_lt hf i)
    unfold xH
    rw [h7]
    omega
  · unfold xL
    split
    · rename_i c
      exact (bE_z (g := fun i => pdT f n (7 + i)) 8 (fun i _ => if_neg (by omega))).symm
    · rename_i c
      obtain ⟨k, hk⟩ : ∃ k, 8 = (n - 7) + k := ⟨15 - n, by omega⟩
      have e : bE (fun i => pdT f n (7 + i)) 8 = bE (fun i => pdT f n (7 + i)) ((n - 7) + k) := by rw [← hk]
      rw [e, bE_split, bE_z (g := fun i => pdT f n (7 + (n - 7 + i))) k (fun i _ => if_neg (by omega)), Nat.add_zero, show 64 - 8 * (n - 7) = 8 * k by omega]
      congr 1
      exact bE_congr (fun i hi => (if_pos (by omega)).symm)
theorem PP_C (hn : n ≤ 15) (hf : ∀ i, i < n → f i < 256) : PPt f n = (xH f n % 2 ^ 56) * 2 ^ 64 + xL f n := by
  obtain ⟨e1, e2⟩ := xH_pd hn hf
  rw [e1, e2]
  exact bE_split (pdT f n) 7 8
theorem PP_R : PPt f n = bE (pdT f n) 8 * 2 ^ 56 + bE (fun i => pdT f n (8 + i)) 7 := bE_split (pdT f n) 8 7
theorem pB_pd : p_A f n = lN (bE (pdT f n) 8) ∧ p_B f n = lN (bE (fun i => pdT f n (8 + i)) 7 * 256 + n) := by
  refine ⟨rfl, ?_⟩
  unfold p_B
  congr 1
  show 256 * bE _ 7 + (if 7 = 7 then n else _) = _
  rw [if_pos rfl, Nat.mul_comm, bE_congr (g := fun i => pdT f n (8 + i)) (fun i hi => by
    show (if i = 7 then n else if 8 + i < n then f (8 + i) else 0) = pdT f n (8 + i)
    rw [if_neg (by omega)]
    rfl)]
end
