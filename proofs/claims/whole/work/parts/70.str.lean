/-! STRINGS: what both make of bytes -/
/-- bytes as a number, the first one highest -/
def bE (f : Nat → Nat) : Nat → Nat
  | 0 => 0
  | m + 1 => 256 * bE f m + f m
theorem bE_congr {f g : Nat → Nat} : ∀ {m : Nat}, (∀ i, i < m → f i = g i) → bE f m = bE g m := by
  intro m
  induction m with
  | zero => intro _; rfl
  | succ m ih => intro h; show 256 * bE f m + f m = 256 * bE g m + g m; rw [ih (fun i hi => h i (by omega)), h m (by omega)]
theorem bE_lt {f : Nat → Nat} : ∀ {m : Nat}, (∀ i, i < m → f i < 256) → bE f m < 2 ^ (8 * m) := by
  intro m
  induction m with
  | zero => intro _; exact Nat.one_pos
  | succ m ih =>
    intro h
    have h1 := ih (fun i hi => h i (by omega))
    have h2 := h m (by omega)
    have e : 2 ^ (8 * (m + 1)) = 256 * 2 ^ (8 * m) := by rw [Nat.mul_succ, Nat.pow_add, Nat.mul_comm]
    show 256 * bE f m + f m < _
    rw [e]
    omega
theorem bE_inj {f g : Nat → Nat} : ∀ {m : Nat}, (∀ i, i < m → f i < 256) → (∀ i, i < m → g i < 256) → bE f m = bE g m → ∀ i, i < m → f i = g i := by
  intro m
  induction m with
  | zero => intro _ _ _ i hi; omega
  | succ m ih =>
    intro hf hg h i hi
    have h0 : 256 * bE f m + f m = 256 * bE g m + g m := h
    have h1 := hf m (by omega)
    have h2 := hg m (by omega)
    by_cases e : i = m
    · subst e; omega
    · exact ih (fun i hi => hf i (by omega)) (fun i hi => hg i (by omega)) (by omega) i (by omega)
/-- a name or string of the class -/
def e_H (f : Nat → Nat) : Nat → Int64
  | 0 => 3458764513820540928
  | m + 1 => c_appHi (e_H f m) (nI (f m))
def e_L (f : Nat → Nat) : Nat → Int64
  | 0 => 0
  | m + 1 => c_appLo (e_H f m) (e_L f m) (nI (f m))
theorem nmH_e (S : cS) (p : Nat) : ∀ m, c_nmH S p m = e_H (fun i => c_byte S (p + i)) m := by
  intro m
  induction m with
  | zero => rfl
  | succ m ih => show c_appHi _ _ = c_appHi _ _; rw [ih]
theorem nmL_e (S : cS) (p : Nat) : ∀ m, c_nmL S p m = e_L (fun i => c_byte S (p + i)) m := by
  intro m
  induction m with
  | zero => rfl
  | succ m ih => show c_appLo _ _ _ = c_appLo _ _ _; rw [ih, nmH_e]
theorem e_H_congr {f g : Nat → Nat} : ∀ {m : Nat}, (∀ i, i < m → f i = g i) → e_H f m = e_H g m := by
  intro m
  induction m with
  | zero => intro _; rfl
  | succ m ih => intro h; show c_appHi _ _ = c_appHi _ _; rw [ih (fun i hi => h i (by omega)), h m (by omega)]
theorem e_L_congr {f g : Nat → Nat} : ∀ {m : Nat}, (∀ i, i < m → f i = g i) → e_L f m = e_L g m := by
  intro m
  induction m with
  | zero => intro _; rfl
  | succ m ih => intro h; show c_appLo _ _ _ = c_appLo _ _ _; rw [ih (fun i hi => h i (by omega)), e_H_congr (fun i hi => h i (by omega)), h m (by omega)]
theorem lN_inj {a b : Nat} (ha : a < 2 ^ 64) (hb : b < 2 ^ 64) (h : lN a = lN b) : a = b := by
  have := congrArg (fun x : Int64 => x.toBitVec.toNat) h
  simp only [wb_tn ha, wb_tn hb] at this
  exact this
theorem appHi_x {x b : Nat} (hx : x < 2 ^ 64) (hn : x / 2 ^ 56 % 2 ^ 4 ≤ 14) (hb : b < 256) : c_appHi (lN x) (nI b) = if x / 2 ^ 56 % 2 ^ 4 < 7 then lN ((x + 2 ^ 56) ||| (b * 2 ^ (48 - 8 * (x / 2 ^ 56 % 2 ^ 4)))) else lN (x + 2 ^ 56) := by
  have h1 : lN x + 72057594037927936 = lN (x + 2 ^ 56) := by
    rw [show (72057594037927936 : Int64) = lN (2 ^ 56) from rfl, lN_add]
  have h3 : x + 2 ^ 56 < 2 ^ 64 := by omega
  unfold c_appHi
  rw [c_len_lN hx]
  split
  · have hk : 48 - 8 * (x / 2 ^ 56 % 2 ^ 4) < 64 := by omega
    have h6 : 2 ^ (48 - 8 * (x / 2 ^ 56 % 2 ^ 4)) ≤ 2 ^ 48 := Nat.pow_le_pow_right (by decide) (by omega)
    have h5 : b * 2 ^ (48 - 8 * (x / 2 ^ 56 % 2 ^ 4)) < 2 ^ 56 := by
      calc b * 2 ^ (48 - 8 * (x / 2 ^ 56 % 2 ^ 4)) ≤ b * 2 ^ 48 := Nat.mul_le_mul_left _ h6
        _ < 256 * 2 ^ 48 := Nat.mul_lt_mul_of_pos_right hb (by decide)
        _ = 2 ^ 56 := by decide
    rw [h1, nI_l (by omega), wb_shl b hk, wb_or h3 (by omega)]
  · exact h1
theorem appLo_x {x y b : Nat} (hx : x < 2 ^ 64) (hn : x / 2 ^ 56 % 2 ^ 4 ≤ 14) (hy : y < 2 ^ 64) (hb : b < 256) : c_appLo (lN x) (lN y) (nI b) = if x / 2 ^ 56 % 2 ^ 4 < 7 then lN y else lN (y ||| (b * 2 ^ (112 - 8 * (x / 2 ^ 56 % 2 ^ 4)))) := by
  unfold c_appLo
  rw [c_len_lN hx]
  split
  · rfl
  · have hk : 112 - 8 * (x / 2 ^ 56 % 2 ^ 4) < 64 := by omega
    have h6 : 2 ^ (112 - 8 * (x / 2 ^ 56 % 2 ^ 4)) ≤ 2 ^ 56 := Nat.pow_le_pow_right (by decide) (by omega)
    have h5 : b * 2 ^ (112 - 8 * (x / 2 ^ 56 % 2 ^ 4)) < 2 ^ 64 := by
      calc b * 2 ^ (112 - 8 * (x / 2 ^ 56 % 2 ^ 4)) ≤ b * 2 ^ 56 := Nat.mul_le_mul_left _ h6
        _ < 256 * 2 ^ 56 := Nat.mul_lt_mul_of_pos_right hb (by decide)
        _ = 2 ^ 64 := by decide
    rw [nI_l (by omega), wb_shl b hk, wb_or hy h5]
/-- the bytes stand highest first; seven of them in hi -/
def xH (f : Nat → Nat) (m : Nat) : Nat := (48 + m) * 2 ^ 56 + (if m ≤ 7 then bE f m * 2 ^ (56 - 8 * m) else bE f 7)
def xL (f : Nat → Nat) (m : Nat) : Nat := if m ≤ 7 then 0 else bE (fun i => f (7 + i)) (m - 7) * 2 ^ (64 - 8 * (m - 7))
theorem xH_lt {f : Nat → Nat} {m : Nat} (hm : m ≤ 15) (hf : ∀ i, i < m → f i < 256) : xH f m < 2 ^ 64 ∧ xH f m / 2 ^ 56 = 48 + m := by
  have h : (if m ≤ 7 then bE f m * 2 ^ (56 - 8 * m) else bE f 7) < 2 ^ 56 := by
    split
    · rename_i h7
      have h1 := bE_lt (m := m) hf
      have h2 : 2 ^ (8 * m) * 2 ^ (56 - 8 * m) = 2 ^ 56 := by rw [← Nat.pow_add]; congr 1; omega
      have h3 : 0 < 2 ^ (56 - 8 * m) := Nat.two_pow_pos _
      calc bE f m * 2 ^ (56 - 8 * m) < 2 ^ (8 * m) * 2 ^ (56 - 8 * m) := Nat.mul_lt_mul_of_pos_right h1 h3
        _ = 2 ^ 56 := h2
    · exact bE_lt (m := 7) (fun i hi => hf i (by omega))
  unfold xH
  generalize (if m ≤ 7 then bE f m * 2 ^ (56 - 8 * m) else bE f 7) = z at h ⊢
  omega
theorem xL_lt {f : Nat → Nat} {m : Nat} (hm : m ≤ 15) (hf : ∀ i, i < m → f i < 256) : xL f m < 2 ^ 64 := by
  unfold xL
  split
  · exact Nat.two_pow_pos _
  · have h1 := bE_lt (f := fun i => f (7 + i)) (m := m - 7) (fun i hi => hf (7 + i) (by omega))
    have h2 : 2 ^ (8 * (m - 7)) * 2 ^ (64 - 8 * (m - 7)) = 2 ^ 64 := by rw [← Nat.pow_add]; congr 1; omega
    have h3 : 0 < 2 ^ (64 - 8 * (m - 7)) := Nat.two_pow_pos _
    calc bE (fun i => f (7 + i)) (m - 7) * 2 ^ (64 - 8 * (m - 7)) < 2 ^ (8 * (m - 7)) * 2 ^ (64 - 8 * (m - 7)) := Nat.mul_lt_mul_of_pos_right h1 h3
      _ = 2 ^ 64 := h2
theorem or_add {i a b : Nat} (h : b < 2 ^ i) : (2 ^ i * a) ||| b = 2 ^ i * a + b := (Nat.two_pow_add_eq_or_of_lt h a).symm
theorem e_x {f : Nat → Nat} : ∀ m, m ≤ 15 → (∀ i, i < m → f i < 256) → e_H f m = lN (xH f m) ∧ e_L f m = lN (xL f m) := by
  intro m
  induction m with
  | zero =>
    intro _ _
    have e : xH f 0 = 3458764513820540928 := by
      unfold xH
      rw [if_pos (Nat.zero_le 7)]
      show (48 + 0) * 2 ^ 56 + 0 * 2 ^ (56 - 8 * 0) = _
      rw [Nat.zero_mul]
    have e2 : xL f 0 = 0 := if_pos (Nat.zero_le 7)
    rw [e, e2]
    exact ⟨rfl, rfl⟩
  | succ m ih =>
    intro hm hf
    obtain ⟨i1, i2⟩ := ih (by omega) (fun i hi => hf i (by omega))
    obtain ⟨x1, x2⟩ := xH_lt (m := m) (f := f) (by omega) (fun i hi => hf i (by omega))
    have x3 := xL_lt (m := m) (f := f) (by omega) (fun i hi => hf i (by omega))
    have hb := hf m (by omega)
    have hd : xH f m / 2 ^ 56 % 2 ^ 4 = m := by rw [x2]; omega
    constructor
    · show c_appHi (e_H f m) (nI (f m)) = _
      rw [i1, appHi_x x1 (by omega) hb, hd]
      by_cases h7 : m < 7
      · rw [if_pos h7]
        refine congrArg lN ?_
        have hp : 2 ^ (56 - 8 * m) = 2 ^ (48 - 8 * m) * 256 := by
          rw [show (256 : Nat) = 2 ^ 8 by decide, ← Nat.pow_add]; congr 1; omega
        have hq : 2 ^ 56 = 2 ^ (56 - 8 * m) * 2 ^ (8 * m) := by rw [← Nat.pow_add]; congr 1; omega
        have hs : f m * 2 ^ (48 - 8 * m) < 2 ^ (56 - 8 * m) := by
          rw [hp, Nat.mul_comm]
          exact Nat.mul_lt_mul_of_pos_left hb (Nat.two_pow_pos _)
        have e1 : xH f m + 2 ^ 56 = 2 ^ (56 - 8 * m) * ((49 + m) * 2 ^ (8 * m) + bE f m) := by
          unfold xH
          rw [if_pos (by omega), Nat.mul_add, Nat.mul_comm (2 ^ (56 - 8 * m)) (bE f m), Nat.mul_left_comm, ← hq]
          omega
        have e2 : xH f (m + 1) = xH f m + 2 ^ 56 + f m * 2 ^ (48 - 8 * m) := by
          unfold xH
          rw [if_pos (by omega), if_pos (by omega), show 56 - 8 * (m + 1) = 48 - 8 * m by omega, hp]
          show (48 + (m + 1)) * 2 ^ 56 + (256 * bE f m + f m) * 2 ^ (48 - 8 * m) = _
          rw [Nat.add_mul (256 * bE f m), Nat.mul_comm 256 (bE f m), Nat.mul_assoc (bE f m), Nat.mul_comm 256]
          omega
        rw [e2, e1, or_add hs]
      · rw [if_neg h7]
        refine congrArg lN ?_
        unfold xH
        rw [if_neg (show ¬ m + 1 ≤ 7 by omega)]
        by_cases e7 : m ≤ 7
        · obtain rfl : m = 7 := by omega
          rw [if_pos (by omega)]
          omega
        · rw [if_neg e7]
          omega
    · show c_appLo (e_H f m) (e_L f m) (nI (f m)) = _
      rw [i1, i2, appLo_x x1 (by omega) x3 hb, hd]
      by_cases h7 : m < 7
      · rw [if_pos h7]
        refine congrArg lN ?_
        unfold xL
        rw [if_pos (by omega), if_pos (by omega)]
      · rw [if_neg h7]
        refine congrArg lN ?_
        have hp : 2 ^ (120 - 8 * m) = 2 ^ (112 - 8 * m) * 256 := by
          rw [show (256 : Nat) = 2 ^ 8 by decide, ← Nat.pow_add]; congr 1; omega
        have hs : f m * 2 ^ (112 - 8 * m) < 2 ^ (120 - 8 * m) := by
          rw [hp, Nat.mul_comm]
          exact Nat.mul_lt_mul_of_pos_left hb (Nat.two_pow_pos _)
        have e1 : xL f m = 2 ^ (120 - 8 * m) * bE (fun i => f (7 + i)) (m - 7) := by
          unfold xL
          by_cases e7 : m ≤ 7
          · obtain rfl : m = 7 := by omega
            rw [if_pos (by omega)]
            rfl
          · rw [if_neg e7, Nat.mul_comm, show 64 - 8 * (m - 7) = 120 - 8 * m by omega]
        have e2 : xL f (m + 1) = xL f m + f m * 2 ^ (112 - 8 * m) := by
          rw [e1]
          unfold xL
          rw [if_neg (show ¬ m + 1 ≤ 7 by omega), show 64 - 8 * (m + 1 - 7) = 112 - 8 * m by omega, show m + 1 - 7 = (m - 7) + 1 by omega, hp]
          show (256 * bE (fun i => f (7 + i)) (m - 7) + f (7 + (m - 7))) * 2 ^ (112 - 8 * m) = _
          rw [show 7 + (m - 7) = m by omega, Nat.add_mul, Nat.mul_assoc, Nat.mul_comm (2 ^ (112 - 8 * m) * 256), Nat.mul_comm 256, Nat.mul_assoc]
        rw [e2, e1, or_add hs]
theorem e_inj {f g : Nat → Nat} {m n : Nat} (hm : m ≤ 15) (hn : n ≤ 15) (hf : ∀ i, i < m → f i < 256) (hg : ∀ i, i < n → g i < 256) (h1 : e_H f m = e_H g n) (h2 : e_L f m = e_L g n) : m = n ∧ ∀ i, i < m → f i = g i := by
  obtain ⟨a1, a2⟩ := e_x m hm hf
  obtain ⟨b1, b2⟩ := e_x n hn hg
  obtain ⟨p1, p2⟩ := xH_lt hm hf
  obtain ⟨q1, q2⟩ := xH_lt hn hg
  rw [a1, b1] at h1
  rw [a2, b2] at h2
  have e1 := lN_inj p1 q1 h1
  have e2 := lN_inj (xL_lt hm hf) (xL_lt hn hg) h2
  have e : m = n := by rw [e1] at p2; omega
  subst e
  refine ⟨rfl, ?_⟩
  unfold xH at e1
  unfold xL at e2
  by_cases h7 : m ≤ 7
  · rw [if_pos h7, if_pos h7] at e1
    exact bE_inj hf hg (Nat.eq_of_mul_eq_mul_right (Nat.two_pow_pos (56 - 8 * m)) (by omega))
  · rw [if_neg h7, if_neg h7] at e1 e2
    have c1 := bE_inj (m := 7) (fun i hi => hf i (by omega)) (fun i hi => hg i (by omega)) (by omega)
    have c2 := bE_inj (f := fun i => f (7 + i)) (g := fun i => g (7 + i)) (m := m - 7) (fun i hi => hf (7 + i) (by omega)) (fun i hi => hg (7 + i) (by omega)) (Nat.eq_of_mul_eq_mul_right (Nat.two_pow_pos _) e2)
    intro i hi
    by_cases hi7 : i < 7
    · exact c1 i hi7
    · have := c2 (i - 7) (by omega)
      rw [show 7 + (i - 7) = i by omega] at this
      exact this
/-- the kind of a string is 3 -/
theorem e_kd {f : Nat → Nat} {m : Nat} (hm : m ≤ 15) (hf : ∀ i, i < m → f i < 256) : c_kd (e_H f m) = 3 := by
  obtain ⟨a1, _⟩ := e_x m hm hf
  obtain ⟨p1, p2⟩ := xH_lt hm hf
  rw [a1]
  unfold c_kd
  rw [show (Int8.ofInt 60).toInt32 = nI 60 by decide, wb_shr p1 (by decide)]
  have : xH f m / 2 ^ 60 = 3 := by omega
  rw [this]
  rfl
/-- a string of the reference: eight bytes, seven and how many -/
def p_A (f : Nat → Nat) (n : Nat) : Int64 := lN (bE (fun i => if i < n then f i else 0) 8)
def p_B (f : Nat → Nat) (n : Nat) : Int64 := lN (bE (fun i => if i = 7 then n else if 8 + i < n then f (8 + i) else 0) 8)
theorem p_inj {f g : Nat → Nat} {m n : Nat} (hm : m ≤ 15) (hn : n ≤ 15) (hf : ∀ i, i < m → f i < 256) (hg : ∀ i, i < n → g i < 256) (h1 : p_A f m = p_A g n) (h2 : p_B f m = p_B g n) : m = n ∧ ∀ i, i < m → f i = g i := by
  have A : ∀ (f : Nat → Nat) (m : Nat), (∀ i, i < m → f i < 256) → ∀ i, i < 8 → (if i < m then f i else 0) < 256 := fun f m hf i _ => by
    split
    · rename_i h; exact hf i h
    · omega
  have B : ∀ (f : Nat → Nat) (m : Nat), m ≤ 15 → (∀ i, i < m → f i < 256) → ∀ i, i < 8 → (if i = 7 then m else if 8 + i < m then f (8 + i) else 0) < 256 := fun f m hm hf i _ => by
    split
    · omega
    · split
      · rename_i h; exact hf _ h
      · omega
  have a := bE_inj (A f m hf) (A g n hg) (lN_inj (bE_lt (A f m hf)) (bE_lt (A g n hg)) h1)
  have b := bE_inj (B f m hm hf) (B g n hn hg) (lN_inj (bE_lt (B f m hm hf)) (bE_lt (B g n hn hg)) h2)
  have e : m = n := by
    have := b 7 (by omega)
    rw [if_pos rfl, if_pos rfl] at this
    exact this
  subst e
  refine ⟨rfl, fun i hi => ?_⟩
  by_cases h8 : i < 8
  · have := a i h8
    rw [if_pos hi, if_pos hi] at this
    exact this
  · have := b (i - 8) (by omega)
    have q1 : ¬ i - 8 = 7 := by omega
    have q2 : 8 + (i - 8) < m := by omega
    rw [if_neg q1, if_neg q1, if_pos q2, if_pos q2, show 8 + (i - 8) = i by omega] at this
    exact this
