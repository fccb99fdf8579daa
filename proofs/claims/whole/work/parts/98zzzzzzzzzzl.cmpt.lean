/-! DEEDS ON BOTH SIDES: which text comes first -/
section
variable {f f' g : Nat → Nat} {n n' m i d q k ky t : Nat} {S Sr : cS} {u u1 h1 l1 h0 l0 : Int64}
def txS (h1 l1 h0 l0 : Int64) : Int32 := if sg (h1 &&& 72057594037927935).toInt (h0 &&& 72057594037927935).toInt = nI 0 then sg l1.toInt l0.toInt else sg (h1 &&& 72057594037927935).toInt (h0 &&& 72057594037927935).toInt
/-- the class: the topmost two as texts -/
theorem tx_C (l3 : sI S 4603 = nI t) (ht : t ≤ 20480) (h2 : 2 ≤ t) : Ans (d + 10) 216 [.ref 53] S (some (.int (txS (sL S 47 (t - 1 - 1)) (sL S 48 (t - 1 - 1)) (sL S 47 (t - 1 - 0)) (sL S 48 (t - 1 - 0))))) S := by
  have m := ml_216
  have go : ∀ {v : Int32}, Bod (d + 9) 216 0 [(0, .ref 53)] [] S (some (.int v)) S → Ans (d + 10) 216 [.ref 53] S (some (.int v)) S := fun h => Ans.of (by rw [m]; exact Nat.le_of_ble_eq_true rfl) (Bod.lv (by rfl) h)
  have q0 := hi_ev (d := d + 7) (b := 0) l3 (by omega) ht
  have q1 := hi_ev (d := d + 7) (b := 1) l3 (by omega) ht
  have r0 := lo_ev (d := d + 7) (b := 0) l3 (by omega) ht
  have r1 := lo_ev (d := d + 7) (b := 1) l3 (by omega) ht
  have c := cl_T (d := d) (S := S) (u := sL S 47 (t - 1 - 1) &&& 72057594037927935) (u1 := sL S 47 (t - 1 - 0) &&& 72057594037927935)
  have c2 := cl_T (d := d) (S := S) (u := sL S 48 (t - 1 - 1)) (u1 := sL S 48 (t - 1 - 0))
  unfold txS
  by_cases e : sg (sL S 47 (t - 1 - 1) &&& 72057594037927935).toInt (sL S 47 (t - 1 - 0) &&& 72057594037927935).toInt = nI 0
  · rw [if_pos e]
    exact go (mCs_1 (d := d + 1) q1 q0 c (sg_0.2.mpr (sg_0.1.mp e)) r1 r0 c2)
  · rw [if_neg e]
    refine go (mCs_2 (d := d + 1) q1 q0 c ?_)
    cases hh : sm_c1 .eq (sg (sL S 47 (t - 1 - 1) &&& 72057594037927935).toInt (sL S 47 (t - 1 - 0) &&& 72057594037927935).toInt) true false with
    | false => rfl
    | true => exact absurd (sg_0.1.mpr (sg_0.2.mp hh)) e
theorem xL_63 (hn : n ≤ 15) (hf : ∀ i, i < n → f i < 128) : xL f n < 2 ^ 63 := by
  have hf8 : ∀ i, i < n → f i < 256 := fun i hi => by have := hf i hi; omega
  rw [(xH_pd hn hf8).2]
  have e := bE_split (fun i => pdT f n (7 + i)) 1 7
  have e2 : bE (fun i => pdT f n (7 + i)) (1 + 7) = bE (fun i => pdT f n (7 + i)) 8 := rfl
  have h1 : bE (fun i => pdT f n (7 + i)) 1 < 128 := by
    show 256 * 0 + pdT f n (7 + 0) < 128
    unfold pdT
    split
    · have := hf (7 + 0) (by assumption); omega
    · omega
  have h2 := bE_lt (f := fun i => pdT f n (7 + (1 + i))) (m := 7) (fun i _ => pd_lt hf8 _)
  rw [e2] at e
  omega
/-- both sides' orders are the order of one number -/
theorem tx_e (hn : n ≤ 15) (hn' : n' ≤ 15) (hf : ∀ i, i < n → 32 ≤ f i ∧ f i ≤ 126) (hf' : ∀ i, i < n' → 32 ≤ f' i ∧ f' i ≤ 126) : txS (e_H f n) (e_L f n) (e_H f' n') (e_L f' n') = sg (PPt f n : Int) (PPt f' n' : Int) := by
  have hf8 : ∀ i, i < n → f i < 256 := fun i hi => by have := hf i hi; omega
  have hf8' : ∀ i, i < n' → f' i < 256 := fun i hi => by have := hf' i hi; omega
  have e1 : ∀ {f : Nat → Nat} {n : Nat}, n ≤ 15 → (∀ i, i < n → 32 ≤ f i ∧ f i ≤ 126) → (e_H f n &&& 72057594037927935).toInt = ((xH f n % 2 ^ 56 : Nat) : Int) ∧ (e_L f n).toInt = ((xL f n : Nat) : Int) ∧ xL f n < 2 ^ 64 := fun {f n} hn hf => by
    have hf8 : ∀ i, i < n → f i < 256 := fun i hi => by have := hf i hi; omega
    obtain ⟨x1, _⟩ := xH_lt hn hf8
    have x3 := xL_63 (f := f) hn (fun i hi => by have := hf i hi; omega)
    obtain ⟨a1, a2⟩ := e_x n hn hf8
    have em : (72057594037927935 : Int64) = lN (2 ^ 56 - 1) := by decide
    rw [a1, a2, em, wb_mask x1 (by omega), lN_t (by omega), lN_t x3]
    exact ⟨rfl, rfl, by omega⟩
  obtain ⟨a1, a2, a3⟩ := e1 hn hf
  obtain ⟨b1, b2, b3⟩ := e1 hn' hf'
  unfold txS
  rw [a1, a2, b1, b2, PP_C hn hf8, PP_C hn' hf8']
  obtain ⟨p1, p2⟩ := sg_lex (a := xH f n % 2 ^ 56) (a' := xH f' n' % 2 ^ 56) a3 b3
  by_cases c : sg ((xH f n % 2 ^ 56 : Nat) : Int) ((xH f' n' % 2 ^ 56 : Nat) : Int) = nI 0
  · rw [if_pos c]
    exact (p2 (by have := sg_0.1.mp c; omega)).symm
  · rw [if_neg c]
    exact (p1 c).symm
theorem PP_n (hn : n ≤ 15) (hn' : n' ≤ 15) (hf : ∀ i, i < n → 32 ≤ f i ∧ f i ≤ 126) (hf' : ∀ i, i < n' → 32 ≤ f' i ∧ f' i ≤ 126) (e : PPt f n = PPt f' n') : n = n' := by
  have hf8 : ∀ i, i < n → f i < 256 := fun i hi => by have := hf i hi; omega
  have hf8' : ∀ i, i < n' → f' i < 256 := fun i hi => by have := hf' i hi; omega
  have hp := bE_inj (m := 15) (fun i _ => pd_lt hf8 i) (fun i _ => pd_lt hf8' i) e
  rcases Nat.lt_trichotomy n n' with c | c | c
  · have h1 := hp n (by omega)
    unfold pdT at h1
    rw [if_neg (by omega), if_pos c] at h1
    have := hf' n c
    omega
  · exact c
  · have h1 := hp n' (by omega)
    unfold pdT at h1
    rw [if_pos c, if_neg (by omega)] at h1
    have := hf n' c
    omega
/-- the reference: texts in order -/
theorem tx_R (hk : k < 20480) (hky : ky < 20480) (e91 : sA Sr 91 k = nI 2) (hn : n ≤ 15) (hn' : n' ≤ 15) (hf : ∀ i, i < n → 32 ≤ f i ∧ f i ≤ 126) (hf' : ∀ i, i < n' → 32 ≤ f' i ∧ f' i ≤ 126) (a1 : sL Sr 92 k = p_A f n) (a2 : sL Sr 93 k = p_B f n) (b1 : sL Sr 92 ky = p_A f' n') (b2 : sL Sr 93 ky = p_B f' n') : Ans (d + 11) 404 [.ref 61, .int (nI k), .int (nI ky)] Sr (some (.int (sg (PPt f n : Int) (PPt f' n' : Int)))) Sr := by
  have m := ml_404
  have hf8 : ∀ i, i < n → f i < 256 := fun i hi => by have := hf i hi; omega
  have hf8' : ∀ i, i < n' → f' i < 256 := fun i hi => by have := hf' i hi; omega
  have go : ∀ {v : Int32}, Bod (d + 10) 404 0 [(0, .ref 61), (1, .int (nI k)), (2, .int (nI ky))] [] Sr (some (.int v)) Sr → Ans (d + 11) 404 [.ref 61, .int (nI k), .int (nI ky)] Sr (some (.int v)) Sr := fun h => Ans.of (by rw [m]; exact Nat.le_of_ble_eq_true rfl) (Bod.lv (by rfl) h)
  have A1 := bE_lt (f := pdT f n) (m := 8) (fun i _ => pd_lt hf8 i)
  have A2 := bE_lt (f := pdT f' n') (m := 8) (fun i _ => pd_lt hf8' i)
  have B1 := bE_lt (f := fun i => pdT f n (8 + i)) (m := 7) (fun i _ => pd_lt hf8 _)
  have B2 := bE_lt (f := fun i => pdT f' n' (8 + i)) (m := 7) (fun i _ => pd_lt hf8' _)
  have c1 := cu_T (d := d) (S := Sr) (a := bE (pdT f n) 8) (b := bE (pdT f' n') 8) (by omega) (by omega)
  have c2 := cu_T (d := d) (S := Sr) (a := bE (fun i => pdT f n (8 + i)) 7 * 256 + n) (b := bE (fun i => pdT f' n' (8 + i)) 7 * 256 + n') (by omega) (by omega)
  rw [← (pB_pd (f := f) (n := n)).1, ← (pB_pd (f := f') (n := n')).1, ← a1, ← b1] at c1
  rw [← (pB_pd (f := f) (n := n)).2, ← (pB_pd (f := f') (n := n')).2, ← a2, ← b2] at c2
  have eP : sg (PPt f n : Int) (PPt f' n' : Int) = sg ((bE (pdT f n) 8 * 2 ^ 56 + bE (fun i => pdT f n (8 + i)) 7 : Nat) : Int) ((bE (pdT f' n') 8 * 2 ^ 56 + bE (fun i => pdT f' n' (8 + i)) 7 : Nat) : Int) := by rw [PP_R, PP_R]
  obtain ⟨p1, p2⟩ := sg_lex (a := bE (pdT f n) 8) (a' := bE (pdT f' n') 8) (M := 2 ^ 56) (by omega) (by omega) (b := bE (fun i => pdT f n (8 + i)) 7) (b' := bE (fun i => pdT f' n' (8 + i)) 7)
  have hPn := PP_n hn hn' hf hf'
  rw [PP_R, PP_R] at hPn
  rw [eP]
  by_cases e : sg ((bE (pdT f n) 8 : Nat) : Int) ((bE (pdT f' n') 8 : Nat) : Int) = nI 0
  · have e0 := sg_0.1.mp e
    have e0' : bE (pdT f n) 8 = bE (pdT f' n') 8 := by omega
    have q : sg ((bE (fun i => pdT f n (8 + i)) 7 * 256 + n : Nat) : Int) ((bE (fun i => pdT f' n' (8 + i)) 7 * 256 + n' : Nat) : Int) = sg ((bE (fun i => pdT f n (8 + i)) 7 : Nat) : Int) ((bE (fun i => pdT f' n' (8 + i)) 7 : Nat) : Int) := by
      rw [e0'] at hPn
      clear c1 c2 eP p1 p2 go
      generalize bE (fun i => pdT f n (8 + i)) 7 = x at *
      generalize bE (fun i => pdT f' n' (8 + i)) 7 = y at *
      unfold sg
      by_cases c : x < y
      · rw [if_pos (show ((x * 256 + n : Nat) : Int) < ((y * 256 + n' : Nat) : Int) by omega), if_pos (show (x : Int) < y by omega)]
      · by_cases c2 : x = y
        · have := hPn (by rw [c2])
          rw [if_neg (show ¬ ((x * 256 + n : Nat) : Int) < ((y * 256 + n' : Nat) : Int) by omega), if_neg (show ¬ (x : Int) < y by omega), if_pos (show ((x * 256 + n : Nat) : Int) = ((y * 256 + n' : Nat) : Int) by omega), if_pos (show (x : Int) = y by omega)]
        · rw [if_neg (show ¬ ((x * 256 + n : Nat) : Int) < ((y * 256 + n' : Nat) : Int) by omega), if_neg (show ¬ (x : Int) < y by omega), if_neg (show ¬ ((x * 256 + n : Nat) : Int) = ((y * 256 + n' : Nat) : Int) by omega), if_neg (show ¬ (x : Int) = y by omega)]
    rw [p2 e0', ← q]
    exact go (rOo_1 (d := d + 2) (e91 := 2) (by omega) (by omega) hk e91 (by omega) (by omega) hky c1 (sg_0.2.mpr e0) c2)
  · rw [p1 e]
    refine go (rOo_2 (d := d + 2) (e91 := 2) (by omega) (by omega) hk e91 (by omega) (by omega) hky c1 ?_)
    cases hh : sm_c1 .eq (sg ((bE (pdT f n) 8 : Nat) : Int) ((bE (pdT f' n') 8 : Nat) : Int)) true false with
    | false => rfl
    | true => exact absurd (sg_0.1.mpr (sg_0.2.mp hh)) e
end
