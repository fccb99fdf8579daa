/-! WHAT WAS MADE BEHIND: reads, writes, what is new -/
set_option maxRecDepth 100000 in
theorem fx_I {S : cS} {a : Nat} {v : Int32} (ha : 10800 ≤ a) : fx (wI a v S) = fx S := by
  have h : ∀ b, b < 10800 → sI (wI a v S) b = sI S b := fun b hb => if_neg (by omega)
  unfold fx
  simp only [h 7 (by decide), h 8 (by decide), h 213 (by decide), h 214 (by decide), h 215 (by decide), h 216 (by decide), h 1607 (by decide), h 1608 (by decide), h 2307 (by decide), h 2308 (by decide), h 2309 (by decide), h 2310 (by decide), h 3102 (by decide), h 3103 (by decide), h 3104 (by decide), h 3105 (by decide), h 3106 (by decide), h 3107 (by decide), h 3108 (by decide), h 3109 (by decide), h 3113 (by decide), h 3211 (by decide), h 3212 (by decide), h 3213 (by decide), h 3214 (by decide), h 4305 (by decide), h 4306 (by decide), h 4307 (by decide), h 4308 (by decide), h 4309 (by decide), h 4310 (by decide), h 4311 (by decide), h 4403 (by decide), h 4404 (by decide), h 4603 (by decide), h 4906 (by decide), h 4907 (by decide), h 5213 (by decide), h 5214 (by decide), h 5215 (by decide), h 5216 (by decide), h 5217 (by decide), h 5218 (by decide), h 5219 (by decide), h 6102 (by decide), h 6112 (by decide), h 6113 (by decide), h 6115 (by decide), h 6116 (by decide), h 6117 (by decide), h 6122 (by decide), h 6123 (by decide), h 6126 (by decide), h 6127 (by decide), h 6130 (by decide), h 6131 (by decide), h 6132 (by decide), h 6134 (by decide), h 6137 (by decide), h 6139 (by decide), h 6140 (by decide), h 6147 (by decide), h 6151 (by decide), h 6159 (by decide), h 6163 (by decide), h 6164 (by decide), h 6165 (by decide), h 6166 (by decide), h 6167 (by decide), h 6168 (by decide), h 6172 (by decide), h 6173 (by decide), h 6175 (by decide), h 6176 (by decide)]
  rfl
set_option maxRecDepth 100000 in
theorem fx_J {S : cS} {a : Nat} {v : Int64} (ha : 10800 ≤ a) : fx (wJ a v S) = fx S := by
  have h : ∀ b, b < 10800 → sJ (wJ a v S) b = sJ S b := fun b hb => if_neg (by omega)
  unfold fx
  simp only [h 3110 (by decide), h 3111 (by decide), h 3112 (by decide)]
  rfl
set_option maxRecDepth 100000 in
theorem fx_V {S : cS} {a : Nat} {v : Value} (ha : 10800 ≤ a) : fx (wV a v S) = fx S := by
  have h : ∀ b, b < 10800 → sV (wV a v S) b = sV S b := fun b hb => if_neg (by omega)
  unfold fx
  simp only [h 6100 (by decide), h 6101 (by decide), h 6103 (by decide), h 6104 (by decide), h 6105 (by decide), h 6114 (by decide), h 6128 (by decide), h 6129 (by decide)]
  rfl
set_option maxRecDepth 100000 in
theorem fx_A {S : cS} {a i : Nat} {v : Int32} (ha : 108 ≤ a) : fx (wA a i v S) = fx S := by
  have h : ∀ b, b < 108 → sA (wA a i v S) b = sA S b := fun b hb => if_neg (by omega)
  unfold fx
  simp only [h 1 (by decide), h 3 (by decide), h 4 (by decide), h 5 (by decide), h 6 (by decide), h 7 (by decide), h 8 (by decide), h 9 (by decide), h 10 (by decide), h 12 (by decide), h 13 (by decide), h 14 (by decide), h 15 (by decide), h 19 (by decide), h 20 (by decide), h 24 (by decide), h 27 (by decide), h 28 (by decide), h 29 (by decide), h 30 (by decide), h 33 (by decide), h 34 (by decide), h 35 (by decide), h 36 (by decide), h 37 (by decide), h 38 (by decide), h 39 (by decide), h 40 (by decide), h 41 (by decide), h 42 (by decide), h 45 (by decide), h 50 (by decide), h 51 (by decide), h 54 (by decide), h 55 (by decide), h 56 (by decide), h 57 (by decide), h 58 (by decide), h 59 (by decide), h 60 (by decide), h 62 (by decide), h 63 (by decide), h 64 (by decide), h 67 (by decide), h 68 (by decide), h 69 (by decide), h 70 (by decide), h 73 (by decide), h 74 (by decide), h 75 (by decide), h 76 (by decide), h 77 (by decide), h 78 (by decide), h 79 (by decide), h 80 (by decide), h 81 (by decide), h 82 (by decide), h 83 (by decide), h 84 (by decide), h 85 (by decide), h 87 (by decide), h 88 (by decide), h 89 (by decide), h 90 (by decide), h 91 (by decide), h 95 (by decide), h 96 (by decide), h 97 (by decide), h 98 (by decide), h 99 (by decide), h 100 (by decide), h 101 (by decide), h 102 (by decide), h 103 (by decide), h 104 (by decide), h 105 (by decide), h 106 (by decide), h 107 (by decide)]
  rfl
set_option maxRecDepth 100000 in
theorem fx_F {S : cS} {a : Nat} {f : Nat → Int32} (ha : 108 ≤ a) : fx (wF a f S) = fx S := by
  have h : ∀ b, b < 108 → sA (wF a f S) b = sA S b := fun b hb => if_neg (by omega)
  unfold fx
  simp only [h 1 (by decide), h 3 (by decide), h 4 (by decide), h 5 (by decide), h 6 (by decide), h 7 (by decide), h 8 (by decide), h 9 (by decide), h 10 (by decide), h 12 (by decide), h 13 (by decide), h 14 (by decide), h 15 (by decide), h 19 (by decide), h 20 (by decide), h 24 (by decide), h 27 (by decide), h 28 (by decide), h 29 (by decide), h 30 (by decide), h 33 (by decide), h 34 (by decide), h 35 (by decide), h 36 (by decide), h 37 (by decide), h 38 (by decide), h 39 (by decide), h 40 (by decide), h 41 (by decide), h 42 (by decide), h 45 (by decide), h 50 (by decide), h 51 (by decide), h 54 (by decide), h 55 (by decide), h 56 (by decide), h 57 (by decide), h 58 (by decide), h 59 (by decide), h 60 (by decide), h 62 (by decide), h 63 (by decide), h 64 (by decide), h 67 (by decide), h 68 (by decide), h 69 (by decide), h 70 (by decide), h 73 (by decide), h 74 (by decide), h 75 (by decide), h 76 (by decide), h 77 (by decide), h 78 (by decide), h 79 (by decide), h 80 (by decide), h 81 (by decide), h 82 (by decide), h 83 (by decide), h 84 (by decide), h 85 (by decide), h 87 (by decide), h 88 (by decide), h 89 (by decide), h 90 (by decide), h 91 (by decide), h 95 (by decide), h 96 (by decide), h 97 (by decide), h 98 (by decide), h 99 (by decide), h 100 (by decide), h 101 (by decide), h 102 (by decide), h 103 (by decide), h 104 (by decide), h 105 (by decide), h 106 (by decide), h 107 (by decide)]
  rfl
set_option maxRecDepth 100000 in
theorem fx_L {S : cS} {a i : Nat} {v : Int64} (ha : 108 ≤ a) : fx (wL a i v S) = fx S := by
  have h : ∀ b, b < 108 → sL (wL a i v S) b = sL S b := fun b hb => if_neg (by omega)
  unfold fx
  simp only [h 17 (by decide), h 18 (by decide), h 21 (by decide), h 22 (by decide), h 25 (by decide), h 26 (by decide), h 47 (by decide), h 48 (by decide), h 65 (by decide), h 66 (by decide), h 71 (by decide), h 72 (by decide), h 92 (by decide), h 93 (by decide)]
  rfl
set_option maxRecDepth 100000 in
theorem fx_G {S : cS} {a : Nat} {f : Nat → Int64} (ha : 108 ≤ a) : fx (wG a f S) = fx S := by
  have h : ∀ b, b < 108 → sL (wG a f S) b = sL S b := fun b hb => if_neg (by omega)
  unfold fx
  simp only [h 17 (by decide), h 18 (by decide), h 21 (by decide), h 22 (by decide), h 25 (by decide), h 26 (by decide), h 47 (by decide), h 48 (by decide), h 65 (by decide), h 66 (by decide), h 71 (by decide), h 72 (by decide), h 92 (by decide), h 93 (by decide)]
  rfl
theorem dyn_get {S : cS} : ∀ (sh : List (Nat × Nat)) (a i : Nat), (dyn S a sh)[i]? = (sh[i]?).map (fun k => cellOf S (a + i) k) := by
  intro sh
  induction sh with
  | nil => intro a i; rfl
  | cons k r ih =>
    intro a i
    unfold dyn
    cases i with
    | zero => rfl
    | succ i =>
      rw [List.getElem?_cons_succ, List.getElem?_cons_succ, ih (a + 1) i, show a + 1 + i = a + (i + 1) by omega]
theorem dyn_len {S : cS} : ∀ (sh : List (Nat × Nat)) (a : Nat), (dyn S a sh).length = sh.length := by
  intro sh
  induction sh with
  | nil => intro a; rfl
  | cons k r ih =>
    intro a
    unfold dyn
    rw [List.length_cons, ih, List.length_cons]
theorem dyn_app {S : cS} (k : Nat × Nat) : ∀ (sh : List (Nat × Nat)) (a : Nat), dyn S a (sh ++ [k]) = dyn S a sh ++ [cellOf S (a + sh.length) k] := by
  intro sh
  induction sh with
  | nil => intro a; rfl
  | cons q r ih =>
    intro a
    show cellOf S a q :: dyn S (a + 1) (r ++ [k]) = cellOf S a q :: (dyn S (a + 1) r ++ [cellOf S (a + (r.length + 1)) k])
    rw [ih (a + 1), show a + 1 + r.length = a + (r.length + 1) by omega]
theorem mk_dyn {S : cS} {a : Nat} {k : Nat × Nat} (ha : 108 ≤ a) (h : (sS S)[a - 108]? = some k) : (mk S)[a]? = some (cellOf S a k) := by
  unfold mk
  rw [List.getElem?_append_right (by rw [fx_len]; exact ha), fx_len, dyn_get, h, show 108 + (a - 108) = a by omega]
  rfl
theorem dyn_set {S S1 : cS} {a : Nat} {c : sm_C} : ∀ (sh : List (Nat × Nat)) (s0 i : Nat) (k : Nat × Nat), s0 + i = a → sh[i]? = some k → (∀ b q, s0 ≤ b → b ≠ a → cellOf S1 b q = cellOf S b q) → cellOf S1 a k = c → (dyn S s0 sh).set i c = dyn S1 s0 sh := by
  intro sh
  induction sh with
  | nil => intro s0 i k _ h; cases h
  | cons q r ih =>
    intro s0 i k hi h hc h1
    cases i with
    | zero =>
      have e : q = k := Option.some.inj h
      subst e
      have e : s0 = a := by omega
      subst e
      show c :: dyn S (s0 + 1) r = cellOf S1 s0 q :: dyn S1 (s0 + 1) r
      rw [h1, dyn_congr r (s0 + 1) (fun b k h2 _ => hc b k (by omega) (by omega))]
    | succ i =>
      show cellOf S s0 q :: (dyn S (s0 + 1) r).set i c = cellOf S1 s0 q :: dyn S1 (s0 + 1) r
      rw [ih (s0 + 1) i k (by omega) h (fun b k h2 h3 => hc b k (by omega) h3) h1, hc s0 q (Nat.le_refl _) (by omega)]
theorem mk_setd {S S1 : cS} {a : Nat} {c : sm_C} {k : Nat × Nat} (ha : 108 ≤ a) (h : (sS S)[a - 108]? = some k) (hf : fx S1 = fx S) (hs : sS S1 = sS S) (hc : ∀ b q, 108 ≤ b → b ≠ a → cellOf S1 b q = cellOf S b q) (h1 : cellOf S1 a k = c) : (mk S).set a c = mk S1 := by
  unfold mk
  rw [List.set_append_right _ _ (by rw [fx_len]; exact ha), fx_len, hf, hs]
  rw [dyn_set (S1 := S1) (a := a) (sS S) 108 (a - 108) k (by omega) h hc h1]
/-- rows of longs -/
theorem mk_row {S : cS} {a N : Nat} (ha : 108 ≤ a) (h : (sS S)[a - 108]? = some (1, N)) : (mk S)[a]? = some (.inl (1, N, .inr (.inl (sL S a)))) := mk_dyn ha h
theorem sa_row {S : cS} {a N i : Nat} {v : Int64} (ha : 108 ≤ a) (h : (sS S)[a - 108]? = some (1, N)) : (mk S).set a (.inl (1, N, .inr (.inl (vp_updL (sL S a) i v)))) = mk (wL a i v S) :=
  mk_setd ha h (fx_L ha) rfl (fun b q _ h2 => cell_congr q (fun _ _ => rfl) (fun _ _ => rfl) (fun _ _ => rfl) rfl (if_neg h2)) (by
    show Sum.inl (1, N, Sum.inr (Sum.inl (sL (wL a i v S) a))) = _
    rw [show sL (wL a i v S) a = vp_updL (sL S a) i v from if_pos rfl])
theorem sg_row {S : cS} {a N : Nat} {f : Nat → Int64} (ha : 108 ≤ a) (h : (sS S)[a - 108]? = some (1, N)) : (mk S).set a (.inl (1, N, .inr (.inl f))) = mk (wG a f S) :=
  mk_setd ha h (fx_G ha) rfl (fun b q _ h2 => cell_congr q (fun _ _ => rfl) (fun _ _ => rfl) (fun _ _ => rfl) rfl (if_neg h2)) (by
    show Sum.inl (1, N, Sum.inr (Sum.inl (sL (wG a f S) a))) = _
    rw [show sL (wG a f S) a = f from if_pos rfl])
/-- a new row of longs, at the end -/
theorem mk_len (S : cS) : (mk S).length = 108 + (sS S).length := by
  unfold mk
  rw [List.length_append, fx_len, dyn_len]
theorem mk_newrow {S : cS} {N u : Nat} : mk S ++ [.inl (1, N, .inr (.inl (fun _ => 0)))] = mk (wK (1, N) u (wG (108 + (sS S).length) (fun _ => 0) S)) := by
  have e1 : fx (wK (1, N) u (wG (108 + (sS S).length) (fun _ => 0) S)) = fx S := (show _ = fx (wG (108 + (sS S).length) (fun _ => 0) S) from rfl).trans (fx_G (by omega))
  have e2 : sS (wK (1, N) u (wG (108 + (sS S).length) (fun _ => 0) S)) = sS S ++ [(1, N)] := rfl
  unfold mk
  rw [e1, e2, dyn_app, List.append_assoc]
  congr 1
  rw [dyn_congr (S := S) (S1 := wK (1, N) u (wG (108 + (sS S).length) (fun _ => 0) S)) (sS S) 108 (fun b q h1 h2 => cell_congr q (fun _ _ => rfl) (fun _ _ => rfl) (fun _ _ => rfl) rfl (if_neg (by omega)))]
  congr 1
  show _ = [Sum.inl (1, N, Sum.inr (Sum.inl (sL (wG (108 + (sS S).length) (fun _ => 0) S) (108 + (sS S).length))))]
  rw [show sL (wG (108 + (sS S).length) (fun _ => 0) S) (108 + (sS S).length) = fun _ => 0 from if_pos rfl]
