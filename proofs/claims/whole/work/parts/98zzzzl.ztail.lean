/-! STATEMENTS OF THE REFERENCE: behind a loop's block; for -/
section
variable {β : Nat → Nat} {n : Nat} {E : Nat → Nat → Bool} {V : Nat → Int32} {T : Nat → Nat × Nat} {P : Nat → Int32 → Int32 × Int32} {own0 : Nat → Nat × Nat} {m u k1 : Nat} {S0 S S1 S2 : cS} {H B0 W d l c w t f f1 b j s : Nat} {X Y : Nat → Nat} {o1 o2 : List Op} {A A1 : Prop}
theorem loop_tail {L on tg ce cc ci l2 : Nat} {x y : Int} {pre mid body : List Op} (hX : zX β n V own0 m k1 S0) (h : zO β n V P A own0 m u S0 H B0 X L S c w t f b j (pre ++ (tg, [], 0, 0) :: (mid ++ body)) f1 S1) (htg : tg = 5 ∨ tg = 10) (hp : n60 pre) (hm : n60 mid) (hc : c + wR (qK β n) pre + wR (qK β n) mid + wR (qK β n) body + 4 ≤ H) (hH : H ≤ 40000) (hon : on ≤ 2 ^ 16) (hLM : L + 1 < 30) (hb : b + (zbk (qK β n) (c + wR (qK β n) pre + 2 + wR (qK β n) mid) body).length < 3000) (hL : sI S1 6126 = nI (L + 1)) (hlo : ∀ i, i < b → ∃ x y, x < L ∧ y < 2 ^ 17 ∧ bkL S i = nI x ∧ bkA S i = nI y) (hci : cc + wC pre + 2 + wC mid = ci) : ∃ S2 S3 S4, Ans (d + 9) 329 [.ref 61, .int (nI 11), .int (nI on)] S1 none S2 ∧ Ans (d + 9) 326 [.ref 61, .int (nI (c + wR (qK β n) pre + 1))] S2 none S3 ∧ Ans (d + 9) 344 [.ref 61] S3 none S4 ∧ zO β n V P A own0 m u S0 H B0 X l2 S c w t f b j (pre ++ (tg, [], x, ((3 + wR (qK β n) mid + wR (qK β n) body : Nat) : Int)) :: (mid ++ (rsv (qK β n) ce (c + wR (qK β n) pre + wR (qK β n) mid + wR (qK β n) body + 4) ci (c + wR (qK β n) pre + 2 + wR (qK β n) mid) body ++ [(4, [], y, (on : Int) - (c + wR (qK β n) pre + 2 + wR (qK β n) mid + wR (qK β n) body + 1 : Nat))]))) f1 S4 ∧ n60 (pre ++ (tg, [], x, ((3 + wR (qK β n) mid + wR (qK β n) body : Nat) : Int)) :: (mid ++ (rsv (qK β n) ce (c + wR (qK β n) pre + wR (qK β n) mid + wR (qK β n) body + 4) ci (c + wR (qK β n) pre + 2 + wR (qK β n) mid) body ++ [(4, [], y, (on : Int) - (c + wR (qK β n) pre + 2 + wR (qK β n) mid + wR (qK β n) body + 1 : Nat))]))) ∧ sI S4 6126 = nI L ∧ (∀ i, i ≠ 6126 → i ≠ 6130 → i < 10800 → sI S4 i = sI S1 i) ∧ (∀ i, i < f1 → dNm S4 m i = dNm S1 m i ∧ dAt S4 m i = dAt S1 m i ∧ dPa S4 m i = dPa S1 m i ∧ dLo S4 m i = dLo S1 m i) ∧ ∀ a, 67 ≤ a → a < 108 → a ≠ 79 → a ≠ 80 → sA S4 a = sA S1 a := by
  have hm1 := hX.2.2.2.2.1
  have lU : ∀ x y : Int, lR (qK β n) (tg, [], x, y) = 2 := fun x y => by rcases htg with rfl | rfl <;> rfl
  have cU : ∀ x y : Int, lC (tg, [], x, y) = 2 := fun x y => by rcases htg with rfl | rfl <;> rfl
  have hT : tg ≠ 60 := by omega
  have eW : wR (qK β n) (pre ++ (tg, [], 0, 0) :: (mid ++ body)) = wR (qK β n) pre + 2 + wR (qK β n) mid + wR (qK β n) body := by
    rw [wR_app]
    show wR (qK β n) pre + (lR (qK β n) (tg, [], 0, 0) + wR (qK β n) (mid ++ body)) = _
    rw [lU, wR_app]
    omega
  obtain ⟨S2, hA2, z2, hi2, kx2⟩ := zO_jump (d := d) (z := on) hX h (by rw [eW]; omega) hH hon y
  rw [eW, show c + (wR (qK β n) pre + 2 + wR (qK β n) mid + wR (qK β n) body) + 1 = c + wR (qK β n) pre + 2 + wR (qK β n) mid + wR (qK β n) body + 1 by omega] at z2
  obtain ⟨J, hJ⟩ : ∃ J : Op, J = (4, [], y, (on : Int) - (c + wR (qK β n) pre + 2 + wR (qK β n) mid + wR (qK β n) body + 1 : Nat)) := ⟨_, rfl⟩
  rw [← hJ] at z2
  have hJ4 : J.1 = 4 := by rw [hJ]
  have lJ : lR (qK β n) J = 2 := by rw [hJ]; rfl
  have e2 : (pre ++ (tg, [], 0, 0) :: (mid ++ body)) ++ [J] = pre ++ (tg, [], 0, 0) :: (mid ++ body ++ [J]) := by simp only [List.append_assoc, List.cons_append]
  rw [e2] at z2
  obtain ⟨S3, hA3, z3, kx3, hi3⟩ := zO_fill (d := d + 8) (x := x) hX z2 hH (by show tg ∈ [4, 5, 10, 12]; rcases htg with rfl | rfl <;> decide)
  have wJ : wR (qK β n) (mid ++ body ++ [J]) = wR (qK β n) mid + wR (qK β n) body + 2 := by
    rw [wR_app, wR_app]
    show _ + (lR (qK β n) J + 0) = _
    rw [lJ]
  rw [wJ, show ((1 + (wR (qK β n) mid + wR (qK β n) body + 2) : Nat) : Int) = ((3 + wR (qK β n) mid + wR (qK β n) body : Nat) : Int) by omega] at z3
  obtain ⟨U, hU⟩ : ∃ U : Op, U = (tg, [], x, ((3 + wR (qK β n) mid + wR (qK β n) body : Nat) : Int)) := ⟨_, rfl⟩
  have z3' : zO β n V P A own0 m u S0 H B0 X L S c w t f b j (((pre ++ [U]) ++ mid) ++ (body ++ [J])) f1 S3 := by
    rw [hU]
    have : ((pre ++ [(tg, [], x, ((3 + wR (qK β n) mid + wR (qK β n) body : Nat) : Int))]) ++ mid) ++ (body ++ [J]) = pre ++ (tg, [], x, ((3 + wR (qK β n) mid + wR (qK β n) body : Nat) : Int)) :: (mid ++ body ++ [J]) := by simp only [List.append_assoc, List.cons_append, List.nil_append]
    rw [this]
    exact z3
  have nU : n60 [U] := n60_1 (by rw [hU]; exact hT)
  have nJ : n60 [J] := n60_1 (by rw [hJ4]; decide)
  have np : n60 ((pre ++ [U]) ++ mid) := n60_app.mpr ⟨n60_app.mpr ⟨hp, nU⟩, hm⟩
  have eWp : wR (qK β n) ((pre ++ [U]) ++ mid) = wR (qK β n) pre + 2 + wR (qK β n) mid := by
    rw [wR_app, wR_app]
    show wR (qK β n) pre + (lR (qK β n) U + 0) + _ = _
    rw [hU, lU]
  have eCp : wC ((pre ++ [U]) ++ mid) = wC pre + 2 + wC mid := by
    rw [wC_app, wC_app]
    show wC pre + (lC U + 0) + _ = _
    rw [hU, cU]
  have eWJ : wR (qK β n) (body ++ [J]) = wR (qK β n) body + 2 := by
    rw [wR_app]
    show _ + (lR (qK β n) J + 0) = _
    rw [lJ]
  have eZ : (zbk (qK β n) c (((pre ++ [U]) ++ mid) ++ (body ++ [J]))).length = (zbk (qK β n) (c + wR (qK β n) pre + 2 + wR (qK β n) mid) body).length := by
    rw [zbk_app, zbk_n _ _ _ np, zbk_app, zbk_n _ [J] _ nJ, eWp, show c + (wR (qK β n) pre + 2 + wR (qK β n) mid) = c + wR (qK β n) pre + 2 + wR (qK β n) mid by omega]
    simp only [List.nil_append, List.append_nil]
  have l3 : sI S3 6126 = nI (L + 1) := (hi3 _).trans ((hi2 _ (by omega)).trans hL)
  obtain ⟨S4, hA4, z4, l4, i4, d4, a4⟩ := zO_end (d := d) (ce := ce) (cc := cc) (l2 := l2) hX z3' hH hLM (by rw [eZ]; exact hb) l3 hlo
  have eF : rsv (qK β n) ce (c + wR (qK β n) (((pre ++ [U]) ++ mid) ++ (body ++ [J]))) cc c (((pre ++ [U]) ++ mid) ++ (body ++ [J])) = pre ++ U :: (mid ++ (rsv (qK β n) ce (c + wR (qK β n) pre + wR (qK β n) mid + wR (qK β n) body + 4) ci (c + wR (qK β n) pre + 2 + wR (qK β n) mid) body ++ [J])) := by
    have e5 : c + wR (qK β n) (((pre ++ [U]) ++ mid) ++ (body ++ [J])) = c + wR (qK β n) pre + wR (qK β n) mid + wR (qK β n) body + 4 := by
      rw [wR_app, eWp, eWJ]
      omega
    rw [e5, rsv_app, rsv_n _ _ _ _ _ _ np, rsv_app, rsv_n _ _ _ [J] _ _ nJ, eWp, eCp, show c + (wR (qK β n) pre + 2 + wR (qK β n) mid) = c + wR (qK β n) pre + 2 + wR (qK β n) mid by omega, show cc + (wC pre + 2 + wC mid) = ci by omega]
    simp only [List.append_assoc, List.cons_append, List.nil_append]
  have n4 := rsv_60 (qK β n) ce (c + wR (qK β n) (((pre ++ [U]) ++ mid) ++ (body ++ [J]))) (((pre ++ [U]) ++ mid) ++ (body ++ [J])) cc c
  rw [eF, hU, hJ] at z4 n4
  refine ⟨S2, S3, S4, hA2, hA3, hA4, z4, n4, l4, fun i e1 e3 e4 => (i4 i e1 e3 e4).trans ((hi3 i).trans (hi2 i (by omega))), fun i hi => ?_, fun a a1 a2 a3 a4' => (a4 a a1 a2 a3 a4').trans ((kx3.2.1 a a1 a2 a3 a4').1.trans (kx2.2.1 a a1 a2 a3 a4').1)⟩
  obtain ⟨b1, b2, b3, b4⟩ := d4 i hi
  exact ⟨b1.trans ((congrFun kx3.2.2.1 i).trans (congrFun kx2.2.2.1 i)), b2.trans ((congrFun kx3.2.2.2.1 i).trans (congrFun kx2.2.2.2.1 i)), b3.trans ((congrFun kx3.2.2.2.2.1 i).trans (congrFun kx2.2.2.2.2.1 i)), b4.trans ((congrFun kx3.2.2.2.2.2.1 i).trans (congrFun kx2.2.2.2.2.2.1 i))⟩
/-- what a name in the text is -/
theorem z_nm (hX : zX β n V own0 m k1 S0) (h : zE own0 m u S0 H B0 c w t f b S) (hj : j ≤ k1) (hK : qK β n j = 3) : ∃ r, r < 2 ^ 20 ∧ V j = nI r ∧ sA S 67 j = nI 1 ∧ sA S 68 j = nI r := by
  obtain ⟨t1, t2, t3, t4, t5, t6, -⟩ := z_tok hX h hj
  obtain ⟨r, r1, r2⟩ := t6 hK
  rw [hK] at t1
  exact ⟨r, by omega, r2, t1, t5.trans r2⟩
theorem wdS_19 {V : Nat → Int32} {P : Nat → Int32 → Int32 × Int32} {k s : Nat} : wdS V P (19, [k, s], 0, 0) = [nI 6, V k, (P s (V k)).1, (P s (V k)).2] := rfl
end
