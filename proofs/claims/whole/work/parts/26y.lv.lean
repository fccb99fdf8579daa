/-! LOCALS written in turn -/
theorem sm_p1_4 {p q : Nat} (h : p ≠ q) (lv : sm_L) {x t y z : Value} (hx : x.category = 1) (hy : y.category = 1) : sm_p1 (sm_p1 (sm_p1 (sm_p1 lv p x) q t) p y) q z = sm_p1 (sm_p1 lv p y) q z := by
  have e1 : ∀ v : Value, v.category = 1 → (!((p, v).1 == q) && !((p, v).1 + 1 == q && (p, v).2.category == 2)) = true := fun v hv => by
    simp [h, hv]
  have e2 : ∀ v : Value, (!((q, v).1 == q) && !((q, v).1 + 1 == q && (q, v).2.category == 2)) = false := fun v => by simp
  have e3 : ∀ v : Value, (!((p, v).1 == p) && !((p, v).1 + 1 == p && (p, v).2.category == 2)) = false := fun v => by simp
  unfold sm_p1
  rw [List.filter_cons, e1 y hy]
  simp only [if_true]
  congr 1
  rw [List.filter_cons (x := (p, y)), e1 y hy]
  simp only [if_true]
  congr 1
  rw [List.filter_cons (x := (p, x)), e1 x hx]
  simp only [if_true]
  rw [List.filter_cons (x := (q, t)), List.filter_cons (x := (p, x)), e3 x]
  simp only [Bool.false_eq_true, if_false]
  have key : ∀ (F G : Nat × Value → Bool), (((lv.filter F).filter G).filter F).filter G = (lv.filter F).filter G := by
    intro F G
    simp only [List.filter_filter]
    congr 1
    funext u
    cases F u <;> cases G u <;> rfl
  split
  · rw [List.filter_cons (x := (q, t)), e2 t]
    simp only [Bool.false_eq_true, if_false]
    exact key _ _
  · exact key _ _
