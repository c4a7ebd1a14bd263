/-! ===== what a part of the rule comes to: both sides ===== -/
theorem i_m1' {x : Int32} {d : Nat} (h : x.toInt = (d : Int)) (h1 : 1 ≤ d) : (x - 1).toInt = ((d - 1 : Nat) : Int) ∧ cn (x - 1) = d - 1 := by
  have h2 := Int32.toInt_lt x
  have e : (x - 1).toInt = x.toInt - 1 := i_sub (by rw [kt_1]; omega) (by rw [kt_1]; omega)
  have e2 : (x - 1).toInt = ((d - 1 : Nat) : Int) := by omega
  exact ⟨e2, cn_eq e2⟩
theorem i_pm1 {x : Int32} {d : Nat} (h : x.toInt = (d : Int)) (h1 : 1 ≤ d) : (x + (-1)).toInt = ((d - 1 : Nat) : Int) ∧ cn (x + (-1)) = d - 1 := by
  have h2 := Int32.toInt_lt x
  have e : (x + (-1)).toInt = x.toInt - 1 := by
    rw [i_add (by rw [kt_m1]; omega) (by rw [kt_m1]; omega), kt_m1]
    omega
  have e2 : (x + (-1)).toInt = ((d - 1 : Nat) : Int) := by omega
  exact ⟨e2, cn_eq e2⟩
theorem i_pp1 {x : Int32} {d : Nat} (h : x.toInt = (d : Int)) (h1 : d < 50000) : (x + 1).toInt = ((d + 1 : Nat) : Int) := by
  have e := (i_p1 (N := 50000) (x := x) (by omega) (by omega) (by omega)).1
  omega
theorem i_lin {a x y : Int32} {A X Y : Nat} (ha : a.toInt = (A : Int)) (hx : x.toInt = (X : Int)) (hy : y.toInt = (Y : Int)) (h : A * X + Y < 100000) : (a * x + y).toInt = ((A * X + Y : Nat) : Int) ∧ cn (a * x + y) = A * X + Y := by
  have e1 : (a * x).toInt = ((A * X : Nat) : Int) := by
    rw [i_mul (by rw [ha, hx, ← Int.natCast_mul]; omega) (by rw [ha, hx, ← Int.natCast_mul]; omega), ha, hx, ← Int.natCast_mul]
  have e2 : (a * x + y).toInt = ((A * X + Y : Nat) : Int) := by
    rw [i_add (by rw [e1, hy]; omega) (by rw [e1, hy]; omega), e1, hy]
    omega
  exact ⟨e2, cn_eq e2⟩
