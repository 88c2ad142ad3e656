/-! small words of the printed liftings -/
def gz : Nat → Nat := fun _ => 0
theorem hgz {a b : Nat} : gz a ≤ gz b ∧ gz a ≤ gz b := ⟨Nat.le_refl _, Nat.le_refl _⟩
theorem okn {n : Int} (h : (decide (-2147483648 ≤ n) && decide (n < 2147483648)) = true) : okI n := by
  rw [Bool.and_eq_true, decide_eq_true_eq, decide_eq_true_eq] at h
  exact h
theorem okn2 {n : Int} (h : (decide (-9223372036854775808 ≤ n) && decide (n < 9223372036854775808)) = true) : okL n := by
  rw [Bool.and_eq_true, decide_eq_true_eq, decide_eq_true_eq] at h
  exact h
