theorem tn0 (d : Bool) : (n3 d.toNat = 0) ↔ d = false := by cases d <;> decide
theorem tn0' (d : Bool) : decide (n3 d.toNat = 0) = !d := by cases d <;> decide
