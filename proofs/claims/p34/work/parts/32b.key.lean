/-- the step of a pitch -/
def stT (t p : Nat) : Nat := ((Ke_stepOf (n3 t) (n3 p) hM0).getD 0).toNatClampNeg
set_option maxRecDepth 100000 in
theorem k_led : ∀ s : Fin 64, ∀ q : Fin 4, Ke_ledgerLines (n3 s.val) (n3 q.val / 2) hM0 = (if n3 s.val ≤ ((if 2 ≤ n3 q.val then 25 else 37) + 8) then (if (if 2 ≤ n3 q.val then 25 else 37) ≤ n3 s.val then 0 else (((if 2 ≤ n3 q.val then 25 else 37) - n3 s.val) / 2)) else (((n3 s.val - (if 2 ≤ n3 q.val then 25 else 37)) - 8) / 2)) := by decide +kernel
/-! parallels -/
set_option maxRecDepth 100000 in
theorem k_fm : ∀ a : Fin 49, ∀ b : Fin 49, Jm_floorMod (n3 (a.val + 36) - n3 (b.val + 36)) 12 hM0 = some (n3 ((a.val + 60 - b.val) % 12)) ∧ n3 (a.val + 36) - n3 (b.val + 36) + 60 = n3 (a.val + 60 - b.val) := by decide +kernel
set_option maxRecDepth 100000 in
theorem k_cm : ∀ a : Fin 49, ∀ b : Fin 49, decide (n3 (a.val + 36) - n3 (b.val + 36) ≤ 0) = decide (a.val ≤ b.val) ∧ decide (0 ≤ n3 (a.val + 36) - n3 (b.val + 36)) = decide (b.val ≤ a.val) ∧ decide (0 < n3 (a.val + 36) - n3 (b.val + 36)) = decide (b.val < a.val) := by decide +kernel
