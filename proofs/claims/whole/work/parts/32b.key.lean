/-- the step of a pitch -/
def stT (t p : Nat) : Nat := ((Ke_stepOf (n3 t) (n3 p) hM0).getD 0).toNatClampNeg
set_option maxRecDepth 100000 in
theorem k_rai : ∀ t : Fin 12, ∀ p : Fin 49, Ke_isRaised (n3 t.val) (n3 (p.val + 36)) hM0 = Rf_isRaised (n3 (p.val + 36)) (mT t.val) ∧ (Ke_isRaised (n3 t.val) (n3 (p.val + 36)) hM0).isSome = true := by decide +kernel
set_option maxRecDepth 100000 in
theorem k_deg : ∀ t : Fin 12, ∀ p : Fin 49, Ke_degreeOf (n3 t.val) (n3 (p.val + 36)) hM0 = Rf_degree (n3 (p.val + 36)) (mT t.val) ∧ (Ke_degreeOf (n3 t.val) (n3 (p.val + 36)) hM0).isSome = true := by decide +kernel
set_option maxRecDepth 100000 in
theorem k_stp : ∀ t : Fin 12, ∀ p : Fin 49, Ke_stepOf (n3 t.val) (n3 (p.val + 36)) hM0 = some (n3 (stT t.val (p.val + 36))) ∧ Rf_step (n3 (p.val + 36)) (mT t.val) = some (n3 (stT t.val (p.val + 36))) ∧ stT t.val (p.val + 36) < 64 := by decide +kernel
set_option maxRecDepth 100000 in
theorem k_sha : ∀ t : Fin 12, ∀ p : Fin 49, (Ke_isRaised (n3 t.val) (n3 (p.val + 36)) hM0).bind (fun v => if v then some (-1) else Ke_shapeOf (n3 t.val) (n3 (p.val + 36)) hM0) = Rf_shape (n3 (p.val + 36)) (mT t.val) ∧ (Rf_shape (n3 (p.val + 36)) (mT t.val)).isSome = true := by decide +kernel
set_option maxRecDepth 100000 in
theorem k_led : ∀ s : Fin 64, ∀ q : Fin 4, Ke_ledgerLines (n3 s.val) (n3 q.val / 2) hM0 = (if n3 s.val ≤ ((if 2 ≤ n3 q.val then 25 else 37) + 8) then (if (if 2 ≤ n3 q.val then 25 else 37) ≤ n3 s.val then 0 else (((if 2 ≤ n3 q.val then 25 else 37) - n3 s.val) / 2)) else (((n3 s.val - (if 2 ≤ n3 q.val then 25 else 37)) - 8) / 2)) := by decide +kernel
set_option maxRecDepth 100000 in
theorem k_abs : ∀ a : Fin 64, ∀ b : Fin 64, (!decide (1 < jabs (n3 a.val - n3 b.val))) = Rf_within (n3 a.val - n3 b.val) (-1) 1 hM0 := by decide +kernel
/-! parallels -/
set_option maxRecDepth 100000 in
theorem k_fm : ∀ a : Fin 49, ∀ b : Fin 49, Jm_floorMod (n3 (a.val + 36) - n3 (b.val + 36)) 12 hM0 = some (n3 ((a.val + 60 - b.val) % 12)) ∧ n3 (a.val + 36) - n3 (b.val + 36) + 60 = n3 (a.val + 60 - b.val) := by decide +kernel
set_option maxRecDepth 100000 in
theorem k_cm : ∀ a : Fin 49, ∀ b : Fin 49, decide (n3 (a.val + 36) - n3 (b.val + 36) ≤ 0) = decide (a.val ≤ b.val) ∧ decide (0 ≤ n3 (a.val + 36) - n3 (b.val + 36)) = decide (b.val ≤ a.val) ∧ decide (0 < n3 (a.val + 36) - n3 (b.val + 36)) = decide (b.val < a.val) := by decide +kernel
