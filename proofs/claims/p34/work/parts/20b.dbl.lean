/-! The mean width as a double: what it is compared with, by counting through all widths and numbers of systems of at most twelve notes. -/
def mnD (a b : Nat) : UInt64 := FP.ddiv (FP.i2d (n3 a)) (FP.i2d (n3 b))
def chkD (a b : Nat) : Bool := decide (ckD (mnD a b) = some (mnD a b)) && decide (Op.cmpValue (FP.dcmp (mnD a b) (mnD a b)) .l = 0)
def chkM (a : Nat) : Bool := decide (ckD (FP.dmul FP.dconst1 (FP.i2d (n3 a))) = some (FP.i2d (n3 a)))
set_option maxRecDepth 100000 in
theorem k_b1 : ∀ a : Fin 154, chkD (a.val + 3) 1 = true := by decide +kernel
set_option maxRecDepth 100000 in
theorem k_b2 : ∀ a : Fin 151, chkD (a.val + 6) 2 = true := by decide +kernel
set_option maxRecDepth 100000 in
theorem k_b3 : ∀ a : Fin 148, chkD (a.val + 9) 3 = true := by decide +kernel
set_option maxRecDepth 100000 in
theorem k_b4 : ∀ a : Fin 145, chkD (a.val + 12) 4 = true := by decide +kernel
set_option maxRecDepth 100000 in
theorem k_b5 : ∀ a : Fin 142, chkD (a.val + 15) 5 = true := by decide +kernel
set_option maxRecDepth 100000 in
theorem k_b6 : ∀ a : Fin 139, chkD (a.val + 18) 6 = true := by decide +kernel
set_option maxRecDepth 100000 in
theorem k_b7 : ∀ a : Fin 136, chkD (a.val + 21) 7 = true := by decide +kernel
set_option maxRecDepth 100000 in
theorem k_b8 : ∀ a : Fin 133, chkD (a.val + 24) 8 = true := by decide +kernel
set_option maxRecDepth 100000 in
theorem k_b9 : ∀ a : Fin 130, chkD (a.val + 27) 9 = true := by decide +kernel
set_option maxRecDepth 100000 in
theorem k_b10 : ∀ a : Fin 127, chkD (a.val + 30) 10 = true := by decide +kernel
set_option maxRecDepth 100000 in
theorem k_b11 : ∀ a : Fin 124, chkD (a.val + 33) 11 = true := by decide +kernel
set_option maxRecDepth 100000 in
theorem k_b12 : ∀ a : Fin 121, chkD (a.val + 36) 12 = true := by decide +kernel
set_option maxRecDepth 100000 in
theorem k_mul : ∀ a : Fin 157, chkM a.val = true := by decide +kernel
theorem k_z0 : Op.cmpValue (FP.dcmp FP.dconst0 FP.dconst0) .l = 0 := by decide +kernel
theorem chk_ok {a b : Nat} (hb : 1 ≤ b ∧ b ≤ 12) (ha : 3 * b ≤ a ∧ a ≤ 156) : chkD a b = true := by
  obtain ⟨x, rfl⟩ : ∃ x, a = x + 3 * b := ⟨a - 3 * b, by omega⟩
  match b, hb with
  | 1, _ => exact k_b1 ⟨x, by omega⟩
  | 2, _ => exact k_b2 ⟨x, by omega⟩
  | 3, _ => exact k_b3 ⟨x, by omega⟩
  | 4, _ => exact k_b4 ⟨x, by omega⟩
  | 5, _ => exact k_b5 ⟨x, by omega⟩
  | 6, _ => exact k_b6 ⟨x, by omega⟩
  | 7, _ => exact k_b7 ⟨x, by omega⟩
  | 8, _ => exact k_b8 ⟨x, by omega⟩
  | 9, _ => exact k_b9 ⟨x, by omega⟩
  | 10, _ => exact k_b10 ⟨x, by omega⟩
  | 11, _ => exact k_b11 ⟨x, by omega⟩
  | 12, _ => exact k_b12 ⟨x, by omega⟩
theorem mean_ok {a b : Nat} (hb : 1 ≤ b ∧ b ≤ 12) (ha : 3 * b ≤ a ∧ a ≤ 156) : ckD (mnD a b) = some (mnD a b) ∧ Op.cmpValue (FP.dcmp (mnD a b) (mnD a b)) .l = 0 := by
  have h := chk_ok hb ha
  unfold chkD at h
  rw [Bool.and_eq_true, decide_eq_true_eq, decide_eq_true_eq] at h
  exact h
theorem mul_ok {a : Nat} (ha : a ≤ 156) : ckD (FP.dmul FP.dconst1 (FP.i2d (n3 a))) = some (FP.i2d (n3 a)) := by
  have h := k_mul ⟨a, by omega⟩
  unfold chkM at h
  rw [decide_eq_true_eq] at h
  exact h
