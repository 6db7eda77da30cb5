/-! The mean width as a double: its bits, by counting through all widths and numbers of systems. -/
def mnD (a b : Nat) : UInt64 := FP.ddiv (FP.i2d (n3 a)) (FP.i2d (n3 b))
def chkD (a b : Nat) : Bool := decide (ckD (mnD a b) = some (mnD a b)) && decide (Hp_bitsOf (mnD a b) hM0 = some (mnD a b).toInt64) && !Jd_isNaN (mnD a b) hM0
set_option maxRecDepth 100000 in
theorem k_b1 : ∀ a : Fin 518, chkD (a.val + 3) 1 = true := by decide +kernel
set_option maxRecDepth 100000 in
theorem k_b2 : ∀ a : Fin 515, chkD (a.val + 6) 2 = true := by decide +kernel
set_option maxRecDepth 100000 in
theorem k_b3 : ∀ a : Fin 512, chkD (a.val + 9) 3 = true := by decide +kernel
set_option maxRecDepth 100000 in
theorem k_b4 : ∀ a : Fin 509, chkD (a.val + 12) 4 = true := by decide +kernel
set_option maxRecDepth 100000 in
theorem k_b5 : ∀ a : Fin 506, chkD (a.val + 15) 5 = true := by decide +kernel
set_option maxRecDepth 100000 in
theorem k_b6 : ∀ a : Fin 503, chkD (a.val + 18) 6 = true := by decide +kernel
set_option maxRecDepth 100000 in
theorem k_b7 : ∀ a : Fin 500, chkD (a.val + 21) 7 = true := by decide +kernel
set_option maxRecDepth 100000 in
theorem k_b8 : ∀ a : Fin 497, chkD (a.val + 24) 8 = true := by decide +kernel
set_option maxRecDepth 100000 in
theorem k_b9 : ∀ a : Fin 494, chkD (a.val + 27) 9 = true := by decide +kernel
set_option maxRecDepth 100000 in
theorem k_b10 : ∀ a : Fin 491, chkD (a.val + 30) 10 = true := by decide +kernel
set_option maxRecDepth 100000 in
theorem k_b11 : ∀ a : Fin 488, chkD (a.val + 33) 11 = true := by decide +kernel
set_option maxRecDepth 100000 in
theorem k_b12 : ∀ a : Fin 485, chkD (a.val + 36) 12 = true := by decide +kernel
set_option maxRecDepth 100000 in
theorem k_b13 : ∀ a : Fin 482, chkD (a.val + 39) 13 = true := by decide +kernel
set_option maxRecDepth 100000 in
theorem k_b14 : ∀ a : Fin 479, chkD (a.val + 42) 14 = true := by decide +kernel
set_option maxRecDepth 100000 in
theorem k_b15 : ∀ a : Fin 476, chkD (a.val + 45) 15 = true := by decide +kernel
set_option maxRecDepth 100000 in
theorem k_b16 : ∀ a : Fin 473, chkD (a.val + 48) 16 = true := by decide +kernel
set_option maxRecDepth 100000 in
theorem k_b17 : ∀ a : Fin 470, chkD (a.val + 51) 17 = true := by decide +kernel
set_option maxRecDepth 100000 in
theorem k_b18 : ∀ a : Fin 467, chkD (a.val + 54) 18 = true := by decide +kernel
set_option maxRecDepth 100000 in
theorem k_b19 : ∀ a : Fin 464, chkD (a.val + 57) 19 = true := by decide +kernel
set_option maxRecDepth 100000 in
theorem k_b20 : ∀ a : Fin 461, chkD (a.val + 60) 20 = true := by decide +kernel
set_option maxRecDepth 100000 in
theorem k_b21 : ∀ a : Fin 458, chkD (a.val + 63) 21 = true := by decide +kernel
set_option maxRecDepth 100000 in
theorem k_b22 : ∀ a : Fin 455, chkD (a.val + 66) 22 = true := by decide +kernel
set_option maxRecDepth 100000 in
theorem k_b23 : ∀ a : Fin 452, chkD (a.val + 69) 23 = true := by decide +kernel
set_option maxRecDepth 100000 in
theorem k_b24 : ∀ a : Fin 449, chkD (a.val + 72) 24 = true := by decide +kernel
set_option maxRecDepth 100000 in
theorem k_b25 : ∀ a : Fin 446, chkD (a.val + 75) 25 = true := by decide +kernel
set_option maxRecDepth 100000 in
theorem k_b26 : ∀ a : Fin 443, chkD (a.val + 78) 26 = true := by decide +kernel
set_option maxRecDepth 100000 in
theorem k_b27 : ∀ a : Fin 440, chkD (a.val + 81) 27 = true := by decide +kernel
set_option maxRecDepth 100000 in
theorem k_b28 : ∀ a : Fin 437, chkD (a.val + 84) 28 = true := by decide +kernel
set_option maxRecDepth 100000 in
theorem k_b29 : ∀ a : Fin 434, chkD (a.val + 87) 29 = true := by decide +kernel
set_option maxRecDepth 100000 in
theorem k_b30 : ∀ a : Fin 431, chkD (a.val + 90) 30 = true := by decide +kernel
set_option maxRecDepth 100000 in
theorem k_b31 : ∀ a : Fin 428, chkD (a.val + 93) 31 = true := by decide +kernel
set_option maxRecDepth 100000 in
theorem k_b32 : ∀ a : Fin 425, chkD (a.val + 96) 32 = true := by decide +kernel
set_option maxRecDepth 100000 in
theorem k_b33 : ∀ a : Fin 422, chkD (a.val + 99) 33 = true := by decide +kernel
set_option maxRecDepth 100000 in
theorem k_b34 : ∀ a : Fin 419, chkD (a.val + 102) 34 = true := by decide +kernel
set_option maxRecDepth 100000 in
theorem k_b35 : ∀ a : Fin 416, chkD (a.val + 105) 35 = true := by decide +kernel
set_option maxRecDepth 100000 in
theorem k_b36 : ∀ a : Fin 413, chkD (a.val + 108) 36 = true := by decide +kernel
set_option maxRecDepth 100000 in
theorem k_b37 : ∀ a : Fin 410, chkD (a.val + 111) 37 = true := by decide +kernel
set_option maxRecDepth 100000 in
theorem k_b38 : ∀ a : Fin 407, chkD (a.val + 114) 38 = true := by decide +kernel
set_option maxRecDepth 100000 in
theorem k_b39 : ∀ a : Fin 404, chkD (a.val + 117) 39 = true := by decide +kernel
set_option maxRecDepth 100000 in
theorem k_b40 : ∀ a : Fin 401, chkD (a.val + 120) 40 = true := by decide +kernel
theorem chk_ok {a b : Nat} (hb : 1 ≤ b ∧ b ≤ 40) (ha : 3 * b ≤ a ∧ a ≤ 520) : chkD a b = true := by
  obtain ⟨x, rfl⟩ : ∃ x, a = x + 3 * b := ⟨a - 3 * b, by omega⟩
  match b, hb with
  | 1, _ => exact k_b1 ⟨x, by omega⟩
  | 2, _ => exact k_b2 ⟨x, by omega⟩
  | 3, _ => exact k_b3 ⟨x, by omega⟩
  | 4, _ => exact k_b4 ⟨x, by omega⟩
  | 5, _ => exact k_b5 ⟨x, by omega⟩
  | 6, _ => exact k_b6 ⟨x, by omega⟩
  | 7, _ => exact k_b7 ⟨x, by omega⟩
  | 8, _ => exact k_b8 ⟨x, by omega⟩
  | 9, _ => exact k_b9 ⟨x, by omega⟩
  | 10, _ => exact k_b10 ⟨x, by omega⟩
  | 11, _ => exact k_b11 ⟨x, by omega⟩
  | 12, _ => exact k_b12 ⟨x, by omega⟩
  | 13, _ => exact k_b13 ⟨x, by omega⟩
  | 14, _ => exact k_b14 ⟨x, by omega⟩
  | 15, _ => exact k_b15 ⟨x, by omega⟩
  | 16, _ => exact k_b16 ⟨x, by omega⟩
  | 17, _ => exact k_b17 ⟨x, by omega⟩
  | 18, _ => exact k_b18 ⟨x, by omega⟩
  | 19, _ => exact k_b19 ⟨x, by omega⟩
  | 20, _ => exact k_b20 ⟨x, by omega⟩
  | 21, _ => exact k_b21 ⟨x, by omega⟩
  | 22, _ => exact k_b22 ⟨x, by omega⟩
  | 23, _ => exact k_b23 ⟨x, by omega⟩
  | 24, _ => exact k_b24 ⟨x, by omega⟩
  | 25, _ => exact k_b25 ⟨x, by omega⟩
  | 26, _ => exact k_b26 ⟨x, by omega⟩
  | 27, _ => exact k_b27 ⟨x, by omega⟩
  | 28, _ => exact k_b28 ⟨x, by omega⟩
  | 29, _ => exact k_b29 ⟨x, by omega⟩
  | 30, _ => exact k_b30 ⟨x, by omega⟩
  | 31, _ => exact k_b31 ⟨x, by omega⟩
  | 32, _ => exact k_b32 ⟨x, by omega⟩
  | 33, _ => exact k_b33 ⟨x, by omega⟩
  | 34, _ => exact k_b34 ⟨x, by omega⟩
  | 35, _ => exact k_b35 ⟨x, by omega⟩
  | 36, _ => exact k_b36 ⟨x, by omega⟩
  | 37, _ => exact k_b37 ⟨x, by omega⟩
  | 38, _ => exact k_b38 ⟨x, by omega⟩
  | 39, _ => exact k_b39 ⟨x, by omega⟩
  | 40, _ => exact k_b40 ⟨x, by omega⟩
  | 0, h => exact absurd h.1 (by decide)
  | n + 41, h => exact absurd h.2 (by omega)
theorem mean_ok {a b : Nat} (hb : 1 ≤ b ∧ b ≤ 40) (ha : 3 * b ≤ a ∧ a ≤ 520) (M : hyM) : ckD (mnD a b) = some (mnD a b) ∧ Hp_bitsOf (mnD a b) M = some (mnD a b).toInt64 ∧ Jd_doubleToLongBits (mnD a b) M = (mnD a b).toInt64 := by
  have h := chk_ok hb ha
  unfold chkD at h
  rw [Bool.and_eq_true, Bool.and_eq_true, decide_eq_true_eq, decide_eq_true_eq] at h
  obtain ⟨⟨h1, h2⟩, h3⟩ := h
  refine ⟨h1, h2, ?_⟩
  unfold Jd_doubleToLongBits
  have h4 : Jd_isNaN (mnD a b) M = false := by
    have : Jd_isNaN (mnD a b) M = Jd_isNaN (mnD a b) hM0 := rfl
    rw [this]
    simpa using h3
  rw [h4, if_neg (by decide)]
theorem mean_0 (M : hyM) : Hp_bitsOf FP.dconst0 M = some (FP.dconst0).toInt64 ∧ Jd_doubleToLongBits FP.dconst0 M = (FP.dconst0).toInt64 := by
  have h1 : Hp_bitsOf FP.dconst0 hM0 = some (FP.dconst0).toInt64 := by decide +kernel
  have h2 : Jd_doubleToLongBits FP.dconst0 hM0 = (FP.dconst0).toInt64 := by decide +kernel
  exact ⟨h1, h2⟩
