/-! ranges and numbers -/
def ixB (a : Int32) (s : Nat) : Bool := decide (0 ≤ a) && decide (a < n3 s)
theorem lt_le (a b : Int32) : ¬ a < b ↔ b ≤ a := Int32.not_lt
theorem n3_of {a : Int32} (h : 0 ≤ a) : ∃ k, a = n3 k ∧ k < 2147483648 := ⟨a.toNatClampNeg, (Int32.ofNat_toNatClampNeg a h).symm, Int32.toNatClampNeg_lt a⟩
theorem ckI (a : Int32) (s : Nat) (M : hyM) : Hp_checkIndex a (n3 s) M = if ixB a s = true then .inr () else .inl 3 := by
  unfold Hp_checkIndex ixB
  by_cases c : a < 0
  · have : ¬ (0 : Int32) ≤ a := fun q => (lt_le a 0).mpr q c
    rw [if_pos c, if_pos rfl]; simp [this]
  · have h1 := (lt_le a 0).mp c
    rw [if_neg c]
    by_cases d : a < n3 s
    · simp [d, h1]
    · simp [d]
theorem ix_n3 {a : Int32} {s : Nat} (h : ixB a s = true) (hs : s < 2147483648) : ∃ k, a = n3 k ∧ k < s := by
  unfold ixB at h
  rw [Bool.and_eq_true, decide_eq_true_eq, decide_eq_true_eq] at h
  obtain ⟨k, rfl, hk⟩ := n3_of h.1
  rw [n3_lt hk hs] at h
  exact ⟨k, rfl, h.2⟩
theorem gt0 : ¬ (1 : Int32) ≤ 0 ∧ ¬ (2 : Int32) ≤ 0 ∧ ¬ (3 : Int32) ≤ 0 ∧ (0 : Int32) ≤ 0 := by decide
