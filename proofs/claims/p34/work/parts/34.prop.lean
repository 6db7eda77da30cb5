/-- the class, whole -/
def CA (A : aS) (M : hyM) : Prop := CB A M ∧ CD A M
theorem CA_len {A : aS} {M : hyM} (h : CA A M) (i : Nat) : M.1 2 i = n3 (A 31 i) := h.1.1.2.2.2.1 i
theorem CA_pit {A : aS} {M : hyM} (h : CA A M) (i : Nat) : M.1 3 i = n3 (A 32 i) := h.1.1.2.2.2.2 i
theorem CA_n {A : aS} {M : hyM} (h : CA A M) : M.1 1 4 = n3 (A 30 2) := h.1.1.2.1
theorem CA_t {A : aS} {M : hyM} (h : CA A M) : M.1 1 5 = n3 (A 30 1) := h.1.1.2.2.1
theorem st_le {A : aS} (hW : WFA A) {i : Nat} (hi : i ≤ A 30 2) : smN (A 31) i ≤ 320 := by
  have h1 := hW.1.1
  have h2 : smN (A 31) i ≤ i * 8 := smN_le (fun j hj => (hW.1.2.2.1 j (by omega)).2)
  omega
theorem qf_ite {b : Bool} {x : Int32} {k : Nat} (hk : k < 1000) (hx : x = if b = true then n3 k else -1) : decide (x = -1) = !b := by
  rw [hx]
  cases b with
  | true => rw [if_pos rfl]; simp only [n3_m1 (show k < 2147483648 by omega)]; rfl
  | false => rw [if_neg (by decide)]; rfl
