/-! The mean width of the class, of at most twelve notes. -/
theorem smN_ge {f : Nat → Nat} {b : Nat} {k : Nat} (h : ∀ i, i < k → b ≤ f i) : k * b ≤ smN f k := by
  induction k with
  | zero => rw [Nat.zero_mul]; exact Nat.zero_le _
  | succ k ih =>
    have h1 := ih (fun i hi => h i (by omega))
    have h2 := h k (by omega)
    rw [smN, Nat.add_mul]
    omega
theorem ssf_k (w : Nat → Nat) (pg k : Nat) : (ssf w pg (k + 1)).1 ≤ k := by
  induction k with
  | zero => exact Nat.le_refl 0
  | succ k ih =>
    rw [ssf, if_neg (by omega)]
    split
    · dsimp only; omega
    · dsimp only; omega
/-- systems -/
def nsA (A : aS) : Nat := nsy (phw (wA A) (eA A) (A 30 2)) (A 30 13) (phc (eA A) (A 30 2))
def mwV (A : aS) : UInt64 := if nsA A = 0 then FP.dconst0 else mnD (smN (wA A) (A 30 2)) (nsA A)
theorem nsA_bd {A : aS} (hW : WFA A) : nsA A ≤ A 30 2 ∧ 3 * nsA A ≤ smN (wA A) (A 30 2) ∧ smN (wA A) (A 30 2) ≤ A 30 2 * 13 := by
  have hn := hW.1.1
  have hm := mA_le A
  have h1 : A 30 2 * 3 ≤ smN (wA A) (A 30 2) := smN_ge (fun i _ => (wA_le hW i).1)
  have h2 : smN (wA A) (A 30 2) ≤ A 30 2 * 13 := smN_le (fun i _ => (wA_le hW i).2)
  have h3 : nsA A ≤ mA A := by
    unfold nsA nsy mA
    split
    · omega
    · rename_i c
      obtain ⟨k, hk⟩ : ∃ k, phc (eA A) (A 30 2) = k + 1 := ⟨phc (eA A) (A 30 2) - 1, by omega⟩
      rw [hk]
      have := ssf_k (phw (wA A) (eA A) (A 30 2)) (A 30 13) k
      omega
  omega
theorem mean_class {A : aS} {M : hyM} (hW : WFA A) (hn : A 30 2 ≤ 12) (hC : CA A M) : Hp_meanWidth M = some (mwV A) := by
  obtain ⟨b1, b2, b3⟩ := nsA_bd hW
  have h3 : M.1 21 3 = n3 (nsA A) := hC.2.2.2.2.2.1
  have h4 : M.1 21 4 = n3 (smN (wA A) (A 30 2)) := hC.2.2.2.2.2.2
  rw [Hp_meanWidth, h3, h4, l_0, ite_lt (by omega) (by omega)]
  unfold mwV
  by_cases c : nsA A = 0
  · rw [if_pos c, if_neg (by omega)]
  · rw [if_neg c, if_pos (by omega)]
    have := (mean_ok (a := smN (wA A) (A 30 2)) (b := nsA A) (by omega) (by omega)).1
    unfold mnD at this
    rw [this, Option.bind_some]
    rfl
