/-! The calls for metres. -/
def moA (A : aS) (sz : Nat) (g : Nat → Nat) : aS := fun c k => if c = 41 ∧ 24 * A 30 16 ≤ k ∧ k < 24 * A 30 16 + sz then g (k - 24 * A 30 16) else if c = 40 ∧ k = A 30 16 then sz else if c = 30 ∧ k = 16 then A 30 16 + 1 else if c = 30 ∧ k = 19 then 0 else A c k
theorem moA_41 (A : aS) (sz : Nat) (g : Nat → Nat) (k : Nat) : moA A sz g 41 k = if 24 * A 30 16 ≤ k ∧ k < 24 * A 30 16 + sz then g (k - 24 * A 30 16) else A 41 k := by
  unfold moA
  by_cases q : 24 * A 30 16 ≤ k ∧ k < 24 * A 30 16 + sz
  · rw [if_pos ⟨rfl, q⟩, if_pos q]
  · rw [if_neg (fun z => q z.2), if_neg q]; rfl
theorem moA_40 (A : aS) (sz : Nat) (g : Nat → Nat) (k : Nat) : moA A sz g 40 k = if k = A 30 16 then sz else A 40 k := by
  unfold moA
  by_cases q : k = A 30 16
  · rw [if_neg (fun z => absurd z.1 (by decide)), if_pos ⟨rfl, q⟩, if_pos q]
  · rw [if_neg (fun z => absurd z.1 (by decide)), if_neg (fun z => q z.2), if_neg q]; rfl
theorem moA_o (A : aS) (sz : Nat) (g : Nat → Nat) {c k : Nat} (h1 : c ≠ 41) (h2 : c ≠ 40) (h3 : ¬ (c = 30 ∧ k = 16)) (h4 : ¬ (c = 30 ∧ k = 19)) : moA A sz g c k = A c k := by
  unfold moA
  rw [if_neg (fun z => h1 z.1), if_neg (fun z => h2 z.1), if_neg h3, if_neg h4]
theorem moA_WF {A : aS} (hW : WFA A) {sz : Nat} {g : Nat → Nat} (hp : A 30 16 < 8) (hs : 1 ≤ sz ∧ sz ≤ 24) (hg : ∀ j, j < sz → 1 ≤ g j ∧ g j ≤ 20) : WFA (moA A sz g) := by
  refine ⟨hW.1, hW.2.1, hW.2.2.1, hW.2.2.2.1, ⟨show A 30 16 + 1 ≤ 8 from hp, fun m hm => ?_⟩, Nat.zero_le _, hW.2.2.2.2.2.2⟩
  have hm : m < A 30 16 + 1 := hm
  rw [moA_40]
  by_cases q : m = A 30 16
  · rw [if_pos q]
    refine ⟨hs.1, hs.2, fun j hj => ?_⟩
    rw [moA_41, if_pos (by omega), show 24 * m + j - 24 * A 30 16 = j from by omega]
    exact hg j hj
  · rw [if_neg q]
    have := hW.2.2.2.2.1.2 m (by omega)
    refine ⟨this.1, this.2.1, fun j hj => ?_⟩
    have h2 := this.2.1
    rw [moA_41, if_neg (by omega)]
    exact this.2.2 j hj
