/-! A metre dropped. -/
def drA (A : aS) (x : Nat) : aS := fun c k => if c = 40 ∧ x ≤ k ∧ k < A 30 16 - 1 then A 40 (k + 1) else if c = 41 ∧ 24 * x ≤ k ∧ k < 24 * (A 30 16 - 1) then A 41 (k + 24) else if c = 30 ∧ k = 16 then A 30 16 - 1 else A c k
theorem drA_40 (A : aS) (x k : Nat) : drA A x 40 k = if x ≤ k ∧ k < A 30 16 - 1 then A 40 (k + 1) else A 40 k := by
  unfold drA
  by_cases q : x ≤ k ∧ k < A 30 16 - 1
  · rw [if_pos ⟨rfl, q⟩, if_pos q]
  · rw [if_neg (fun z => q z.2), if_neg q]; rfl
theorem drA_41 (A : aS) (x k : Nat) : drA A x 41 k = if 24 * x ≤ k ∧ k < 24 * (A 30 16 - 1) then A 41 (k + 24) else A 41 k := by
  unfold drA
  by_cases q : 24 * x ≤ k ∧ k < 24 * (A 30 16 - 1)
  · rw [if_neg (fun z => absurd z.1 (by decide)), if_pos ⟨rfl, q⟩, if_pos q]
  · rw [if_neg (fun z => absurd z.1 (by decide)), if_neg (fun z => q z.2), if_neg q]; rfl
theorem drA_o (A : aS) (x : Nat) {c k : Nat} (h1 : c ≠ 40) (h2 : c ≠ 41) (h3 : ¬ (c = 30 ∧ k = 16)) : drA A x c k = A c k := by
  unfold drA
  rw [if_neg (fun z => h1 z.1), if_neg (fun z => h2 z.1), if_neg h3]
/-- the metre that stands at m when those from x on to j have moved -/
def mvd (x j m : Nat) : Nat := if x ≤ m ∧ m < j then m + 1 else m
theorem drA_m {A : aS} {x m : Nat} (hm : m < A 30 16 - 1) : drA A x 40 m = A 40 (mvd x (A 30 16 - 1) m) ∧ ∀ i, i < 24 → drA A x 41 (24 * m + i) = A 41 (24 * mvd x (A 30 16 - 1) m + i) := by
  unfold mvd
  by_cases q : x ≤ m ∧ m < A 30 16 - 1
  · rw [if_pos q]
    refine ⟨by rw [drA_40, if_pos q], fun i hi => ?_⟩
    rw [drA_41, if_pos (by omega)]
    congr 1
    omega
  · rw [if_neg q]
    refine ⟨by rw [drA_40, if_neg q], fun i hi => ?_⟩
    rw [drA_41, if_neg (by omega)]
theorem drA_WF {A : aS} (hW : WFA A) {x : Nat} (hx : x < A 30 16) : WFA (drA A x) := by
  have h8 := hW.2.2.2.2.1.1
  refine ⟨hW.1, hW.2.1, hW.2.2.1, hW.2.2.2.1, ⟨show A 30 16 - 1 ≤ 8 by omega, fun m hm => ?_⟩, hW.2.2.2.2.2⟩
  have hm : m < A 30 16 - 1 := hm
  obtain ⟨e1, e2⟩ := drA_m (x := x) hm
  have hb : mvd x (A 30 16 - 1) m < A 30 16 := by unfold mvd; split <;> omega
  have := hW.2.2.2.2.1.2 _ hb
  rw [e1]
  refine ⟨this.1, this.2.1, fun j hj => ?_⟩
  rw [e2 j (by omega)]
  exact this.2.2 j hj
def DI (A : aS) (x j : Nat) (M N : hyM) : Prop :=
  N.2 = M.2 ∧ (∀ c k, c ≠ 26 → c ≠ 27 → N.1 c k = M.1 c k) ∧ ∀ m, m < A 30 16 → N.1 27 m = n3 (A 40 (mvd x j m)) ∧ ∀ i, i < A 40 (mvd x j m) → N.1 26 (m * 24 + i) = n3 (A 41 (24 * mvd x j m + i))
theorem Bo_remove_ok {A : aS} {M : hyM} {x : Nat} (hW : WFA A) (hC : CA A M) (hx : x < A 30 16) : ∃ N, Bo_remove (n3 x) M = some N ∧ DI A x (A 30 16 - 1) (wI M 25 2 (n3 (A 30 16 - 1))) N := by
  have h8 := hW.2.2.2.2.1.1
  have hm := hW.2.2.2.2.1.2
  obtain ⟨x1, x2⟩ := hC.1.2.2.2.2.2.1
  have k1 := lpI (σ := Int32 × hyM) (fun F s => Bo_remove_L12 F s.1 s.2) (fun j s => s.1 = n3 j ∧ x ≤ j ∧ DI A x j (wI M 25 2 (n3 (A 30 16 - 1))) s.2) (A 30 16 - 1) (fun r => DI A x (A 30 16 - 1) (wI M 25 2 (n3 (A 30 16 - 1))) r.2) ?_ ?_ hyFu x (n3 x, wI M 25 2 (n3 (A 30 16 - 1))) (by omega) (hyFu_big (by omega)) ⟨rfl, Nat.le_refl _, rfl, fun _ _ _ _ => rfl, fun m hm2 => ?_⟩
  · obtain ⟨⟨y, N⟩, e1, e2⟩ := k1
    dsimp only at e1 e2
    refine ⟨N, ?_, e2⟩
    rw [Bo_remove, x1, l_1, n3_sub (by omega), Option.bind_some, e1]
    rfl
  · rintro F j ⟨y, P⟩ hj ⟨rfl, hxj, d1, d2, d3⟩
    dsimp only at hxj d1 d2 d3 ⊢
    have g25 : P.1 25 2 = n3 (A 30 16 - 1) := by rw [d2 _ _ (by decide) (by decide), rd_eq]
    have hn := d3 (j + 1) (by omega)
    rw [show mvd x j (j + 1) = j + 1 from by unfold mvd; rw [if_neg (by omega)]] at hn
    have hb := (hm (j + 1) (by omega)).2.1
    have hsz : ∀ Q : hyM, Q.1 27 (j + 1) = P.1 27 (j + 1) → Bo_sizeOf (n3 j + 1) Q = n3 (A 40 (j + 1)) := fun Q hQ => by
      unfold Bo_sizeOf
      rw [n3_s, atf_in _ (by omega) (by decide), hQ, hn.1]
    have k2 := lpI (σ := Int32 × hyM) (fun F s => Bo_remove_L37 (n3 j) F s.1 s.2) (fun i s => s.1 = n3 i ∧ s.2.2 = P.2 ∧ (∀ c k, c ≠ 26 → c ≠ 27 → s.2.1 c k = P.1 c k) ∧ s.2.1 27 j = n3 (A 40 (j + 1)) ∧ (∀ m, m ≠ j → s.2.1 27 m = P.1 27 m) ∧ (∀ i', i' < i → s.2.1 26 (j * 24 + i') = n3 (A 41 (24 * (j + 1) + i'))) ∧ ∀ k, k < j * 24 ∨ j * 24 + 24 ≤ k → s.2.1 26 k = P.1 26 k) (A 40 (j + 1)) (fun r => DI A x (j + 1) (wI M 25 2 (n3 (A 30 16 - 1))) r.2) ?_ ?_ hyFu 0 (n3 0, wI P 27 j (n3 (A 40 (j + 1)))) (Nat.zero_le _) (hyFu_big (by omega)) ⟨rfl, rfl, fun c k h1 h2 => rd_ne h2, rd_eq _ _ _ _, fun m hm2 => rd_nk hm2, fun i hi => absurd hi (Nat.not_lt_zero _), fun k _ => rd_ne (by decide)⟩
    · obtain ⟨⟨z, Q⟩, e1, e2⟩ := k2
      dsimp only at e1 e2
      refine Or.inl ⟨(n3 (j + 1), Q), ?_, rfl, by omega, e2⟩
      rw [Bo_remove_L12, g25, if_neg (by rw [n3_le (by omega) (by omega)]; omega), hsz P rfl, putf_in _ _ _ (by omega) (by decide), Option.bind_some]
      rw [show (0 : Int32) = n3 0 from rfl, e1, Option.bind_some]
      dsimp only
      rw [n3_s]
    · rintro F2 i ⟨z, Q⟩ hi ⟨rfl, c1, c2, c3, c4, c5, c6⟩
      dsimp only at c1 c2 c3 c4 c5 c6 ⊢
      have hnum : Bo_numberAt (n3 j + 1) (n3 i) Q = n3 (A 41 (24 * (j + 1) + i)) := by
        unfold Bo_numberAt
        rw [n3_s, l_24, n3_mul, n3_add, atf_in _ (by omega) (by decide), c6 _ (by omega), hn.2 i hi]
      rw [Bo_remove_L37, hsz Q (c4 _ (by omega)), if_neg (by rw [n3_le (by omega) (by omega)]; omega), hnum, l_24, n3_mul, n3_add, putf_in _ _ _ (by omega) (by decide), Option.bind_some, n3_s]
      refine Or.inl ⟨(n3 (i + 1), wI Q 26 (j * 24 + i) (n3 (A 41 (24 * (j + 1) + i)))), rfl, rfl, c1, fun c k h1 h2 => by rw [rd_ne h1]; exact c2 c k h1 h2, by rw [rd_ne (by decide)]; exact c3, fun m h2 => by rw [rd_ne (by decide)]; exact c4 m h2, fun i' hi' => ?_, fun k hk => by rw [rd_nk (by omega)]; exact c6 k hk⟩
      dsimp only
      by_cases e : i' = i
      · subst e; rw [rd_eq]
      · rw [rd_nk (by omega)]; exact c5 i' (by omega)
    · rintro F2 ⟨z, Q⟩ ⟨rfl, c1, c2, c3, c4, c5, c6⟩
      dsimp only at c1 c2 c3 c4 c5 c6 ⊢
      rw [Bo_remove_L37, hsz Q (c4 _ (by omega)), if_pos (by rw [n3_le (by omega) (by omega)]; omega)]
      refine ⟨_, rfl, c1.trans d1, fun c k h1 h2 => (c2 c k h1 h2).trans (d2 c k h1 h2), fun m hm2 => ?_⟩
      dsimp only
      by_cases e : m = j
      · subst e
        rw [show mvd x (m + 1) m = m + 1 from by unfold mvd; rw [if_pos (by omega)]]
        exact ⟨c3, c5⟩
      · rw [show mvd x (j + 1) m = mvd x j m from by unfold mvd; by_cases q : x ≤ m ∧ m < j; rw [if_pos q, if_pos (by omega)]; rw [if_neg q, if_neg (by omega)]]
        have := d3 m hm2
        have hb2 : A 40 (mvd x j m) ≤ 24 := (hm _ (by unfold mvd; split <;> omega)).2.1
        refine ⟨by rw [c4 m e]; exact this.1, fun i hi => ?_⟩
        rw [c6 _ (by omega)]
        exact this.2 i hi
  · rintro F ⟨y, P⟩ ⟨rfl, hxj, d1, d2, d3⟩
    dsimp only at hxj d1 d2 d3 ⊢
    have g25 : P.1 25 2 = n3 (A 30 16 - 1) := by rw [d2 _ _ (by decide) (by decide), rd_eq]
    rw [Bo_remove_L12, g25, if_pos (by rw [n3_le (by omega) (by omega)]; omega)]
    exact ⟨_, rfl, d1, d2, d3⟩
  · rw [show mvd x x m = m from by unfold mvd; rw [if_neg (by omega)]]
    exact ⟨by rw [rd_ne (by decide)]; exact (x2 m hm2).1, fun i hi => by rw [rd_ne (by decide)]; exact (x2 m hm2).2 i hi⟩
