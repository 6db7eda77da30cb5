/-! The state at the law's start: nothing in it. -/
def A0 : aS := fun c k => if c = 30 ∧ k = 11 then 4 else if c = 30 ∧ k = 13 then 80 else 0
def C0M : hyM := wI (wI (fun _ _ => 0, fun _ _ => 0) 0 9 80) 4 0 4
def R0M : hyM := wI (wI (fun _ _ => 0, fun _ _ => 0) 30 11 4) 30 13 80
def T0 : hyT := (C0M, R0M, (fun _ _ => 0, fun _ _ => 0))
theorem A0_n {c k : Nat} (h : c ≠ 30) : A0 c k = 0 := by
  unfold A0
  rw [if_neg (fun z => h z.1), if_neg (fun z => h z.1)]
theorem A0_WF : WFA A0 := by
  refine ⟨⟨Nat.zero_le _, (by decide : 0 < 12), fun i hi => absurd hi (Nat.not_lt_zero _), fun i hi => absurd hi (Nat.not_lt_zero _), fun i => ⟨Nat.zero_le _, Nat.zero_le _⟩⟩, ⟨WR_0 _ _, fun i => ⟨(by decide : 0 < 1000), (by decide : 0 < 1000), (by decide : 0 < 1000)⟩⟩, ⟨(by decide : 2 ≤ 4), (by decide : 4 ≤ 24), (by decide : 0 < 4), (by decide : 20 ≤ 80), (by decide : 80 ≤ 200)⟩, fun r => ⟨Nat.zero_le _, Or.inl rfl, fun i => (by decide : 0 < 128)⟩, ⟨Nat.zero_le _, fun m hm => absurd hm (Nat.not_lt_zero _)⟩, Nat.zero_le _, fun i => (by decide : 0 < 128)⟩
theorem INV_0 : INV T0 := by
  refine ⟨A0, A0_WF, ⟨⟨⟨rfl, rfl, rfl, fun i => rfl, fun i => rfl⟩, ⟨fun i hi => ?_, fun i hi => ?_⟩, ⟨rfl, rfl⟩, ⟨rfl, fun i => rfl, fun i => rfl, fun i => rfl⟩, fun r hr => ⟨rfl, fun j hj => absurd hj (Nat.not_lt_zero _)⟩, ⟨rfl, fun m hm => absurd hm (Nat.not_lt_zero _)⟩, ⟨rfl, fun i => rfl⟩⟩, ?_⟩, ?_⟩
  · show hbt 0 i = (decide (i < 0) && sA A0 i)
    rw [decide_eq_false (Nat.not_lt_zero i)]
    exact hbt_0 ⟨i, hi⟩
  · show hbt 0 i = (decide (i < 0) && eA A0 i)
    rw [decide_eq_false (Nat.not_lt_zero i)]
    exact hbt_0 ⟨i, hi⟩
  · refine ⟨⟨rfl, fun i hi => absurd hi (Nat.not_lt_zero _), fun i hi => absurd hi (Nat.not_lt_zero _), fun p hp => absurd hp (Nat.not_lt_zero _)⟩, ⟨rfl, fun i x hx => ?_, fun p hp => absurd hp (Nat.not_lt_zero _)⟩, ⟨fun i hi => absurd hi (Nat.not_lt_zero _), fun p hp => absurd hp (Nat.not_lt_zero _), rfl, rfl⟩⟩
    cases hx
  · intro c k hc
    show R0M.1 c k = n3 (A0 c k)
    unfold R0M
    rw [rd_wI, rd_wI]
    unfold A0
    by_cases q : c = 30 ∧ k = 13
    · rw [if_pos q, if_neg (by omega), if_pos q]; rfl
    · rw [if_neg q]
      by_cases q2 : c = 30 ∧ k = 11
      · rw [if_pos q2, if_pos q2]; rfl
      · rw [if_neg q2, if_neg q2, if_neg q]; rfl
