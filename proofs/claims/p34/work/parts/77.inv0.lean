/-! The state at the law's start: nothing in it; and behind its first lines. -/
def A0 : aS := fun c k => if c = 30 ∧ k = 11 then 4 else if c = 30 ∧ k = 13 then 80 else 0
def hZM : hyM := (fun _ _ => 0, fun _ _ => 0)
def C0M : hyM := wI (wI hZM 0 9 80) 4 0 4
def T0 : hyT := (C0M, hZM, hZM)
theorem A0_n {c k : Nat} (h : c ≠ 30) : A0 c k = 0 := by
  unfold A0
  rw [if_neg (fun z => h z.1), if_neg (fun z => h z.1)]
theorem A0_WF : WFA A0 := by
  refine ⟨⟨Nat.zero_le _, (by decide : 0 < 12), fun i hi => absurd hi (Nat.not_lt_zero _), fun i hi => absurd hi (Nat.not_lt_zero _), fun i => ⟨Nat.zero_le _, Nat.zero_le _⟩⟩, ⟨WR_0 _ _, fun i => ⟨(by decide : 0 < 1000), (by decide : 0 < 1000), (by decide : 0 < 1000)⟩⟩, ⟨(by decide : 2 ≤ 4), (by decide : 4 ≤ 24), (by decide : 0 < 4), (by decide : 20 ≤ 80), (by decide : 80 ≤ 200)⟩, fun r => ⟨Nat.zero_le _, Or.inl rfl, fun i => (by decide : 0 < 128)⟩, ⟨Nat.zero_le _, fun m hm => absurd hm (Nat.not_lt_zero _)⟩, Nat.zero_le _, fun i => (by decide : 0 < 128)⟩
theorem CA_0 : CA A0 C0M := by
  refine ⟨⟨⟨rfl, rfl, rfl, fun i => rfl, fun i => rfl⟩, ⟨fun i hi => ?_, fun i hi => ?_⟩, ⟨rfl, rfl⟩, ⟨rfl, fun i => rfl, fun i => rfl, fun i => rfl⟩, fun r hr => ⟨rfl, fun j hj => absurd hj (Nat.not_lt_zero _)⟩, ⟨rfl, fun m hm => absurd hm (Nat.not_lt_zero _)⟩, ⟨rfl, fun i => rfl⟩⟩, ?_⟩
  · show hbt 0 i = (decide (i < 0) && sA A0 i)
    rw [decide_eq_false (Nat.not_lt_zero i)]
    exact hbt_0 ⟨i, hi⟩
  · show hbt 0 i = (decide (i < 0) && eA A0 i)
    rw [decide_eq_false (Nat.not_lt_zero i)]
    exact hbt_0 ⟨i, hi⟩
  · refine ⟨⟨rfl, fun i hi => absurd hi (Nat.not_lt_zero _), fun i hi => absurd hi (Nat.not_lt_zero _), fun p hp => absurd hp (Nat.not_lt_zero _)⟩, ⟨rfl, fun i x hx => ?_, fun p hp => absurd hp (Nat.not_lt_zero _)⟩, ⟨fun i hi => absurd hi (Nat.not_lt_zero _), fun p hp => absurd hp (Nat.not_lt_zero _), rfl, rfl⟩⟩
    cases hx
theorem s_count2 : Hp_count 2 C0M = some (.inr 0) := rtb_some (show (Hp_count (n3 2) C0M).bind rt = some 0 from g_count A0_WF CA_0 (w := 2) (by decide))
theorem s_ft : ftV A0 4 = 15 := by decide +kernel
theorem s_count12 : Hp_count 12 C0M = some (.inr 15) := rtb_some ((show (Hp_count (n3 12) C0M).bind rt = some (ftV A0 4) from g_count A0_WF CA_0 (w := 12) (by decide)).trans (by rw [s_ft]))
theorem s_mean : Hp_meanWidth C0M = some FP.dconst0 := mean_class A0_WF (by decide) CA_0
theorem s_near : Hp_nearest C0M = some (-1) := near_class A0_WF CA_0
/-- the law's first lines -/
def M0d (t : Nat) : hyM := wI (wI (wI hZM 30 0 (n3 t)) 30 2 4) 30 4 80
theorem AO_0 {t : Nat} (ht : t ≤ 11) : ∃ C', Hp_begin (n3 t) C0M = some (.inr 0, C') ∧ AO C' (M0d t) := by
  obtain ⟨C', e, w, q⟩ := p_begin A0_WF CA_0 ht
  refine ⟨C', ?_, bgA A0 t 4, w, q, LR_mk ⟨?_, ?_, fun j hj => absurd hj (Nat.not_lt_zero _)⟩ (fun j p hj hp => absurd hj (Nat.not_lt_zero _)) ⟨fun v k hv hk => ?_, fun v k hv hk _ => ?_⟩ ⟨rfl, rfl, rfl, rfl⟩ ⟨rfl, Nat.zero_le _, fun k hk => absurd hk (Nat.not_lt_zero _)⟩⟩
  · exact rtMb_some e
  · exact Nat.zero_le _
  · rfl
  · have : rwL (bgA A0 t 4) (v * 24 + k) = 0 := by
      show bgA A0 t 4 38 (v * 24 + k) = 0
      rw [bgA_rd]
      split
      · rfl
      · exact A0_n (c := 38) (k := v * 24 + k) (by decide)
    rw [this]
    exact LIw_0 _
  · show bgA A0 t 4 38 (v * 24 + k) = 0
    rw [bgA_rd]
    split
    · rfl
    · exact A0_n (c := 38) (k := v * 24 + k) (by decide)
