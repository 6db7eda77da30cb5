/-! The law's look is always true, and leaves a state that it tells of. -/
theorem La_told_AO {A : aS} {C M : hyM} (hW : WFA A) (hC : CA A C) (hR : LR A M) (x : Int32) : ∃ C' M', La_told x C M = some (true, C', M') ∧ AO C' M' :=
  La_told_ok hW hC hR x AO (fun _ hR1 hs1 => La_metres_ok hW hC hR1 hs1 _)
theorem act_AO {C M : hyM} (h : AO C M) (a1 a2 a3 : Int32) : ∃ C' M', La_act a1 a2 a3 C M = some (true, C', M') ∧ AO C' M' := by
  obtain ⟨A, hW, hC, hR⟩ := h
  exact La_act_ok hW hC hR a1 a2 a3
theorem told_AO {C M : hyM} (h : AO C M) (x : Int32) : ∃ C' M', La_told x C M = some (true, C', M') ∧ AO C' M' := by
  obtain ⟨A, hW, hC, hR⟩ := h
  exact La_told_AO hW hC hR x
