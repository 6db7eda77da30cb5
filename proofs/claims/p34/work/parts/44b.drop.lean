/-! Notes dropped and marked: repeats beyond the phrases go. -/
theorem kst_bd3 {m : Nat} {q : rpT} (h : ∀ i, q.2.1 i < 1000 ∧ q.2.2.1 i < 1000 ∧ q.2.2.2 i < 1000) : ∀ k i, (kst m q k).2.1 i < 1000 ∧ (kst m q k).2.2.1 i < 1000 ∧ (kst m q k).2.2.2 i < 1000 := by
  intro k
  induction k with
  | zero => exact h
  | succ k ih =>
    intro i
    by_cases c : (kst m q k).2.2.1 k < m
    · rw [kst_t c]
      dsimp only
      by_cases d : i = (kst m q k).1
      · rw [d, updN_eq, updN_eq, updN_eq]; exact ih _
      · rw [updN_ne d, updN_ne d, updN_ne d]; exact ih _
    · rw [kst_f c]; exact ih _
def kpA (B : aS) : aS := fun c k => if c = 35 then (kept (mA B) (rpA B)).2.1 k else if c = 36 then (kept (mA B) (rpA B)).2.2.1 k else if c = 37 then (kept (mA B) (rpA B)).2.2.2 k else if c = 30 ∧ k = 7 then (kept (mA B) (rpA B)).1 else B c k
theorem kpA_rp (B : aS) : rpA (kpA B) = kept (mA B) (rpA B) := rfl
theorem kpA_m (B : aS) : mA (kpA B) = mA B := rfl
theorem kpA_WF {B : aS} {m0 : Nat} (hn : WFn B) (hr : WR m0 (rpA B)) (hb : ∀ i, B 35 i < 1000 ∧ B 36 i < 1000 ∧ B 37 i < 1000) (h3 : WFb B) (h4 : PV (XA B)) (h5 : WFm B) (h6 : WFi B) : WFA (kpA B) := by
  refine ⟨hn, ⟨?_, fun i => kst_bd3 (m := mA B) (q := rpA B) hb _ i⟩, h3, h4, h5, h6⟩
  show WR (mA B) (kept (mA B) (rpA B))
  exact kept_ok hr
theorem kpA_CB {B : aS} {q : rpT} {M : hyM} (h : CBq B q M) : CBq (kpA B) q M := by
  obtain ⟨aa, bb, cc, qq, v, mm, ii⟩ := h
  exact ⟨aa, bb, cc, qq, v, mm, ii⟩
theorem uA_self (B : aS) (c k : Nat) : uA B c k (B c k) = B := by
  funext c' k'
  unfold uA
  by_cases q : c' = c ∧ k' = k
  · rw [if_pos q, q.1, q.2]
  · rw [if_neg q]
theorem bI_tn (b : Bool) : bI b = n3 b.toNat := by cases b <;> rfl
theorem nar_b {v : Nat} (h : v ≤ 1) : vp_nar .boolean (n3 v) = n3 v := by
  have : v = 0 ∨ v = 1 := by omega
  rcases this with rfl | rfl <;> decide
theorem tn_beq (b : Bool) : Nat.beq b.toNat 1 = b := by cases b <;> rfl
