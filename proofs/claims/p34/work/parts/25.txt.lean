/-! Texts of lines: the syntax of a line, its syllables. -/
def ltr (c : Nat) : Bool := (Nat.ble 97 c && Nat.ble c 122) || (Nat.ble 65 c && Nat.ble c 90) || Nat.beq c 39
theorem ltr_In : ∀ c : Fin 128, In_isOfSyllable (n3 c.val) hM0 = ltr c.val := by decide +kernel
theorem isOf_eq {c : Nat} (h : c < 128) (M : hyM) : In_isOfSyllable (n3 c) M = ltr c := ltr_In ⟨c, h⟩
theorem ltr_sep : ∀ c : Fin 128, (c.val = 32 ∨ c.val = 45) → ltr c.val = false := by decide +kernel
theorem ltr_hi : ∀ c : Fin 128, ltr c.val = true → c.val ≤ 122 := by decide +kernel
def sep (t : Nat → Nat) (i : Nat) : Bool := !ltr (t i)
def cse (t : Nat → Nat) (k : Nat) : Nat := cnt (sep t) k
def bc (t : Nat → Nat) : Nat → Nat
  | 0 => 0
  | k + 1 => if sep t k = true then k + 1 else bc t k
theorem bc_le (t : Nat → Nat) (k : Nat) : bc t k ≤ k := by
  induction k with
  | zero => exact Nat.le_refl 0
  | succ k ih => rw [bc]; split <;> omega
/-- a step of the syntax: how long the syllable is -/
def stp (c s : Nat) : Option Nat := if ltr c = true then (if s < 12 then some (s + 1) else none) else (if (c = 32 ∨ c = 45) ∧ 0 < s then some 0 else none)
def lgo (t : Nat → Nat) : Nat → Nat → Nat → Nat × Nat
  | 0, k, s => (k, s)
  | d + 1, k, s => match stp (t k) s with
    | some s' => lgo t d (k + 1) s'
    | none => (k, s)
def oks (t : Nat → Nat) (k : Nat) : Prop := (ltr (t k) = true ∧ k - bc t k < 12) ∨ (ltr (t k) = false ∧ (t k = 32 ∨ t k = 45) ∧ bc t k < k)
theorem lgo_le (t : Nat → Nat) (d : Nat) : ∀ k s, k ≤ (lgo t d k s).1 ∧ (lgo t d k s).1 ≤ k + d := by
  induction d with
  | zero => intro k s; exact ⟨Nat.le_refl _, Nat.le_refl _⟩
  | succ d ih =>
    intro k s
    rw [lgo]
    split
    · have := ih (k + 1) (by assumption); omega
    · exact ⟨Nat.le_refl _, by dsimp only; omega⟩
theorem lgo_ok (t : Nat → Nat) (d : Nat) : ∀ k s, s = k - bc t k → (lgo t d k s).1 = k + d → (∀ j, k ≤ j → j < k + d → oks t j) ∧ (lgo t d k s).2 = k + d - bc t (k + d) := by
  induction d with
  | zero => intro k s hs _; exact ⟨fun j h1 h2 => by omega, hs⟩
  | succ d ih =>
    intro k s hs h
    have hb := bc_le t k
    rw [lgo] at h ⊢
    revert h
    cases hc : stp (t k) s with
    | none => intro h; dsimp only at h; omega
    | some s' =>
      intro h
      dsimp only at h ⊢
      have hn : s' = k + 1 - bc t (k + 1) ∧ oks t k := by
        unfold stp at hc
        rw [bc]
        unfold sep oks
        cases hl : ltr (t k) with
        | true =>
          rw [hl, if_pos rfl] at hc
          by_cases c : s < 12
          · rw [if_pos c] at hc
            cases hc
            rw [if_neg (by decide)]
            exact ⟨by omega, Or.inl ⟨rfl, by omega⟩⟩
          · rw [if_neg c] at hc; cases hc
        | false =>
          rw [hl, if_neg (by decide)] at hc
          by_cases c : (t k = 32 ∨ t k = 45) ∧ 0 < s
          · rw [if_pos c] at hc
            cases hc
            rw [if_pos (by decide)]
            exact ⟨by omega, Or.inr ⟨rfl, c.1, by omega⟩⟩
          · rw [if_neg c] at hc; cases hc
      obtain ⟨a, b⟩ := ih (k + 1) s' hn.1 (by omega)
      refine ⟨fun j h1 h2 => ?_, by rw [show k + (d + 1) = k + 1 + d by omega]; exact b⟩
      by_cases e : j = k
      · subst e; exact hn.2
      · exact a j (by omega) (by omega)
/-- a complete line -/
def cpl (t : Nat → Nat) (L : Nat) : Bool := decide ((lgo t L 0 0).1 = L) && decide (0 < (lgo t L 0 0).2)
def VT (t : Nat → Nat) (L : Nat) : Prop := (∀ j, j < L → oks t j) ∧ bc t L < L
theorem cpl_VT {t : Nat → Nat} {L : Nat} (h : cpl t L = true) : VT t L := by
  unfold cpl at h
  simp only [Bool.and_eq_true, decide_eq_true_eq] at h
  obtain ⟨a, b⟩ := lgo_ok t L 0 0 rfl (by rw [h.1]; omega)
  rw [Nat.zero_add] at a b
  exact ⟨fun j hj => a j (Nat.zero_le _) hj, by rw [b] at h; omega⟩
/-! the class's reading of a line -/
def inb_ (t : Nat → Nat) (L : Nat) (M : hyM) : Prop := L ≤ 60 ∧ M.1 28 1 = n3 L ∧ (∀ i, M.1 29 i = n3 (t i)) ∧ ∀ i, t i < 128
theorem In_codeAt_eq {t : Nat → Nat} {L i : Nat} {M : hyM} (h : inb_ t L M) (hi : i < 60) : In_codeAt (n3 i) M = n3 (t i) := by
  unfold In_codeAt
  rw [atf_in _ hi (by decide), h.2.2.1]
theorem In_errorAsLine_ok {t : Nat → Nat} {L : Nat} {M : hyM} (h : inb_ t L M) : In_errorAsLine M = some (n3 (lgo t L 0 0).1) := by
  obtain ⟨h1, h2, h3, h4⟩ := h
  have key : ∀ d f k s, k + d = L → d < f → s ≤ 12 → ∃ r, In_errorAsLine_L4 M f (n3 s) (n3 k) = some r ∧ ((r = .inl (n3 (lgo t d k s).1)) ∨ ((lgo t d k s).1 = L ∧ ∃ y, r = .inr y)) := by
    intro d
    induction d with
    | zero =>
      intro f k s hk hf hs
      obtain ⟨f, rfl⟩ : ∃ g, f = g + 1 := ⟨f - 1, by omega⟩
      rw [In_errorAsLine_L4, h2, if_pos (by rw [n3_le (by omega) (by omega)]; omega)]
      exact ⟨_, rfl, Or.inr ⟨by rw [lgo]; omega, _, rfl⟩⟩
    | succ d ih =>
      intro f k s hk hf hs
      obtain ⟨f, rfl⟩ : ∃ g, f = g + 1 := ⟨f - 1, by omega⟩
      have ht := h4 k
      rw [In_errorAsLine_L4, h2, if_neg (by rw [n3_le (by omega) (by omega)]; omega), In_codeAt_eq ⟨h1, h2, h3, h4⟩ (show k < 60 by omega), isOf_eq ht, l_12, l_45, l_32, dec_le (by omega) (by omega), ite_eq (by omega) (by omega), ite_eq (by omega) (by omega), l_0, dec_le (by omega) (by omega), l_1, n3_add, n3_add, lgo]
      unfold stp
      cases hl : ltr (t k) with
      | true =>
        by_cases c : s < 12
        · rw [if_pos rfl, if_pos rfl, if_pos (show (!decide (12 ≤ s)) = true by simp; omega), if_pos c]
          exact ih f (k + 1) (s + 1) (by omega) (by omega) (by omega)
        · have hns : ¬ (t k = 45) ∧ ¬ (t k = 32) := by
            have := ltr_sep ⟨t k, ht⟩
            dsimp only at this
            rw [hl] at this
            constructor
            · intro q; have := this (Or.inr q); cases this
            · intro q; have := this (Or.inl q); cases this
          rw [if_pos rfl, if_pos rfl, if_neg (show ¬ (!decide (12 ≤ s)) = true by simp; omega), if_neg c, if_neg hns.1, if_neg hns.2, if_neg (by decide)]
          exact ⟨_, rfl, Or.inl rfl⟩
      | false =>
        simp only [Bool.false_eq_true, if_false]
        by_cases c : (t k = 32 ∨ t k = 45) ∧ 0 < s
        · have hc : (if t k = 45 then !decide (s ≤ 0) else if t k = 32 then !decide (s ≤ 0) else false) = true := by
            have : decide (s ≤ 0) = false := by simp; omega
            rw [this]
            rcases c.1 with q | q
            · rw [if_neg (by omega), if_pos q]; rfl
            · rw [if_pos q]; rfl
          rw [if_pos c, if_pos hc]
          exact ih f (k + 1) 0 (by omega) (by omega) (by omega)
        · have hc : ¬ (if t k = 45 then !decide (s ≤ 0) else if t k = 32 then !decide (s ≤ 0) else false) = true := by
            intro q
            apply c
            by_cases q1 : t k = 45
            · rw [if_pos q1] at q; exact ⟨Or.inr q1, by simp at q; omega⟩
            · rw [if_neg q1] at q
              by_cases q2 : t k = 32
              · rw [if_pos q2] at q; exact ⟨Or.inl q2, by simp at q; omega⟩
              · rw [if_neg q2] at q; cases q
          rw [if_neg c, if_neg hc]
          exact ⟨_, rfl, Or.inl rfl⟩
  obtain ⟨r, e1, e2⟩ := key L hyFu 0 0 (by omega) (by unfold hyFu; omega) (by omega)
  rw [In_errorAsLine, show (0 : Int32) = n3 0 from rfl, e1, Option.bind_some]
  rcases e2 with rfl | ⟨a, y, rfl⟩
  · rfl
  · dsimp only; rw [h2, a]
theorem In_isLine_ok {t : Nat → Nat} {L : Nat} {M : hyM} (h : inb_ t L M) : In_isLine M = some (cpl t L) := by
  have he := In_errorAsLine_ok h
  obtain ⟨h1, h2, h3, h4⟩ := id h
  have hle := lgo_le t L 0 0
  rw [In_isLine, h2, l_0, ite_le (by omega) (by omega)]
  by_cases c : L ≤ 0
  · have : L = 0 := by omega
    subst this
    rw [if_pos c]
    rfl
  · rw [if_neg c, he, Option.bind_some, ite_eq (by omega) (by omega), l_1, n3_sub (by omega), In_codeAt_eq h (by omega), isOf_eq (h4 _)]
    congr 1
    unfold cpl
    by_cases q : (lgo t L 0 0).1 = L
    · rw [if_pos q]
      obtain ⟨a, b⟩ := lgo_ok t L 0 0 rfl (by omega)
      rw [Nat.zero_add] at a b
      have hk := a (L - 1) (Nat.zero_le _) (by omega)
      have e : bc t L = if sep t (L - 1) = true then L else bc t (L - 1) := by
        obtain ⟨K, rfl⟩ : ∃ K, L = K + 1 := ⟨L - 1, by omega⟩
        rfl
      have hb := bc_le t (L - 1)
      rw [b, e]
      unfold sep
      cases hl : ltr (t (L - 1)) with
      | true =>
        rw [if_neg (by decide)]
        simp [q]; omega
      | false =>
        rw [if_pos (by decide)]
        simp
    · rw [if_neg q]; simp [q]
