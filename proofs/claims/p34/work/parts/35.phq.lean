/-! Phrases, sung phrases, verses: both sides alike. -/
theorem cnt_take (L : List Nat) (p : Nat) : ∀ k, k ≤ L.length → cnt (fun j => decide (L[j]? = some p)) k = (L.take k).count p := by
  intro k
  induction k with
  | zero => intro _; rfl
  | succ k ih =>
    intro hk
    have hlt : k < L.length := by omega
    rw [cnt, ih (by omega), List.take_succ_eq_append_getElem hlt, List.count_append, List.count_singleton, List.getElem?_eq_getElem hlt]
    congr 1
    by_cases c : L[k] = p
    · simp [c]
    · simp [c]
theorem mA_lt {A : aS} (hW : WFA A) : mA A ≤ 40 := by have := mA_le A; have := hW.1.1; omega
/-! sung phrases -/
theorem CA_at {A : aS} {M : hyM} (hW : WFA A) (hC : CA A M) {k p : Nat} (hk : (LA A)[k]? = some p) : Or_phraseAt (n3 k) M = n3 p := by
  have hkl := (List.getElem?_eq_some_iff.mp hk).1
  have := LA_len hW
  unfold Or_phraseAt
  rw [atf_in _ (by omega) (by decide), hC.2.2.1.2.1 k p hk]
/-- syllables that line k must have -/
def due (A : aS) (k : Nat) : Nat := match (LA A)[k]? with
  | some p => sly (eA A) (sA A) (A 30 2) p
  | none => 0
theorem due_le {A : aS} (hW : WFA A) (k : Nat) : due A k ≤ 40 := by
  unfold due
  cases h : (LA A)[k]? with
  | none => exact Nat.zero_le _
  | some p =>
    have := sly_le (eA A) (sA A) (show p < phc (eA A) (A 30 2) from LA_mem hW (List.mem_of_getElem? h))
    have := hW.1.1
    dsimp only; omega
theorem due_pos {A : aS} (hW : WFA A) {k : Nat} (hk : k < (LA A).length) : 0 < due A k := by
  unfold due
  rw [List.getElem?_eq_getElem hk]
  exact sly_pos _ _ (show (LA A)[k] < phc (eA A) (A 30 2) from LA_mem hW (List.getElem_mem hk))
theorem due_none {A : aS} {k : Nat} (hk : (LA A).length ≤ k) : due A k = 0 := by
  unfold due
  rw [List.getElem?_eq_none hk]
theorem CA_due {A : aS} {M : hyM} (hW : WFA A) (hC : CA A M) {k : Nat} (hk : k < (LA A).length) : Hp_syllablesSung (n3 k) M = n3 (due A k) := by
  have hkp := List.getElem?_eq_getElem hk
  have hx : (LA A)[k] < mA A := LA_mem hW (List.getElem_mem hk)
  have := mA_lt hW
  unfold Hp_syllablesSung due
  rw [CA_at hW hC hkp, hkp]
  unfold Ph_syllablesOf
  rw [atf_in _ (by omega) (by decide), (hC.2.1.2.2.2 _ hx).2.2]
/-! fit -/
def fsr (mis : Nat → Bool) : Nat → Nat → Option Nat
  | 0, _ => none
  | d + 1, k => if mis k = true then some k else fsr mis d (k + 1)
def misf (A : aS) (v k : Nat) : Bool := !decide (nsS ((XA A).1 (v * 24 + k)) ((XA A).2 (v * 24 + k)) = due A k)
def fitV (A : aS) (v : Nat) : Int32 := match fsr (misf A v) 24 0 with
  | some k => n3 k
  | none => if (LA A).length ≤ 24 then -1 else n3 24
theorem fit_class {A : aS} {M : hyM} (hW : WFA A) (hC : CA A M) {v : Nat} (hv : v < 4) : Hp_firstMisfit (n3 v) M = some (fitV A v) := by
  have hL := LA_len hW
  have hO : M.1 18 2 = n3 (LA A).length := hC.2.2.1.1
  have hV : VA (XA A) M := hC.1.2.2.2.2.1
  have key : ∀ d f k, k + d = 24 → d < f → ∃ r, Hp_firstMisfit_L2 (n3 v) M f (n3 k) = some r ∧ ((∃ j, fsr (misf A v) d k = some j ∧ r = .inl (n3 j)) ∨ (fsr (misf A v) d k = none ∧ ∃ y, r = .inr y)) := by
    intro d
    induction d with
    | zero =>
      intro f k hk hf
      obtain ⟨f, rfl⟩ : ∃ g, f = g + 1 := ⟨f - 1, by omega⟩
      rw [Hp_firstMisfit_L2, l_24, if_pos (by rw [n3_le (by omega) (by omega)]; omega)]
      exact ⟨_, rfl, Or.inr ⟨rfl, _, rfl⟩⟩
    | succ d ih =>
      intro f k hk hf
      obtain ⟨f, rfl⟩ : ∃ g, f = g + 1 := ⟨f - 1, by omega⟩
      have hns := ns_le (hW.2.2.2.1 (v * 24 + k))
      have hdl := due_le hW k
      have e : (if M.1 18 2 ≤ n3 k then 0 else Hp_syllablesSung (n3 k) M) = n3 (due A k) := by
        rw [hO, ite_le (by omega) (by omega)]
        by_cases c : (LA A).length ≤ k
        · rw [if_pos c, due_none c]; rfl
        · rw [if_neg c, CA_due hW hC (by omega)]
      rw [Hp_firstMisfit_L2, l_24, if_neg (by rw [n3_le (by omega) (by omega)]; omega), e, Ve_syl_ok (hV _ (by omega)) hv (by omega), ite_eq (by omega) (by omega), n3_s, fsr]
      unfold misf
      by_cases c : nsS ((XA A).1 (v * 24 + k)) ((XA A).2 (v * 24 + k)) = due A k
      · rw [if_pos c, if_neg (by simp [c])]
        exact ih f (k + 1) (by omega) (by omega)
      · rw [if_neg c, if_pos (by simp [c])]
        exact ⟨_, rfl, Or.inl ⟨k, rfl, rfl⟩⟩
  obtain ⟨r, e1, e2⟩ := key 24 hyFu 0 rfl (by unfold hyFu; omega)
  rw [Hp_firstMisfit, show (0 : Int32) = n3 0 from rfl, e1, Option.bind_some]
  unfold fitV
  rcases e2 with ⟨j, h1, rfl⟩ | ⟨h1, y, rfl⟩
  · rw [h1]
  · rw [h1]
    dsimp only
    rw [hO, l_24, ite_le (by omega) (by omega)]
