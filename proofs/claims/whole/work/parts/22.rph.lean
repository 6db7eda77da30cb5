/-! The reference's phrases, its slurs, its counting of syllables. -/
/-- the reference's scratch -/
def rscr (c k : Nat) : Bool := (Nat.beq c 30 && (Nat.beq k 21 || Nat.beq k 25 || Nat.beq k 30 || Nat.beq k 31 || Nat.beq k 32 || Nat.beq k 33)) || (Nat.ble 43 c && Nat.ble c 50)
def RC (e : Nat → Bool) (k : Nat) (M : hyM) : Prop :=
  M.1 30 21 = n3 (phc e k) ∧ (∀ i, i < k → M.1 45 i = n3 (phc e (i + 1) - 1)) ∧
  (∀ i, i < k → stt e i = true → M.1 43 (phc e i) = n3 i) ∧
  (∀ i, i < k → (i + 1 = k ∨ stt e (i + 1) = true) → M.1 44 (phc e (i + 1) - 1) = n3 i)
def RF (e : Nat → Bool) (n : Nat) (M : hyM) : Prop :=
  M.1 30 21 = n3 (phc e n) ∧ (∀ i, i < n → M.1 45 i = n3 (phc e (i + 1) - 1)) ∧ ∀ p, p < phc e n → M.1 43 p = n3 (pfi e n p) ∧ M.1 44 p = n3 (pla e n p)
theorem RC_RF {e : Nat → Bool} {n : Nat} {M : hyM} (h : RC e n M) : RF e n M := by
  obtain ⟨h1, h2, h4, h5⟩ := h
  refine ⟨h1, h2, fun p hp => ?_⟩
  obtain ⟨a, b, c⟩ := pfi_spec hp
  obtain ⟨a2, b2, c2, -⟩ := pla_spec hp
  have g1 := h4 _ a b
  rw [c] at g1
  have g2 := h5 _ a2 c2
  rw [b2, Nat.add_sub_cancel] at g2
  exact ⟨g1, g2⟩
/-- one note taken: M has the phrase opened already -/
theorem RC_take {e : Nat → Bool} {k : Nat} {M : hyM} (h1 : M.1 30 21 = n3 (phc e (k + 1))) (h2 : ∀ i, i < k → M.1 45 i = n3 (phc e (i + 1) - 1))
    (h4 : ∀ i, i < k + 1 → stt e i = true → M.1 43 (phc e i) = n3 i) (h5 : ∀ i, i < k → stt e (i + 1) = true → M.1 44 (phc e (i + 1) - 1) = n3 i) :
    RC e (k + 1) (wI (wI M 45 k (n3 (phc e (k + 1) - 1))) 44 (phc e (k + 1) - 1) (n3 k)) := by
  refine ⟨?_, fun i hi => ?_, fun i hi hs => ?_, fun i hi hs => ?_⟩
  · rw [rd_ne (by decide), rd_ne (by decide)]; exact h1
  · rw [rd_ne (by decide)]
    by_cases c : i = k
    · subst c; rw [rd_eq]
    · rw [rd_nk c]; exact h2 i (by omega)
  · rw [rd_ne (by decide), rd_ne (by decide)]; exact h4 i hi hs
  · by_cases c : i = k
    · subst c; rw [rd_eq]
    · have hs2 : stt e (i + 1) = true := by
        rcases hs with hs | hs
        · omega
        · exact hs
      have hne : phc e (i + 1) - 1 ≠ phc e (k + 1) - 1 := by
        have a := cnt_lt (stt e) (show i + 1 < k + 1 by omega) hs2
        have b := phc_pos (e := e) (show 0 < i + 1 by omega)
        unfold phc at b ⊢
        omega
      rw [rd_nk hne, rd_ne (by decide)]
      exact h5 i (by omega) hs2
theorem ite_bI {α : Type} (b : Bool) (x y : α) : (if bI b = 0 then x else y) = if b = true then y else x := by cases b <;> rfl
theorem Rf_layPhrases_ok {e : Nat → Bool} {n : Nat} {M : hyM} (hn : n ≤ 40) (h2 : M.1 30 2 = n3 n) (he : ∀ i, i < n → M.1 34 i = bI (e i)) :
    ∃ M', Rf_layPhrases M = some M' ∧ frm rscr M M' ∧ RF e n M' := by
  have key := lpI (σ := Int32 × Int32 × hyM) (fun f s => Rf_layPhrases_L9 f s.1 s.2.1 s.2.2) (fun k s => s.1 = bI (stt e k) ∧ s.2.1 = n3 k ∧ frm rscr M s.2.2 ∧ RC e k s.2.2) n (fun r => frm rscr M r.2.2 ∧ RC e n r.2.2) ?_ ?_ hyFu 0 (1, n3 0, wI M 30 21 0) (Nat.zero_le _) (hyFu_big (by omega)) ⟨rfl, rfl, (frm.rf _ _).w rfl, ?_⟩
  · obtain ⟨⟨b, y, N⟩, e1, e2, e3⟩ := key
    refine ⟨N, ?_, e2, RC_RF e3⟩
    dsimp only at e1
    rw [Rf_layPhrases]
    simp only [Option.bind_some]
    rw [show (0 : Int32) = n3 0 from rfl] at e1 ⊢
    rw [e1]
    rfl
  · rintro f k ⟨x2, x3, M4⟩ hk ⟨rfl, rfl, hF, hP⟩
    refine Or.inl ?_
    dsimp only at hF hP ⊢
    have g2 : M4.1 30 2 = n3 n := by rw [hF.2 _ _ rfl]; exact h2
    have hk40 : k < 40 := by omega
    have hpk : phc e k ≤ k := phc_le e k
    have hpp := phc_pos (e := e) (show 0 < k + 1 by omega)
    have hpk1 : phc e (k + 1) ≤ k + 1 := phc_le e (k + 1)
    have hlt : ¬ n3 n ≤ n3 k := by rw [n3_le (by omega) (by omega)]; omega
    have e1 : n3 (phc e (k + 1)) - 1 = n3 (phc e (k + 1) - 1) := by rw [l_1, n3_sub (by omega)]
    obtain ⟨q1, q2, q4, q5⟩ := hP
    rw [Rf_layPhrases_L9, g2, if_neg hlt]
    cases hst : stt e k with
    | true =>
      rw [if_neg (by decide), q1, stE_in _ _ _ (show phc e k < 40 by omega) (by decide), Option.bind_some]
      simp only [Option.bind_some]
      have a1 : (wI M4 43 (phc e k) (n3 k)).1 30 21 = n3 (phc e k) := by rw [rd_ne (by decide), q1]
      have a2 : n3 (phc e k) + 1 = n3 (phc e (k + 1)) := by rw [phc_t hst, l_1, n3_add]
      rw [a1, a2]
      rw [rd_eq, e1, stE_in _ _ _ hk40 (by decide), Option.bind_some]
      rw [rd_ne (show 30 ≠ 45 by decide), rd_eq, e1, stE_in _ _ _ (show phc e (k + 1) - 1 < 40 by omega) (by decide), Option.bind_some]
      rw [ldE_in _ hk40 (by decide), Option.bind_some]
      refine ⟨(_, _, _), rfl, ?_, ?_, ?_, ?_⟩
      · show M4.1 34 k = bI (stt e (k + 1))
        rw [hF.2 _ _ rfl, he k hk, stt_s]
      · show n3 k + 1 = n3 (k + 1)
        rw [l_1, n3_add]
      · exact (((hF.w rfl).w rfl).w rfl).w rfl
      · refine RC_take ?_ (fun i hi => ?_) (fun i hi hs => ?_) (fun i hi hs => ?_)
        · rw [rd_eq]
        · rw [rd_ne (by decide), rd_ne (by decide)]; exact q2 i hi
        · rw [rd_ne (by decide)]
          by_cases c : i = k
          · subst c; rw [rd_eq]
          · have := cnt_lt (stt e) (show i < k by omega) hs
            rw [rd_nk (by unfold phc; omega)]
            exact q4 i (by omega) hs
        · rw [rd_ne (by decide), rd_ne (by decide)]; exact q5 i hi (Or.inr hs)
    | false =>
      obtain ⟨j, rfl⟩ : ∃ j, k = j + 1 := by
        cases k with
        | zero => rw [stt_0] at hst; cases hst
        | succ j => exact ⟨j, rfl⟩
      have a2 : phc e (j + 1 + 1) = phc e (j + 1) := phc_f hst
      rw [if_pos (by decide), q1, ← a2, e1, stE_in _ _ _ hk40 (by decide), Option.bind_some]
      rw [rd_ne (show 30 ≠ 45 by decide), q1, ← a2, e1, stE_in _ _ _ (show phc e (j + 1 + 1) - 1 < 40 by omega) (by decide), Option.bind_some]
      rw [ldE_in _ hk40 (by decide), Option.bind_some]
      refine ⟨(_, _, _), rfl, ?_, ?_, ?_, ?_⟩
      · show M4.1 34 (j + 1) = bI (stt e (j + 1 + 1))
        rw [hF.2 _ _ rfl, he _ hk, stt_s]
      · show n3 (j + 1) + 1 = n3 (j + 1 + 1)
        rw [l_1, n3_add]
      · exact (hF.w rfl).w rfl
      · refine RC_take ?_ q2 (fun i hi hs => ?_) (fun i hi hs => q5 i hi (Or.inr hs))
        · rw [a2]; exact q1
        · by_cases c : i = j + 1
          · subst c; rw [hst] at hs; cases hs
          · exact q4 i (by omega) hs
  · rintro f ⟨x2, x3, M4⟩ ⟨rfl, rfl, hF, hP⟩
    dsimp only at hF hP ⊢
    have g2 : M4.1 30 2 = n3 n := by rw [hF.2 _ _ rfl]; exact h2
    rw [Rf_layPhrases_L9, g2, if_pos (by rw [n3_le (by omega) (by omega)]; omega)]
    exact ⟨_, rfl, hF, hP⟩
  · refine ⟨by rw [rd_eq]; rfl, fun i hi => by omega, fun i hi => by omega, fun i hi => by omega⟩
/-- the reference behind layPhrases -/
def RP (e sl : Nat → Bool) (n : Nat) (M : hyM) : Prop := n ≤ 40 ∧ M.1 30 2 = n3 n ∧ (∀ i, i < n → M.1 33 i = bI (sl i)) ∧ (∀ i, i < n → M.1 34 i = bI (e i)) ∧ RF e n M
theorem Rf_isSlurred_ok {e sl : Nat → Bool} {n i : Nat} {M : hyM} (h : RP e sl n M) (hi : i < n) : Rf_isSlurred (n3 i) M = some (!qf e sl i) := by
  obtain ⟨hn, h1, h2, h3, h4, h5, h6⟩ := h
  have hp := phc_pos (e := e) (show 0 < i + 1 by omega)
  have hp2 := phc_le e (i + 1)
  have hp3 := phc_mono (e := e) (show i + 1 ≤ n by omega)
  rw [Rf_isSlurred, ldE_in _ (by omega) (by decide), Option.bind_some, h2 i hi, ite_bI]
  cases hs : sl i with
  | false => rw [if_neg (by decide)]; simp [qf, hs]
  | true =>
    rw [if_pos rfl, ldE_in _ (by omega) (by decide), Option.bind_some, h5 i hi, ldE_in _ (by omega) (by decide), Option.bind_some, (h6 _ (by omega)).1, bgn_pfi hi]
    have hb := bgn_le e i
    rw [dec_eq (by omega) (by omega)]
    congr 1
    cases hst : stt e i with
    | true => rw [bgn_t hst]; simp [qf, hst]
    | false =>
      have : bgn e i ≠ i := fun q => by
        have := bgn_st e i
        rw [q, hst] at this
        cases this
      simp [qf, hst, hs, this]
theorem Rf_syllablesOf_ok {e sl : Nat → Bool} {n p : Nat} {M : hyM} (h : RP e sl n M) (hp : p < phc e n) : Rf_syllablesOf (n3 p) M = some (n3 (sly e sl n p)) := by
  have hn := h.1
  have h6 := h.2.2.2.2.2.2
  have hple := phc_le e n
  obtain ⟨a2, b2, c2, d2⟩ := pla_spec hp
  have hle := pfi_le_pla hp
  have key := lpE (fun f (s : Int32 × Int32) => Rf_syllablesOf_L9 (n3 p) M f s.1 s.2) (fun j => (n3 (cnt (qf e sl) (pfi e n p + j) - cnt (qf e sl) (pfi e n p)), n3 (pfi e n p + j))) (pla e n p + 1 - pfi e n p) (n3 (sly e sl n p), n3 (pla e n p + 1)) ?_ ?_ hyFu 0 (Nat.zero_le _) (hyFu_big (by omega))
  · dsimp only at key
    rw [Nat.add_zero, Nat.sub_self] at key
    rw [Rf_syllablesOf, ldE_in _ (by omega) (by decide), Option.bind_some, (h6 p hp).1, show (0 : Int32) = n3 0 from rfl, key]
    rfl
  · intro f k hk
    dsimp only
    rw [Rf_syllablesOf_L9, ldE_in _ (by omega) (by decide), Option.bind_some, (h6 p hp).2, if_neg (by rw [n3_lt (by omega) (by omega)]; omega), Rf_isSlurred_ok h (by omega), Option.bind_some, Bool.not_not, bI_n3, n3_add, l_1, n3_add]
    have h7 := cnt_mono (qf e sl) (show pfi e n p ≤ pfi e n p + k by omega)
    rw [show pfi e n p + (k + 1) = pfi e n p + k + 1 from rfl, cnt]
    congr 2
    omega
  · intro f
    dsimp only
    rw [show pfi e n p + (pla e n p + 1 - pfi e n p) = pla e n p + 1 by omega]
    rw [Rf_syllablesOf_L9, ldE_in _ (by omega) (by decide), Option.bind_some, (h6 p hp).2, if_pos (by rw [n3_lt (by omega) (by omega)]; omega)]
    rfl
theorem Rf_syllableOf_ok {e sl : Nat → Bool} {n i : Nat} {M : hyM} (h : RP e sl n M) (hi : i < n) : Rf_syllableOf (n3 i) M = some (n3 (slo e sl i)) := by
  have hn := h.1
  obtain ⟨-, h5, h6⟩ := h.2.2.2.2
  have hp := phc_pos (e := e) (show 0 < i + 1 by omega)
  have hp2 := phc_le e (i + 1)
  have hp3 := phc_mono (e := e) (show i + 1 ≤ n by omega)
  have hle := bgn_le e i
  have key := lpE (fun f (s : Int32 × Int32) => Rf_syllableOf_L14 (n3 i) M f s.1 s.2) (fun j => (n3 (cnt (qf e sl) (bgn e i + j) - cnt (qf e sl) (bgn e i)), n3 (bgn e i + j))) (i - bgn e i) (n3 (slo e sl i), n3 i) ?_ ?_ hyFu 0 (Nat.zero_le _) (hyFu_big (by omega))
  · dsimp only at key
    rw [Nat.add_zero, Nat.sub_self] at key
    rw [Rf_syllableOf, ldE_in _ (by omega) (by decide), Option.bind_some, h5 i hi, ldE_in _ (by omega) (by decide), Option.bind_some, (h6 _ (by omega)).1, bgn_pfi hi, show (0 : Int32) = n3 0 from rfl, key]
    rfl
  · intro f k hk
    dsimp only
    rw [Rf_syllableOf_L14, if_neg (by rw [n3_le (by omega) (by omega)]; omega), Rf_isSlurred_ok h (by omega), Option.bind_some, Bool.not_not, bI_n3, n3_add, l_1, n3_add]
    have h7 := cnt_mono (qf e sl) (show bgn e i ≤ bgn e i + k by omega)
    rw [show bgn e i + (k + 1) = bgn e i + k + 1 from rfl, cnt]
    congr 2
    omega
  · intro f
    dsimp only
    rw [show bgn e i + (i - bgn e i) = i by omega]
    rw [Rf_syllableOf_L14, if_pos (by rw [n3_le (by omega) (by omega)]; omega)]
    rfl
