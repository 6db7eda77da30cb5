/-! Phrases: where they begin, whose they are; the class's finding of them, and the reference's laying. -/
def stt (e : Nat → Bool) (i : Nat) : Bool := i == 0 || e (i - 1)
def phc (e : Nat → Bool) (k : Nat) : Nat := cnt (stt e) k
def bgn (e : Nat → Bool) (i : Nat) : Nat := laN (stt e) (i + 1)
def pfi (e : Nat → Bool) (n p : Nat) : Nat := laN (fun i => stt e i && phc e i == p) n
def pla (e : Nat → Bool) (n p : Nat) : Nat := laN (fun i => phc e (i + 1) == p + 1) n
/-- not slurred -/
def qf (e sl : Nat → Bool) (i : Nat) : Bool := !(sl i && !stt e i)
/-- syllables of a phrase -/
def sly (e sl : Nat → Bool) (n p : Nat) : Nat := cnt (qf e sl) (pla e n p + 1) - cnt (qf e sl) (pfi e n p)
/-- a note's syllable in its phrase -/
def slo (e sl : Nat → Bool) (i : Nat) : Nat := cnt (qf e sl) i - cnt (qf e sl) (bgn e i)
theorem stt_0 (e : Nat → Bool) : stt e 0 = true := rfl
theorem stt_s (e : Nat → Bool) (k : Nat) : stt e (k + 1) = e k := by simp [stt]
theorem phc_s (e : Nat → Bool) (k : Nat) : phc e (k + 1) = phc e k + (stt e k).toNat := rfl
theorem phc_t {e : Nat → Bool} {k : Nat} (h : stt e k = true) : phc e (k + 1) = phc e k + 1 := by rw [phc_s, h]; rfl
theorem phc_f {e : Nat → Bool} {k : Nat} (h : stt e k = false) : phc e (k + 1) = phc e k := by rw [phc_s, h]; rfl
theorem phc_1 (e : Nat → Bool) : phc e 1 = 1 := by rw [phc_t (stt_0 e)]; rfl
theorem phc_le (e : Nat → Bool) (k : Nat) : phc e k ≤ k := cnt_le _ _
theorem phc_mono {e : Nat → Bool} {j k : Nat} (h : j ≤ k) : phc e j ≤ phc e k := cnt_mono _ h
theorem phc_pos {e : Nat → Bool} {k : Nat} (h : 0 < k) : 0 < phc e k := by
  have := phc_mono (e := e) (show 1 ≤ k from h)
  rw [phc_1] at this
  exact this
theorem bgn_0 (e : Nat → Bool) : bgn e 0 = 0 := by simp [bgn, laN]
theorem bgn_t {e : Nat → Bool} {i : Nat} (h : stt e i = true) : bgn e i = i := by rw [bgn, laN, if_pos h]
theorem bgn_f {e : Nat → Bool} {i : Nat} (h : stt e (i + 1) = false) : bgn e (i + 1) = bgn e i := by rw [bgn, laN, if_neg (by rw [h]; decide)]; rfl
theorem bgn_le (e : Nat → Bool) (i : Nat) : bgn e i ≤ i := by
  have := (laN_spec (p := stt e) (k := i + 1) ⟨0, by omega, rfl⟩).1
  unfold bgn; omega
theorem bgn_st (e : Nat → Bool) (i : Nat) : stt e (bgn e i) = true := (laN_spec (p := stt e) (k := i + 1) ⟨0, by omega, rfl⟩).2.1
theorem bgn_ph (e : Nat → Bool) (i : Nat) : phc e (bgn e i) + 1 = phc e (i + 1) := by
  induction i with
  | zero => rw [bgn_0, phc_1]; rfl
  | succ i ih =>
    cases h : stt e (i + 1) with
    | true => rw [bgn_t h, phc_t h]
    | false => rw [bgn_f h, phc_f h, ih]
theorem st_inj {e : Nat → Bool} {i j : Nat} (hi : stt e i = true) (hj : stt e j = true) (h : phc e i = phc e j) : i = j := by
  rcases Nat.lt_trichotomy i j with c | c | c
  · have := cnt_lt (stt e) c hi; unfold phc at h; omega
  · exact c
  · have := cnt_lt (stt e) c hj; unfold phc at h; omega
theorem ph_sur {e : Nat → Bool} {n p : Nat} (h : p < phc e n) : ∃ i, i < n ∧ stt e i = true ∧ phc e i = p := by
  induction n with
  | zero => exact absurd h (Nat.not_lt_zero _)
  | succ n ih =>
    cases c : stt e n with
    | true =>
      rw [phc_t c] at h
      by_cases e2 : p = phc e n
      · exact ⟨n, by omega, c, e2.symm⟩
      · obtain ⟨i, a, b, d⟩ := ih (by omega)
        exact ⟨i, by omega, b, d⟩
    | false =>
      rw [phc_f c] at h
      obtain ⟨i, a, b, d⟩ := ih h
      exact ⟨i, by omega, b, d⟩
theorem pfi_spec {e : Nat → Bool} {n p : Nat} (h : p < phc e n) : pfi e n p < n ∧ stt e (pfi e n p) = true ∧ phc e (pfi e n p) = p := by
  obtain ⟨i, h1, h2, h3⟩ := ph_sur h
  obtain ⟨a, b, -⟩ := laN_spec (p := fun i => stt e i && phc e i == p) (k := n) ⟨i, h1, by simp [h2, h3]⟩
  simp only [Bool.and_eq_true, beq_iff_eq] at b
  exact ⟨a, b.1, b.2⟩
theorem pfi_of {e : Nat → Bool} {n i : Nat} (h1 : i < n) (h2 : stt e i = true) : pfi e n (phc e i) = i := by
  have h3 : phc e i < phc e n := cnt_lt _ h1 h2
  obtain ⟨a, b, c⟩ := pfi_spec h3
  exact st_inj b h2 c
theorem pla_spec {e : Nat → Bool} {n p : Nat} (h : p < phc e n) : pla e n p < n ∧ phc e (pla e n p + 1) = p + 1 ∧ (pla e n p + 1 = n ∨ stt e (pla e n p + 1) = true) ∧ ∀ j, pla e n p < j → j < n → phc e (j + 1) ≠ p + 1 := by
  obtain ⟨i, h1, h2, h3⟩ := ph_sur h
  obtain ⟨a, b, d⟩ := laN_spec (p := fun i => phc e (i + 1) == p + 1) (k := n) ⟨i, h1, by simp [phc_t h2, h3]⟩
  simp only [beq_iff_eq] at b
  have d2 : ∀ j, pla e n p < j → j < n → phc e (j + 1) ≠ p + 1 := fun j h4 h5 => by simpa using d j h4 h5
  refine ⟨a, b, ?_, d2⟩
  by_cases c : pla e n p + 1 = n
  · exact Or.inl c
  · refine Or.inr ?_
    have h6 : pla e n p < n := a
    have h4 := d2 (pla e n p + 1) (by omega) (by omega)
    cases c2 : stt e (pla e n p + 1) with
    | true => rfl
    | false => rw [phc_f c2] at h4; exact absurd b h4
theorem bgn_pla {e : Nat → Bool} {n p : Nat} (h : p < phc e n) : bgn e (pla e n p) = pfi e n p := by
  obtain ⟨a, b, -, -⟩ := pla_spec h
  have h1 := bgn_ph e (pla e n p)
  have h2 : phc e (bgn e (pla e n p)) = p := by omega
  have h3 := bgn_le e (pla e n p)
  rw [← pfi_of (e := e) (n := n) (i := bgn e (pla e n p)) (by omega) (bgn_st e _), h2]
theorem bgn_pfi {e : Nat → Bool} {n i : Nat} (h : i < n) : pfi e n (phc e (i + 1) - 1) = bgn e i := by
  have h1 := bgn_ph e i
  have h2 := bgn_le e i
  rw [← h1, Nat.add_sub_cancel, pfi_of (by omega) (bgn_st e i)]
theorem pfi_le_pla {e : Nat → Bool} {n p : Nat} (h : p < phc e n) : pfi e n p ≤ pla e n p := by rw [← bgn_pla h]; exact bgn_le _ _
theorem ph_in {e : Nat → Bool} {n p i : Nat} (h : p < phc e n) (hi : i < n) : phc e (i + 1) = p + 1 ↔ pfi e n p ≤ i ∧ i ≤ pla e n p := by
  obtain ⟨a, b, c, d⟩ := pla_spec h
  obtain ⟨a2, b2, c2⟩ := pfi_spec h
  constructor
  · intro q
    constructor
    · have := bgn_pfi (e := e) hi
      rw [q, Nat.add_sub_cancel] at this
      rw [this]
      exact bgn_le _ _
    · by_cases q2 : i ≤ pla e n p
      · exact q2
      · exact absurd q (d i (by omega) hi)
  · intro ⟨q1, q2⟩
    have h1 := phc_mono (e := e) (show pfi e n p + 1 ≤ i + 1 by omega)
    have h2 := phc_mono (e := e) (show i + 1 ≤ pla e n p + 1 by omega)
    rw [phc_t b2, c2] at h1
    omega
theorem sly_le (e sl : Nat → Bool) {n p : Nat} (h : p < phc e n) : sly e sl n p ≤ n := by
  have := cnt_le (qf e sl) (pla e n p + 1)
  have := (pla_spec h).1
  unfold sly; omega
theorem qf_t {e sl : Nat → Bool} {i : Nat} (h : stt e i = true) : qf e sl i = true := by simp [qf, h]
theorem sly_pos (e sl : Nat → Bool) {n p : Nat} (h : p < phc e n) : 0 < sly e sl n p := by
  obtain ⟨a2, b2, c2⟩ := pfi_spec h
  have h1 := cnt_lt (qf e sl) (show pfi e n p < pla e n p + 1 from Nat.lt_succ_of_le (pfi_le_pla h)) (qf_t b2)
  unfold sly; omega
/-! the class's -/
def hbt (m : Int64) (i : Nat) : Bool := !decide (lg_cmp (jlushr m (n3 i) &&& 1) 0 = 0)
theorem hasBit_eq (m : Int64) (i : Nat) (M : hyM) : Hp_hasBit m (n3 i) M = hbt m i := rfl
theorem Ph_open_eq {M : hyM} {p : Nat} {a : Int32} (h : M.1 12 5 = n3 p) (hp : p < 40) : Ph_open a M = wI (wI (wI M 15 p a) 17 p 0) 12 5 (n3 (p + 1)) := by
  unfold Ph_open
  rw [h, putf_in _ _ _ hp (by decide)]
  have h2 : (wI M 15 p a).1 12 5 = n3 p := by rw [rd_ne (by decide), h]
  rw [h2, putf_in _ _ _ hp (by decide)]
  have h3 : (wI (wI M 15 p a) 17 p 0).1 12 5 = n3 p := by rw [rd_ne (by decide), h2]
  rw [h3, l_1, n3_add]
theorem Ph_take_eq {M : hyM} {P k sv : Nat} {b : Bool} (h : M.1 12 5 = n3 (P + 1)) (hP : P < 40) (hk : k < 40) (hs : M.1 17 P = n3 sv) :
    Ph_take (n3 k) b M = wI (wI (wI (wI M 16 P (n3 k)) 13 k (n3 P)) 14 k (if b = true then -1 else n3 sv)) 17 P (n3 (sv + (!b).toNat)) := by
  unfold Ph_take Hp_flag Ph_syllablesOf
  have e1 : n3 (P + 1) - 1 = n3 P := by rw [l_1, n3_sub (by omega), Nat.add_sub_cancel]
  rw [h, e1, putf_in _ _ _ hP (by decide), putf_in _ _ _ hk (by decide), putf_in _ _ _ hk (by decide), putf_in _ _ _ hP (by decide)]
  rw [atf_in _ hP (by decide), atf_in _ hP (by decide), rd_ne (by decide), rd_ne (by decide), rd_ne (by decide), rd_ne (by decide), rd_ne (by decide), hs, bI_n3, n3_add]
def PC (e sl : Nat → Bool) (k : Nat) (M : hyM) : Prop :=
  M.1 12 5 = n3 (phc e k) ∧ (∀ i, i < k → M.1 13 i = n3 (phc e (i + 1) - 1)) ∧ (∀ i, i < k → M.1 14 i = if qf e sl i = true then n3 (slo e sl i) else -1) ∧
  (∀ i, i < k → stt e i = true → M.1 15 (phc e i) = n3 i) ∧
  (∀ i, i < k → (i + 1 = k ∨ stt e (i + 1) = true) → M.1 16 (phc e (i + 1) - 1) = n3 i ∧ M.1 17 (phc e (i + 1) - 1) = n3 (cnt (qf e sl) (i + 1) - cnt (qf e sl) (bgn e i)))
def PN (e sl : Nat → Bool) (k : Nat) (M : hyM) : Prop :=
  M.1 12 5 = n3 (phc e (k + 1)) ∧ (∀ i, i < k → M.1 13 i = n3 (phc e (i + 1) - 1)) ∧ (∀ i, i < k → M.1 14 i = if qf e sl i = true then n3 (slo e sl i) else -1) ∧
  (∀ i, i < k + 1 → stt e i = true → M.1 15 (phc e i) = n3 i) ∧
  (∀ i, i < k → stt e (i + 1) = true → M.1 16 (phc e (i + 1) - 1) = n3 i ∧ M.1 17 (phc e (i + 1) - 1) = n3 (cnt (qf e sl) (i + 1) - cnt (qf e sl) (bgn e i))) ∧
  M.1 17 (phc e (k + 1) - 1) = n3 (slo e sl k)
theorem PC_open {e sl : Nat → Bool} {k : Nat} {M : hyM} (h : PC e sl k M) (hst : stt e k = true) : PN e sl k (wI (wI (wI M 15 (phc e k) (n3 k)) 17 (phc e k) 0) 12 5 (n3 (phc e k + 1))) := by
  obtain ⟨h1, h2, h3, h4, h5⟩ := h
  refine ⟨?_, fun i hi => ?_, fun i hi => ?_, fun i hi hs => ?_, fun i hi hs => ?_, ?_⟩
  · rw [rd_eq, phc_t hst]
  · rw [rd_ne (by decide), rd_ne (by decide), rd_ne (by decide)]; exact h2 i hi
  · rw [rd_ne (by decide), rd_ne (by decide), rd_ne (by decide)]; exact h3 i hi
  · rw [rd_ne (by decide), rd_ne (by decide)]
    by_cases c : i = k
    · subst c; rw [rd_eq]
    · have hik : i < k := by omega
      have := cnt_lt (stt e) hik hs
      rw [rd_nk (by unfold phc; omega)]
      exact h4 i hik hs
  · have hlt : phc e (i + 1) - 1 ≠ phc e k := by
      have := phc_mono (e := e) (show i + 1 ≤ k by omega)
      have := phc_pos (e := e) (show 0 < i + 1 by omega)
      omega
    rw [rd_ne (by decide), rd_ne (by decide), rd_ne (by decide), rd_ne (by decide), rd_nk hlt, rd_ne (by decide)]
    exact h5 i hi (Or.inr hs)
  · rw [rd_ne (by decide), phc_t hst, Nat.add_sub_cancel, rd_eq, slo, bgn_t hst, Nat.sub_self]; rfl
theorem PC_stay {e sl : Nat → Bool} {k : Nat} {M : hyM} (h : PC e sl k M) (hst : stt e k = false) : PN e sl k M := by
  obtain ⟨h1, h2, h3, h4, h5⟩ := h
  obtain ⟨j, rfl⟩ : ∃ j, k = j + 1 := by
    cases k with
    | zero => rw [stt_0] at hst; cases hst
    | succ j => exact ⟨j, rfl⟩
  refine ⟨?_, h2, h3, fun i hi hs => ?_, fun i hi hs => h5 i hi (Or.inr hs), ?_⟩
  · rw [phc_f hst]; exact h1
  · by_cases c : i = j + 1
    · subst c; rw [hst] at hs; cases hs
    · exact h4 i (by omega) hs
  · rw [phc_f hst, slo, bgn_f hst]
    exact (h5 j (by omega) (Or.inl rfl)).2
theorem PN_take {e sl : Nat → Bool} {k : Nat} {M : hyM} (h : PN e sl k M) : PC e sl (k + 1) (wI (wI (wI (wI M 16 (phc e (k + 1) - 1) (n3 k)) 13 k (n3 (phc e (k + 1) - 1))) 14 k (if (!qf e sl k) = true then -1 else n3 (slo e sl k))) 17 (phc e (k + 1) - 1) (n3 (slo e sl k + (qf e sl k).toNat))) := by
  obtain ⟨h1, h2, h3, h4, h5, h6⟩ := h
  refine ⟨?_, fun i hi => ?_, fun i hi => ?_, fun i hi hs => ?_, fun i hi hs => ?_⟩
  · rw [rd_ne (by decide), rd_ne (by decide), rd_ne (by decide), rd_ne (by decide)]; exact h1
  · rw [rd_ne (by decide), rd_ne (by decide)]
    by_cases c : i = k
    · subst c; rw [rd_eq]
    · rw [rd_nk c, rd_ne (by decide)]; exact h2 i (by omega)
  · rw [rd_ne (by decide)]
    by_cases c : i = k
    · subst c; rw [rd_eq]
      cases qf e sl i <;> rfl
    · rw [rd_nk c, rd_ne (by decide), rd_ne (by decide)]; exact h3 i (by omega)
  · rw [rd_ne (by decide), rd_ne (by decide), rd_ne (by decide), rd_ne (by decide)]; exact h4 i hi hs
  · by_cases c : i = k
    · subst c
      rw [rd_ne (by decide), rd_ne (by decide), rd_ne (by decide), rd_eq, rd_eq]
      refine ⟨rfl, ?_⟩
      have h7 := cnt_mono (qf e sl) (bgn_le e i)
      unfold slo
      rw [cnt]
      congr 1
      omega
    · have hs2 : stt e (i + 1) = true := by
        rcases hs with hs | hs
        · omega
        · exact hs
      have hne : phc e (i + 1) - 1 ≠ phc e (k + 1) - 1 := by
        have a := cnt_lt (stt e) (show i + 1 < k + 1 by omega) hs2
        have b := phc_pos (e := e) (show 0 < i + 1 by omega)
        unfold phc at b ⊢
        omega
      rw [rd_ne (by decide), rd_ne (by decide), rd_ne (by decide), rd_nk hne, rd_nk hne, rd_ne (by decide), rd_ne (by decide), rd_ne (by decide)]
      exact h5 i (by omega) hs2
def PF (e sl : Nat → Bool) (n : Nat) (M : hyM) : Prop :=
  M.1 12 5 = n3 (phc e n) ∧ (∀ i, i < n → M.1 13 i = n3 (phc e (i + 1) - 1)) ∧ (∀ i, i < n → M.1 14 i = if qf e sl i = true then n3 (slo e sl i) else -1) ∧
  ∀ p, p < phc e n → M.1 15 p = n3 (pfi e n p) ∧ M.1 16 p = n3 (pla e n p) ∧ M.1 17 p = n3 (sly e sl n p)
theorem PC_PF {e sl : Nat → Bool} {n : Nat} {M : hyM} (h : PC e sl n M) : PF e sl n M := by
  obtain ⟨h1, h2, h3, h4, h5⟩ := h
  refine ⟨h1, h2, h3, fun p hp => ?_⟩
  obtain ⟨a, b, c⟩ := pfi_spec hp
  obtain ⟨a2, b2, c2, -⟩ := pla_spec hp
  have g1 := h4 _ a b
  rw [c] at g1
  obtain ⟨g2, g3⟩ := h5 _ a2 c2
  rw [b2, Nat.add_sub_cancel] at g2 g3
  rw [bgn_pla hp] at g3
  exact ⟨g1, g2, g3⟩
def pcel (c _ : Nat) : Bool := Nat.ble 12 c && Nat.ble c 17
theorem Ph_find_ok {e sl : Nat → Bool} {n : Nat} {M : hyM} (hn : n ≤ 40) (h4 : M.1 1 4 = n3 n) (hs : ∀ i, i < n → hbt (M.2 1 2) i = sl i) (he : ∀ i, i < n → hbt (M.2 1 3) i = e i) :
    ∃ M', Ph_find M = some M' ∧ frm pcel M M' ∧ PF e sl n M' := by
  have key := lpI (σ := Bool × Int32 × hyM) (fun f s => Ph_find_L9 f s.1 s.2.1 s.2.2) (fun k s => s.1 = stt e k ∧ s.2.1 = n3 k ∧ frm pcel M s.2.2 ∧ PC e sl k s.2.2) n (fun r => frm pcel M r.2.2 ∧ PC e sl n r.2.2) ?_ ?_ hyFu 0 (true, n3 0, wI M 12 5 0) (Nat.zero_le _) (hyFu_big (by omega)) ⟨rfl, rfl, (frm.rf _ _).w rfl, ?_⟩
  · obtain ⟨⟨b, y, N⟩, e1, e2, e3⟩ := key
    refine ⟨N, ?_, e2, PC_PF e3⟩
    dsimp only at e1
    rw [Ph_find]
    simp only [Option.bind_some]
    rw [show (0 : Int32) = n3 0 from rfl] at e1 ⊢
    rw [e1]
    rfl
  · rintro f k ⟨x2, x3, M4⟩ hk ⟨rfl, rfl, hF, hP⟩
    refine Or.inl ?_
    dsimp only at hF hP ⊢
    have g4 : M4.1 1 4 = n3 n := by rw [hF.2 _ _ rfl]; exact h4
    have g2 : M4.2 = M.2 := hF.1
    have hk40 : k < 40 := by omega
    have hlt : ¬ n3 n ≤ n3 k := by rw [n3_le (by omega) (by omega)]; omega
    have hpk : phc e k ≤ k := phc_le e k
    have hpp := phc_pos (e := e) (show 0 < k + 1 by omega)
    have hpk1 : phc e (k + 1) ≤ k + 1 := phc_le e (k + 1)
    have hP1 : phc e (k + 1) - 1 + 1 = phc e (k + 1) := by omega
    rw [Ph_find_L9, g4, if_neg hlt]
    cases hst : stt e k with
    | true =>
      have hN := PC_open hP hst
      have hq : qf e sl k = true := qf_t hst
      rw [if_pos rfl]
      simp only [Option.bind_some, if_true]
      rw [Ph_open_eq hP.1 (by omega)]
      rw [Ph_take_eq (P := phc e (k + 1) - 1) (sv := slo e sl k) (by rw [hP1]; exact hN.1) (by omega) hk40 hN.2.2.2.2.2]
      refine ⟨(_, _, _), rfl, ?_, ?_, ?_, ?_⟩
      · show hbt (M4.2 1 3) k = stt e (k + 1)
        rw [stt_s, g2, he k hk]
      · show n3 k + 1 = n3 (k + 1)
        rw [l_1, n3_add]
      · exact ((((((hF.w rfl).w rfl).w rfl).w rfl).w rfl).w rfl).w rfl
      · have := PN_take hN
        rw [hq] at this
        exact this
    | false =>
      have hN := PC_stay hP hst
      have hq : (!qf e sl k) = sl k := by simp [qf, hst]
      rw [if_neg (by decide)]
      simp only [Option.bind_some, Bool.false_eq_true, if_false]
      rw [show Hp_hasBit (M4.2 1 2) (n3 k) M4 = sl k from by rw [hasBit_eq, g2, hs k hk]]
      rw [Ph_take_eq (P := phc e (k + 1) - 1) (sv := slo e sl k) (by rw [hP1]; exact hN.1) (by omega) hk40 hN.2.2.2.2.2]
      refine ⟨(_, _, _), rfl, ?_, ?_, ?_, ?_⟩
      · show hbt (M4.2 1 3) k = stt e (k + 1)
        rw [stt_s, g2, he k hk]
      · show n3 k + 1 = n3 (k + 1)
        rw [l_1, n3_add]
      · exact (((hF.w rfl).w rfl).w rfl).w rfl
      · have := PN_take hN
        rw [hq] at this
        have e9 : (!sl k) = qf e sl k := by rw [← hq, Bool.not_not]
        rw [e9]
        exact this
  · rintro f ⟨x2, x3, M4⟩ ⟨rfl, rfl, hF, hP⟩
    dsimp only at hF hP ⊢
    have g4 : M4.1 1 4 = n3 n := by rw [hF.2 _ _ rfl]; exact h4
    rw [Ph_find_L9, g4, if_pos (by rw [n3_le (by omega) (by omega)]; omega)]
    exact ⟨_, rfl, hF, hP⟩
  · refine ⟨by rw [rd_eq]; rfl, fun i hi => by omega, fun i hi => by omega, fun i hi => by omega, fun i hi => by omega⟩
