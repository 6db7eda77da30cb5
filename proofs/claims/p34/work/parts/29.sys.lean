/-! Widths of phrases, systems; both layouts. -/
def phw (w : Nat → Nat) (e : Nat → Bool) (n p : Nat) : Nat := smN w (pla e n p + 1) - smN w (pfi e n p)
def ssf (w : Nat → Nat) (pg : Nat) : Nat → Nat × Nat
  | 0 => (0, 0)
  | k + 1 => if k = 0 then (0, w 0) else if pg < (ssf w pg k).2 + w k then ((ssf w pg k).1 + 1, w k) else ((ssf w pg k).1, (ssf w pg k).2 + w k)
def nsy (w : Nat → Nat) (pg m : Nat) : Nat := if m = 0 then 0 else (ssf w pg m).1 + 1
theorem ssf_bd {w : Nat → Nat} {pg : Nat} {b : Nat} (hw : ∀ k, w k ≤ b) (k : Nat) : (ssf w pg k).1 ≤ k ∧ (ssf w pg k).2 ≤ k * b := by
  induction k with
  | zero => exact ⟨Nat.le_refl _, Nat.zero_le _⟩
  | succ k ih =>
    have h1 := hw k
    have h2 := hw 0
    rw [ssf, Nat.add_mul]
    by_cases c : k = 0
    · rw [if_pos c]; dsimp only; omega
    · rw [if_neg c]
      split
      · dsimp only; omega
      · dsimp only; omega
theorem smN_mono (w : Nat → Nat) {j k : Nat} (h : j ≤ k) : smN w j ≤ smN w k := by
  induction k with
  | zero => have : j = 0 := by omega
            rw [this]; exact Nat.le_refl _
  | succ k ih =>
    by_cases e : j = k + 1
    · rw [e]; exact Nat.le_refl _
    · have := ih (by omega)
      rw [smN]; omega
theorem phw_le {w : Nat → Nat} {e : Nat → Bool} {n p : Nat} (hn : n ≤ 40) (hp : p < phc e n) (hw : ∀ i, i < n → w i ≤ 13) : phw w e n p ≤ 520 := by
  have h1 := (pla_spec hp).1
  have h2 : smN w (pla e n p + 1) ≤ (pla e n p + 1) * 13 := smN_le (fun i hi => hw i (by omega))
  unfold phw
  omega
theorem pla_next {e : Nat → Bool} {n p : Nat} (hp : p < phc e n) : pla e n p + 1 = if p + 1 < phc e n then pfi e n (p + 1) else n := by
  obtain ⟨a, b, c, d⟩ := pla_spec hp
  by_cases q : p + 1 < phc e n
  · rw [if_pos q]
    have hne : pla e n p + 1 ≠ n := fun h => by rw [← h, b] at q; omega
    have hst : stt e (pla e n p + 1) = true := by
      rcases c with c | c
      · exact absurd c hne
      · exact c
    have := pfi_of (e := e) (n := n) (i := pla e n p + 1) (by omega) hst
    rw [b] at this
    exact this.symm
  · rw [if_neg q]
    rcases c with c | c
    · exact c
    · by_cases r : pla e n p + 1 = n
      · exact r
      · have h1 := phc_mono (e := e) (show pla e n p + 1 + 1 ≤ n by omega)
        rw [phc_t c, b] at h1
        omega
theorem pfi_0 {e : Nat → Bool} {n : Nat} (hn : 0 < n) : pfi e n 0 = 0 := by
  have := pfi_of (e := e) (n := n) (i := 0) hn (stt_0 e)
  rw [show phc e 0 = 0 from rfl] at this
  exact this
/-- all phrases' widths together are all columns' -/
theorem phw_sum (w : Nat → Nat) (e : Nat → Bool) (n : Nat) : smN (phw w e n) (phc e n) = smN w n := by
  have key : ∀ k, k ≤ phc e n → smN (phw w e n) k = smN w (if k < phc e n then pfi e n k else n) := by
    intro k
    induction k with
    | zero =>
      intro _
      by_cases c : 0 < phc e n
      · have hn : 0 < n := by have := phc_le e n; omega
        rw [if_pos c, pfi_0 hn]; rfl
      · have hn : n = 0 := by
          by_cases d : n = 0
          · exact d
          · have := phc_pos (e := e) (show 0 < n by omega); omega
        rw [if_neg c, hn]; rfl
    | succ k ih =>
      intro hk
      have hlt : k < phc e n := by omega
      have h1 := ih (by omega)
      rw [if_pos hlt] at h1
      have h2 := pla_next hlt
      have h3 := smN_mono w (show pfi e n k ≤ pla e n k + 1 by have := pfi_le_pla hlt; omega)
      rw [smN, h1, ← h2]
      unfold phw
      omega
  have := key (phc e n) (Nat.le_refl _)
  rw [if_neg (Nat.lt_irrefl _)] at this
  exact this
/-! class -/
theorem Co_sumOf_ok {w : Nat → Nat} {n a b : Nat} {M : hyM} (hn : n ≤ 40) (hw : ∀ i, i < n → M.1 22 i = n3 (w i)) (hb : b < n) (ha : a ≤ b + 1) : Co_sumOf (n3 a) (n3 b) M = some (n3 (smN w (b + 1) - smN w a)) := by
  have key := lpE (fun f (s : Int32 × Int32) => Co_sumOf_L5 (n3 b) M f s.1 s.2) (fun j => (n3 (smN w (a + j) - smN w a), n3 (a + j))) (b + 1 - a) (n3 (smN w (b + 1) - smN w a), n3 (b + 1)) ?_ ?_ hyFu 0 (Nat.zero_le _) (hyFu_big (by omega))
  · dsimp only at key
    rw [Nat.add_zero, Nat.sub_self] at key
    rw [Co_sumOf, show (0 : Int32) = n3 0 from rfl, key]
    rfl
  · intro f k hk
    have h7 := smN_mono w (show a ≤ a + k by omega)
    dsimp only
    unfold Co_widthOf at *
    rw [Co_sumOf_L5, if_neg (by rw [n3_lt (by omega) (by omega)]; omega)]
    unfold Co_widthOf
    rw [atf_in _ (by omega) (by decide), hw _ (by omega), n3_add, n3_s]
    rw [show a + (k + 1) = a + k + 1 from rfl, smN]
    congr 2
    omega
  · intro f
    dsimp only
    rw [show a + (b + 1 - a) = b + 1 by omega]
    rw [Co_sumOf_L5, if_pos (by rw [n3_lt (by omega) (by omega)]; omega)]
/-- the class's layout -/
def CLy (w : Nat → Nat) (e : Nat → Bool) (n pg : Nat) (M : hyM) : Prop :=
  (∀ i, i < n → M.1 22 i = n3 (w i)) ∧ (∀ p, p < phc e n → M.1 23 p = n3 (phw w e n p) ∧ M.1 24 p = n3 (ssf (phw w e n) pg (p + 1)).1) ∧ M.1 21 3 = n3 (nsy (phw w e n) pg (phc e n)) ∧ M.1 21 4 = n3 (smN w n)
theorem phw_le' {w : Nat → Nat} {e : Nat → Bool} {n : Nat} (hn : n ≤ 40) (hw : ∀ i, i < n → w i ≤ 13) (k : Nat) : (if k < phc e n then phw w e n k else 0) ≤ 520 := by
  split
  · rename_i h; exact phw_le hn h hw
  · omega
theorem ssf_congr {f g : Nat → Nat} {pg m : Nat} (h : ∀ i, i < m → f i = g i) : ∀ k, k ≤ m → ssf f pg k = ssf g pg k := by
  intro k
  induction k with
  | zero => intro _; rfl
  | succ k ih =>
    intro hk
    rw [ssf, ssf, ih (by omega), h k (by omega)]
    by_cases c : k = 0
    · rw [if_pos c, if_pos c, h 0 (by omega)]
    · rw [if_neg c, if_neg c]
theorem ssf_bd' {w : Nat → Nat} {e : Nat → Bool} {n pg : Nat} (hn : n ≤ 40) (hw : ∀ i, i < n → w i ≤ 13) {k : Nat} (hk : k ≤ phc e n) : (ssf (phw w e n) pg k).1 ≤ k ∧ (ssf (phw w e n) pg k).2 ≤ k * 520 := by
  have h1 := ssf_bd (w := fun k => if k < phc e n then phw w e n k else 0) (pg := pg) (phw_le' hn hw) k
  have h2 : ssf (phw w e n) pg k = ssf (fun k => if k < phc e n then phw w e n k else 0) pg k := ssf_congr (m := phc e n) (fun i hi => (if_pos hi).symm) k hk
  rw [h2]
  exact h1
theorem Co_findSystems_ok {w : Nat → Nat} {e sl : Nat → Bool} {n pg : Nat} {M : hyM} (hn : n ≤ 40) (hpg : pg ≤ 1000) (hP : PF e sl n M) (hw : ∀ i, i < n → M.1 22 i = n3 (w i)) (hw13 : ∀ i, i < n → w i ≤ 13) :
    ∃ M', Co_findSystems (n3 pg) M = some M' ∧ frm ccel M M' ∧ CLy w e n pg M' := by
  have hple := phc_le e n
  have htot : ∀ k, k ≤ phc e n → smN (phw w e n) k ≤ k * 520 := fun k hk => smN_le (fun i hi => phw_le hn (by omega) hw13)
  have key := lpI (σ := Int32 × Int32 × Int32 × hyM) (fun f s => Co_findSystems_L13 (n3 pg) f s.1 s.2.1 s.2.2.1 s.2.2.2)
    (fun k s => s.1 = n3 (ssf (phw w e n) pg k).1 ∧ s.2.1 = n3 (ssf (phw w e n) pg k).2 ∧ s.2.2.1 = n3 k ∧ frm ccel M s.2.2.2 ∧ (∀ i, i < n → s.2.2.2.1 22 i = n3 (w i)) ∧ (∀ p, p < k → s.2.2.2.1 23 p = n3 (phw w e n p) ∧ s.2.2.2.1 24 p = n3 (ssf (phw w e n) pg (p + 1)).1) ∧ s.2.2.2.1 21 4 = n3 (smN (phw w e n) k)) (phc e n)
    (fun s => s.1 = n3 (ssf (phw w e n) pg (phc e n)).1 ∧ frm ccel M s.2.2.2 ∧ (∀ i, i < n → s.2.2.2.1 22 i = n3 (w i)) ∧ (∀ p, p < phc e n → s.2.2.2.1 23 p = n3 (phw w e n p) ∧ s.2.2.2.1 24 p = n3 (ssf (phw w e n) pg (p + 1)).1) ∧ s.2.2.2.1 21 4 = n3 (smN (phw w e n) (phc e n)))
    ?_ ?_ hyFu 0 (n3 0, n3 0, n3 0, wI M 21 4 0) (Nat.zero_le _) (hyFu_big (by omega)) ⟨rfl, rfl, rfl, (frm.rf _ _).w rfl, hw, fun p hp => absurd hp (Nat.not_lt_zero _), rd_eq _ _ _ _⟩
  · obtain ⟨⟨a, b, c, N⟩, e0, e1, e2, e3, e4, e5⟩ := key
    dsimp only at e0 e1 e2 e3 e4 e5
    have h5 : N.1 12 5 = n3 (phc e n) := by rw [e2.2 _ _ rfl]; exact hP.1
    have hb := (ssf_bd' (pg := pg) hn hw13 (Nat.le_refl (phc e n))).1
    have e6 : (if N.1 12 5 ≤ 0 then 0 else a + 1) = n3 (nsy (phw w e n) pg (phc e n)) := by
      rw [h5, e1, l_0, ite_le (by omega) (by omega), n3_s]
      unfold nsy
      by_cases q : phc e n = 0
      · rw [if_pos (by omega), if_pos q]
      · rw [if_neg (by omega), if_neg q]
    refine ⟨wI N 21 3 (n3 (nsy (phw w e n) pg (phc e n))), ?_, e2.w rfl, e3, e4, rd_eq _ _ _ _, ?_⟩
    · rw [Co_findSystems, Option.bind_some, show (0 : Int32) = n3 0 from rfl]
      rw [show (0 : Int32) = n3 0 from rfl] at e0 e6
      rw [e0, Option.bind_some]
      dsimp only
      rw [e6]
      rfl
    · rw [rd_nk (by decide), e5, phw_sum]
  · rintro f k ⟨x2, x3, x4, N⟩ hk ⟨rfl, rfl, rfl, hF, h1, h2, h3⟩
    refine Or.inl ?_
    dsimp only at hF h1 h2 h3 ⊢
    have h5 : N.1 12 5 = n3 (phc e n) := by rw [hF.2 _ _ rfl]; exact hP.1
    have hf1 : N.1 15 k = n3 (pfi e n k) := by rw [hF.2 _ _ rfl]; exact (hP.2.2.2 k hk).1
    have hf2 : N.1 16 k = n3 (pla e n k) := by rw [hF.2 _ _ rfl]; exact (hP.2.2.2 k hk).2.1
    have hla := (pla_spec hk).1
    have hle := pfi_le_pla hk
    have hb := ssf_bd' (pg := pg) hn hw13 (show k ≤ phc e n by omega)
    have hpw := phw_le hn hk hw13
    have ht := htot k (by omega)
    rw [Co_findSystems_L13, h5, if_neg (by rw [n3_le (by omega) (by omega)]; omega)]
    unfold Ph_firstOf Ph_lastOf
    rw [atf_in _ (by omega) (by decide), atf_in _ (by omega) (by decide), hf1, hf2, Co_sumOf_ok hn h1 hla (by omega), Option.bind_some]
    rw [show smN w (pla e n k + 1) - smN w (pfi e n k) = phw w e n k from rfl]
    rw [h3, n3_add, Option.bind_some, putf_in _ _ _ (by omega) (by decide), Option.bind_some, putf_in _ _ _ (by omega) (by decide), Option.bind_some]
    rw [l_0, ite_le (by omega) (by omega), ite_le (by omega) (by omega), n3_add, ite_le (by omega) (by omega), ite_le (by omega) (by omega)]
    have e2 : (if k ≤ 0 then n3 (ssf (phw w e n) pg k).1 else if (ssf (phw w e n) pg k).2 + phw w e n k ≤ pg then n3 (ssf (phw w e n) pg k).1 else n3 (ssf (phw w e n) pg k).1 + 1) = n3 (ssf (phw w e n) pg (k + 1)).1 := by
      rw [ssf]
      by_cases c : k = 0
      · subst c; rfl
      · rw [if_neg (by omega), if_neg c]
        by_cases d : (ssf (phw w e n) pg k).2 + phw w e n k ≤ pg
        · rw [if_pos d, if_neg (by omega)]
        · rw [if_neg d, if_pos (by omega), n3_s]
    have e3 : (if k ≤ 0 then n3 (ssf (phw w e n) pg k).2 else if (ssf (phw w e n) pg k).2 + phw w e n k ≤ pg then n3 (ssf (phw w e n) pg k).2 else n3 0) + n3 (phw w e n k) = n3 (ssf (phw w e n) pg (k + 1)).2 := by
      rw [ssf]
      by_cases c : k = 0
      · subst c
        rw [if_pos (Nat.le_refl 0), n3_add, if_pos rfl]
        exact congrArg n3 (Nat.zero_add _)
      · rw [if_neg (by omega), if_neg c]
        by_cases d : (ssf (phw w e n) pg k).2 + phw w e n k ≤ pg
        · rw [if_pos d, if_neg (by omega), n3_add]
        · rw [if_neg d, if_pos (by omega), n3_add, Nat.zero_add]
    rw [e2, e3, n3_s]
    refine ⟨(n3 (ssf (phw w e n) pg (k + 1)).1, n3 (ssf (phw w e n) pg (k + 1)).2, n3 (k + 1), wI (wI (wI N 21 4 (n3 (smN (phw w e n) k + phw w e n k))) 23 k (n3 (phw w e n k))) 24 k (n3 (ssf (phw w e n) pg (k + 1)).1)), rfl, rfl, rfl, rfl, ((hF.w rfl).w rfl).w rfl, h1, fun p hp => ?_, ?_⟩
    · dsimp only
      by_cases c : p = k
      · subst c
        rw [rd_eq, rd_ne (by decide), rd_eq]
        exact ⟨rfl, rfl⟩
      · refine ⟨?_, ?_⟩
        · rw [rd_ne (by decide), rd_nk c, rd_ne (by decide)]; exact (h2 p (by omega)).1
        · rw [rd_nk c, rd_ne (by decide), rd_ne (by decide)]; exact (h2 p (by omega)).2
    · dsimp only
      rw [rd_ne (by decide), rd_ne (by decide), rd_eq]
      rfl
  · rintro f ⟨x2, x3, x4, N⟩ ⟨rfl, rfl, rfl, hF, h1, h2, h3⟩
    dsimp only at hF h1 h2 h3 ⊢
    have h5 : N.1 12 5 = n3 (phc e n) := by rw [hF.2 _ _ rfl]; exact hP.1
    rw [Co_findSystems_L13, h5, if_pos (by rw [n3_le (by omega) (by omega)]; omega)]
    exact ⟨_, rfl, rfl, hF, h1, h2, h3⟩
