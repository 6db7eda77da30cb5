/-! Syllables of a line's text, by their numbers. -/
/-- a separator, or the text's end -/
def sepE (t : Nat → Nat) (L i : Nat) : Bool := Nat.beq i L || sep t i
def ep (t : Nat → Nat) (L j : Nat) : Nat := laN (fun i => sepE t L i && Nat.beq (cse t i) j) (L + 1)
def szS (t : Nat → Nat) (L j : Nat) : Nat := ep t L j - bc t (ep t L j)
def sgS (t : Nat → Nat) (L j : Nat) : Nat := t (bc t (ep t L j))
def lkS (t : Nat → Nat) (L j : Nat) : Bool := decide (ep t L j < L) && Nat.beq (t (ep t L j)) 45
def nsS (t : Nat → Nat) (L : Nat) : Nat := if L = 0 then 0 else cse t L + 1
def pkS (t : Nat → Nat) (L j : Nat) : Nat := sgS t L j + szS t L j * 128 + (lkS t L j).toNat * 2048
theorem cse_s (t : Nat → Nat) (k : Nat) : cse t (k + 1) = cse t k + (sep t k).toNat := rfl
theorem cse_mono {t : Nat → Nat} {j k : Nat} (h : j ≤ k) : cse t j ≤ cse t k := cnt_mono _ h
theorem ep_of {t : Nat → Nat} {L i : Nat} (hi : i ≤ L) (hs : sepE t L i = true) : ep t L (cse t i) = i := by
  refine laN_eq (by omega) (by simp [hs]) (fun j h1 h2 => ?_)
  have hil : i < L := by omega
  have : sep t i = true := by
    unfold sepE at hs
    rcases Bool.or_eq_true_iff.mp hs with h | h
    · have := Nat.eq_of_beq_eq_true h; omega
    · exact h
  have h3 := cnt_lt (sep t) h1 this
  have h4 : Nat.beq (cse t j) (cse t i) = false := by
    cases h5 : Nat.beq (cse t j) (cse t i) with
    | false => rfl
    | true => have := Nat.eq_of_beq_eq_true h5; unfold cse at this; omega
  simp [h4]
theorem sep_sur {t : Nat → Nat} {k j : Nat} (h : j < cse t k) : ∃ i, i < k ∧ sep t i = true ∧ cse t i = j := by
  induction k with
  | zero => exact absurd h (Nat.not_lt_zero _)
  | succ k ih =>
    rw [cse_s] at h
    cases c : sep t k with
    | true =>
      rw [c] at h
      by_cases e : j = cse t k
      · exact ⟨k, by omega, c, e.symm⟩
      · obtain ⟨i, a, b, d⟩ := ih (by simp at h; omega)
        exact ⟨i, by omega, b, d⟩
    | false =>
      rw [c] at h
      obtain ⟨i, a, b, d⟩ := ih (by simpa using h)
      exact ⟨i, by omega, b, d⟩
theorem ep_spec {t : Nat → Nat} {L j : Nat} (h : j ≤ cse t L) : ep t L j ≤ L ∧ sepE t L (ep t L j) = true ∧ cse t (ep t L j) = j := by
  have : ∃ i, i < L + 1 ∧ (sepE t L i && Nat.beq (cse t i) j) = true := by
    by_cases c : j = cse t L
    · refine ⟨L, by omega, ?_⟩
      subst c
      simp [sepE]
    · obtain ⟨i, a, b, d⟩ := sep_sur (show j < cse t L by omega)
      refine ⟨i, by omega, ?_⟩
      subst d
      simp [sepE, b]
  obtain ⟨a, b, -⟩ := laN_spec this
  rw [Bool.and_eq_true] at b
  exact ⟨by unfold ep; omega, b.1, Nat.eq_of_beq_eq_true b.2⟩
theorem bc_cse (t : Nat → Nat) (k : Nat) : cse t (bc t k) = cse t k := by
  induction k with
  | zero => rfl
  | succ k ih =>
    rw [bc]
    cases c : sep t k with
    | true => rw [if_pos rfl]
    | false => rw [if_neg (by decide), ih, cse_s, c]; rfl
theorem bc_lt {t : Nat → Nat} {j k : Nat} (h : j < bc t k) : cse t j < cse t k := by
  induction k with
  | zero => exact absurd h (Nat.not_lt_zero _)
  | succ k ih =>
    rw [bc] at h
    cases c : sep t k with
    | true =>
      rw [c, if_pos rfl] at h
      rw [cse_s, c]
      have := cse_mono (t := t) (show j ≤ k by omega)
      simp; omega
    | false =>
      rw [c, if_neg (by decide)] at h
      rw [cse_s, c]
      exact ih h
theorem bc_in {t : Nat → Nat} {j k : Nat} (h1 : bc t k ≤ j) (h2 : j < k) : sep t j = false := by
  induction k with
  | zero => omega
  | succ k ih =>
    rw [bc] at h1
    cases c : sep t k with
    | true => rw [c, if_pos rfl] at h1; omega
    | false =>
      rw [c, if_neg (by decide)] at h1
      by_cases e : j = k
      · subst e; exact c
      · exact ih h1 (by omega)
/-- what a valid text says at its separators, and of its syllables -/
theorem VT_sep {t : Nat → Nat} {L i : Nat} (h : VT t L) (hi : i ≤ L) (hs : sepE t L i = true) : bc t i < i ∧ i - bc t i ≤ 12 ∧ (i < L → t i = 32 ∨ t i = 45) := by
  have hb : bc t i < i ∧ (i < L → t i = 32 ∨ t i = 45) := by
    by_cases c : i = L
    · subst c; exact ⟨h.2, fun q => by omega⟩
    · have hs2 : sep t i = true := by
        unfold sepE at hs
        rcases Bool.or_eq_true_iff.mp hs with g | g
        · have := Nat.eq_of_beq_eq_true g; omega
        · exact g
      rcases h.1 i (by omega) with g | g
      · unfold sep at hs2; rw [g.1] at hs2; cases hs2
      · exact ⟨g.2.2, fun _ => g.2.1⟩
  refine ⟨hb.1, ?_, hb.2⟩
  obtain ⟨j, rfl⟩ : ∃ j, i = j + 1 := ⟨i - 1, by omega⟩
  have hsj : sep t j = false := bc_in (k := j + 1) (by omega) (by omega)
  have e : bc t (j + 1) = bc t j := by rw [bc, hsj, if_neg (by decide)]
  rcases h.1 j (by omega) with g | g
  · omega
  · unfold sep at hsj; rw [g.1] at hsj; cases hsj
theorem VT_ns {t : Nat → Nat} {L : Nat} (h : VT t L) : ∀ k, k ≤ L → 2 * cse t k + (k - bc t k) ≤ k := by
  intro k
  induction k with
  | zero => intro _; exact Nat.le_refl 0
  | succ k ih =>
    intro hk
    have := ih (by omega)
    have hb := bc_le t k
    rw [cse_s, bc]
    rcases h.1 k (by omega) with g | g
    · have : sep t k = false := by unfold sep; rw [g.1]; rfl
      rw [this, if_neg (by decide)]
      simp; omega
    · have : sep t k = true := by unfold sep; rw [g.1]; rfl
      rw [this, if_pos rfl]
      simp; omega
theorem VT_cs {t : Nat → Nat} {L : Nat} (h : VT t L) (hL : L ≤ 60) : cse t L + 1 ≤ 30 := by
  have h1 := VT_ns h L (Nat.le_refl _)
  have h2 := h.2
  omega
theorem VT_sz {t : Nat → Nat} {L j : Nat} (h : VT t L) (hj : j ≤ cse t L) : 0 < szS t L j ∧ szS t L j ≤ 12 ∧ ltr (sgS t L j) = true := by
  obtain ⟨a, b, c⟩ := ep_spec hj
  obtain ⟨d, e, -⟩ := VT_sep h a b
  have := bc_in (t := t) (Nat.le_refl _) d
  unfold sep at this
  unfold szS sgS
  exact ⟨by omega, e, by simpa using this⟩
/-! the class's rows -/
theorem pk_len : ∀ s : Fin 128, ∀ z : Fin 16, ∀ b : Bool, ((n3 (s.val + z.val * 128 + b.toNat * 2048)) >>> ((7 : Int32) &&& 31)) &&& 15 = n3 z.val := by decide +kernel
theorem pk_sig : ∀ s : Fin 128, ∀ z : Fin 16, ∀ b : Bool, (n3 (s.val + z.val * 128 + b.toNat * 2048)) &&& 127 = n3 s.val := by decide +kernel
theorem pk_lnk : ∀ s : Fin 128, ∀ z : Fin 16, ∀ b : Bool, (!decide (((n3 (s.val + z.val * 128 + b.toNat * 2048)) >>> ((11 : Int32) &&& 31)) = 0)) = b := by decide +kernel
theorem pk_mk : ∀ z : Fin 16, (n3 z.val) <<< ((7 : Int32) &&& 31) = n3 (z.val * 128) := by decide +kernel
theorem pk_mb : ∀ b : Bool, (bI b) <<< ((11 : Int32) &&& 31) = n3 (b.toNat * 2048) := by decide +kernel
/-- a row of the class's verses holds the text (t, L) -/
def VR (t : Nat → Nat) (L r : Nat) (M : hyM) : Prop := M.1 10 r = n3 (nsS t L) ∧ ∀ j, j < nsS t L → M.1 11 (r * 30 + j) = n3 (pkS t L j)
theorem Ve_push_eq {r k s z : Nat} {b : Bool} {M : hyM} (h : M.1 10 r = n3 k) (hr : r < 96) (hk : k < 30) (hs : s < 128) (hz : z < 16) :
    Ve_push (n3 r) (n3 s) (n3 z) b M = wI (wI M 11 (r * 30 + k) (n3 (s + z * 128 + b.toNat * 2048))) 10 r (n3 (k + 1)) := by
  unfold Ve_push Hp_flag
  have e := pk_mk ⟨z, hz⟩
  dsimp only at e
  rw [atf_in _ hr (by decide), h, e, pk_mb b, l_30, n3_mul, n3_add, n3_add, n3_add, putf_in _ _ _ (by omega) (by decide), putf_in _ _ _ (by omega) (by decide), n3_s]
def vcel (c _ : Nat) : Bool := Nat.beq c 10 || Nat.beq c 11
theorem Ve_take_ok {t : Nat → Nat} {L v l : Nat} {M : hyM} (h : inb_ t L M) (hc : VT t L) (hv : v < 4) (hl : l < 24) :
    ∃ M', Ve_take (n3 v) (n3 l) M = some M' ∧ frm vcel M M' ∧ VR t L (v * 24 + l) M' ∧ ∀ r, r ≠ v * 24 + l → M'.1 10 r = M.1 10 r ∧ ∀ j, j < 30 → M'.1 11 (r * 30 + j) = M.1 11 (r * 30 + j) := by
  have hrow : Ve_rowOf (n3 v) (n3 l) M = n3 (v * 24 + l) := by unfold Ve_rowOf; rw [l_24, n3_mul, n3_add]
  have hL := h.1
  have hcs := VT_cs hc hL
  generalize hr : v * 24 + l = r at hrow
  have hr96 : r < 96 := by omega
  have key := lpI (σ := Int32 × Int32 × Int32 × hyM) (fun f s => Ve_take_L27 (n3 v) (n3 l) M f s.1 s.2.1 s.2.2.1 s.2.2.2)
    (fun k s => (∃ x, s.1 = n3 x ∧ x < 128 ∧ (bc t k < k → x = t (bc t k))) ∧ s.2.1 = n3 (k - bc t k) ∧ s.2.2.1 = n3 k ∧ frm vcel M s.2.2.2 ∧ s.2.2.2.1 10 r = n3 (cse t k) ∧ (∀ j, j < cse t k → s.2.2.2.1 11 (r * 30 + j) = n3 (pkS t L j)) ∧ ∀ r', r' ≠ r → s.2.2.2.1 10 r' = M.1 10 r' ∧ ∀ j, j < 30 → s.2.2.2.1 11 (r' * 30 + j) = M.1 11 (r' * 30 + j)) L
    (fun s => (∃ x, s.1 = n3 x ∧ x < 128 ∧ (bc t L < L → x = t (bc t L))) ∧ s.2.1 = n3 (L - bc t L) ∧ frm vcel M s.2.2.2 ∧ s.2.2.2.1 10 r = n3 (cse t L) ∧ (∀ j, j < cse t L → s.2.2.2.1 11 (r * 30 + j) = n3 (pkS t L j)) ∧ ∀ r', r' ≠ r → s.2.2.2.1 10 r' = M.1 10 r' ∧ ∀ j, j < 30 → s.2.2.2.1 11 (r' * 30 + j) = M.1 11 (r' * 30 + j))
    ?_ ?_ hyFu 0 (n3 0, n3 0, n3 0, wI M 10 r 0) (Nat.zero_le _) (hyFu_big (by omega)) ⟨⟨0, rfl, by decide, fun q => absurd q (Nat.not_lt_zero _)⟩, rfl, rfl, (frm.rf _ _).w rfl, by rw [rd_eq]; rfl, fun j hj => absurd hj (Nat.not_lt_zero _), fun r' hr' => ⟨by rw [rd_nk hr'], fun j _ => by rw [rd_ne (by decide)]⟩⟩
  · obtain ⟨⟨a, b, c, N⟩, e0, ⟨x, e1, e2, e3⟩, e4, e5, e6, e7, e8⟩ := key
    dsimp only at e0 e1 e4 e5 e6 e7 e8
    have hLb := hc.2
    have h12 := (VT_sep hc (Nat.le_refl L) (by simp [sepE])).2.1
    have hx := e3 hLb
    have hep : ep t L (cse t L) = L := ep_of (Nat.le_refl _) (by simp [sepE])
    have hns : nsS t L = cse t L + 1 := by unfold nsS; rw [if_neg (by omega)]
    have e10 : Ve_push (n3 r) a b false N = wI (wI N 11 (r * 30 + cse t L) (n3 (x + (L - bc t L) * 128 + false.toNat * 2048))) 10 r (n3 (cse t L + 1)) := by
      rw [e1, e4, Ve_push_eq e6 hr96 (by omega) e2 (by omega)]
    refine ⟨wI (wI N 11 (r * 30 + cse t L) (n3 (x + (L - bc t L) * 128 + false.toNat * 2048))) 10 r (n3 (cse t L + 1)), ?_, (e5.w rfl).w rfl, ⟨?_, fun j hj => ?_⟩, fun r' hr' => ⟨?_, fun j hj => ?_⟩⟩
    · rw [Ve_take, hrow, putf_in _ _ _ hr96 (by decide), Option.bind_some, show (0 : Int32) = n3 0 from rfl]
      rw [show (0 : Int32) = n3 0 from rfl] at e0
      rw [e0, Option.bind_some]
      dsimp only
      rw [e10]
      rfl
    · rw [rd_eq, hns]
    · rw [hns] at hj
      rw [rd_ne (by decide)]
      by_cases q : j = cse t L
      · subst q
        rw [rd_eq]
        congr 1
        unfold pkS sgS szS lkS
        rw [hep, ← hx]
        simp
      · rw [rd_nk (by omega)]; exact e7 j (by omega)
    · rw [rd_nk hr', rd_ne (by decide)]; exact (e8 r' hr').1
    · rw [rd_ne (by decide), rd_nk (by omega)]; exact (e8 r' hr').2 j hj
  · rintro f k ⟨x2, x3, x4, M5⟩ hk ⟨⟨x, e1, e2, e3⟩, e4, rfl, hF, e6, e7, e8⟩
    refine Or.inl ?_
    dsimp only at e1 e4 hF e6 e7 e8 ⊢
    subst e1 e4
    have hi : inb_ t L M5 := ⟨h.1, by rw [hF.2 _ _ rfl]; exact h.2.1, fun i => by rw [hF.2 _ _ rfl]; exact h.2.2.1 i, h.2.2.2⟩
    have ht := h.2.2.2 k
    have hb := bc_le t k
    rw [Ve_take_L27, hi.2.1, if_neg (by rw [n3_le (by omega) (by omega)]; omega), In_codeAt_eq hi (by omega), isOf_eq ht]
    rcases hc.1 k hk with g | g
    · have hs : sep t k = false := by unfold sep; rw [g.1]; rfl
      rw [g.1, if_pos rfl, l_1, n3_add, n3_add, l_0, ite_eq (by omega) (by omega)]
      have eb : bc t (k + 1) = bc t k := by rw [bc, hs, if_neg (by decide)]
      have ec : cse t (k + 1) = cse t k := by rw [cse_s, hs]; rfl
      refine ⟨(if k - bc t k = 0 then n3 (t k) else n3 x, n3 (k - bc t k + 1), n3 (k + 1), M5), rfl, ?_, ?_, rfl, hF, ?_, ?_, e8⟩
      · show ∃ y, (if k - bc t k = 0 then n3 (t k) else n3 x) = n3 y ∧ _
        by_cases q : k - bc t k = 0
        · rw [if_pos q]
          exact ⟨_, rfl, ht, fun _ => by rw [eb]; congr 1; omega⟩
        · rw [if_neg q]
          exact ⟨_, rfl, e2, fun _ => by rw [eb]; exact e3 (by omega)⟩
      · dsimp only; rw [eb]; congr 1; omega
      · rw [ec]; exact e6
      · rw [ec]; exact e7
    · have hs : sep t k = true := by unfold sep; rw [g.1]; rfl
      have hsE : sepE t L k = true := by unfold sepE; rw [hs, Bool.or_true]
      have h12 := (VT_sep hc (Nat.le_of_lt hk) hsE).2.1
      have hcl : cse t k < cse t L := cnt_lt (sep t) hk hs
      have eb : bc t (k + 1) = k + 1 := by rw [bc, hs, if_pos rfl]
      have ec : cse t (k + 1) = cse t k + 1 := by rw [cse_s, hs]; rfl
      have hep : ep t L (cse t k) = k := ep_of (Nat.le_of_lt hk) hsE
      have hx := e3 g.2.2
      rw [g.1, if_neg (by decide), hrow, Ve_push_eq e6 hr96 (by omega) e2 (by omega), Option.bind_some, l_1, n3_add, l_45, dec_eq (by omega) (by omega)]
      refine ⟨(n3 x, n3 0, n3 (k + 1), wI (wI M5 11 (r * 30 + cse t k) (n3 (x + (k - bc t k) * 128 + (decide (t k = 45)).toNat * 2048))) 10 r (n3 (cse t k + 1))), rfl, ⟨x, rfl, e2, fun q => by rw [eb] at q; omega⟩, ?_, rfl, (hF.w rfl).w rfl, ?_, fun j hj => ?_, fun r' hr' => ⟨?_, fun j hj => ?_⟩⟩
      · dsimp only; rw [eb, Nat.sub_self]
      · dsimp only; rw [rd_eq, ec]
      · dsimp only; rw [rd_ne (by decide)]
        by_cases q : j = cse t k
        · subst q
          rw [rd_eq]
          congr 1
          unfold pkS sgS szS lkS
          rw [hep, ← hx]
          have : decide (k < L) = true := by simpa using hk
          rw [this, Bool.true_and]
          congr 2
          by_cases q2 : t k = 45
          · simp [q2]
          · have : Nat.beq (t k) 45 = false := by
              cases q3 : Nat.beq (t k) 45 with
              | false => rfl
              | true => exact absurd (Nat.eq_of_beq_eq_true q3) q2
            simp [q2, this]
        · rw [rd_nk (by omega)]; exact e7 j (by omega)
      · dsimp only; rw [rd_nk hr', rd_ne (by decide)]; exact (e8 r' hr').1
      · dsimp only; rw [rd_ne (by decide), rd_nk (by omega)]; exact (e8 r' hr').2 j hj
  · rintro f ⟨x2, x3, x4, M5⟩ ⟨e1, e4, rfl, hF, e6, e7, e8⟩
    dsimp only at e1 e4 hF e6 e7 e8 ⊢
    have hi : M5.1 28 1 = n3 L := by rw [hF.2 _ _ rfl]; exact h.2.1
    rw [Ve_take_L27, hi, if_pos (by rw [n3_le (by omega) (by omega)]; omega)]
    exact ⟨_, rfl, e1, e4, hF, e6, e7, e8⟩
