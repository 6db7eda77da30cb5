/-! What both sides answer of a line. -/
def wdS (t : Nat → Nat) (L : Nat) : Nat := (decide (0 < L)).toNat + cnt (fun i => Nat.beq (t i) 32) L
def loS (t : Nat → Nat) (L : Nat) : Nat := mxN (szS t L) (nsS t L)
/-- a text that may stand in a row -/
def VL (t : Nat → Nat) (L : Nat) : Prop := L ≤ 60 ∧ (L = 0 ∨ VT t L) ∧ ∀ i, t i < 128
theorem ns_le {t : Nat → Nat} {L : Nat} (h : VL t L) : nsS t L ≤ 30 := by
  unfold nsS
  split
  · omega
  · rcases h.2.1 with q | q
    · omega
    · exact VT_cs q h.1
theorem VL_ns {t : Nat → Nat} {L j : Nat} (h : VL t L) (hj : j < nsS t L) : VT t L ∧ j ≤ cse t L ∧ nsS t L = cse t L + 1 ∧ 0 < L := by
  unfold nsS at hj ⊢
  by_cases c : L = 0
  · rw [if_pos c] at hj; omega
  · rw [if_neg c] at hj ⊢
    rcases h.2.1 with q | q
    · omega
    · exact ⟨q, by omega, rfl, by omega⟩
theorem pk_bd {t : Nat → Nat} {L j : Nat} (h : VL t L) (hj : j < nsS t L) : sgS t L j < 128 ∧ szS t L j < 16 := by
  obtain ⟨a, b, -, -⟩ := VL_ns h hj
  have := (VT_sz a b).2.1
  exact ⟨h.2.2 _, by omega⟩
/-! class -/
theorem rowOf_n3 (v l : Nat) (M : hyM) : Ve_rowOf (n3 v) (n3 l) M = n3 (v * 24 + l) := by unfold Ve_rowOf; rw [l_24, n3_mul, n3_add]
theorem Ve_syl_ok {t : Nat → Nat} {L v l : Nat} {M : hyM} (h : VR t L (v * 24 + l) M) (hv : v < 4) (hl : l < 24) : Ve_syllablesOf (n3 v) (n3 l) M = n3 (nsS t L) := by
  unfold Ve_syllablesOf
  rw [rowOf_n3, atf_in _ (by omega) (by decide), h.1]
theorem Ve_pk_ok {t : Nat → Nat} {L v l j : Nat} {M : hyM} (h : VR t L (v * 24 + l) M) (hV : VL t L) (hv : v < 4) (hl : l < 24) (hj : j < nsS t L) : Ve_packedAt (n3 v) (n3 l) (n3 j) M = n3 (pkS t L j) := by
  have := ns_le hV
  unfold Ve_packedAt
  rw [rowOf_n3, l_30, n3_mul, n3_add, atf_in _ (by omega) (by decide), h.2 j hj]
theorem Ve_len_ok {t : Nat → Nat} {L v l j : Nat} {M : hyM} (h : VR t L (v * 24 + l) M) (hV : VL t L) (hv : v < 4) (hl : l < 24) (hj : j < nsS t L) : Ve_lengthAt (n3 v) (n3 l) (n3 j) M = n3 (szS t L j) := by
  obtain ⟨a, b⟩ := pk_bd hV hj
  unfold Ve_lengthAt
  rw [Ve_pk_ok h hV hv hl hj]
  exact pk_len ⟨_, a⟩ ⟨_, b⟩ _
theorem Ve_sig_ok {t : Nat → Nat} {L v l j : Nat} {M : hyM} (h : VR t L (v * 24 + l) M) (hV : VL t L) (hv : v < 4) (hl : l < 24) (hj : j < nsS t L) : Ve_signAt (n3 v) (n3 l) (n3 j) M = n3 (sgS t L j) := by
  obtain ⟨a, b⟩ := pk_bd hV hj
  unfold Ve_signAt
  rw [Ve_pk_ok h hV hv hl hj]
  exact pk_sig ⟨_, a⟩ ⟨_, b⟩ _
theorem Ve_lnk_ok {t : Nat → Nat} {L v l j : Nat} {M : hyM} (h : VR t L (v * 24 + l) M) (hV : VL t L) (hv : v < 4) (hl : l < 24) (hj : j < nsS t L) : Ve_isLinked (n3 v) (n3 l) (n3 j) M = lkS t L j := by
  obtain ⟨a, b⟩ := pk_bd hV hj
  unfold Ve_isLinked
  rw [Ve_pk_ok h hV hv hl hj]
  exact pk_lnk ⟨_, a⟩ ⟨_, b⟩ _
theorem Ve_words_ok {t : Nat → Nat} {L v l : Nat} {M : hyM} (h : VR t L (v * 24 + l) M) (hV : VL t L) (hv : v < 4) (hl : l < 24) : Ve_wordsOf (n3 v) (n3 l) M = some (n3 (cnt (fun j => !lkS t L j) (nsS t L))) := by
  have hn := ns_le hV
  have key := lpE (fun f (s : Int32 × Int32) => Ve_wordsOf_L5 (n3 v) (n3 l) M f s.1 s.2) (fun j => (n3 (cnt (fun j => !lkS t L j) j), n3 j)) (nsS t L) (n3 (cnt (fun j => !lkS t L j) (nsS t L)), n3 (nsS t L)) ?_ ?_ hyFu 0 (Nat.zero_le _) (hyFu_big (by omega))
  · dsimp only at key
    rw [Ve_wordsOf]
    rw [show n3 (cnt (fun j => !lkS t L j) 0) = 0 from rfl, show n3 0 = 0 from rfl] at key
    rw [key]
    rfl
  · intro f k hk
    dsimp only
    rw [Ve_wordsOf_L5, Ve_syl_ok h hv hl, if_neg (by rw [n3_le (by omega) (by omega)]; omega), Ve_lnk_ok h hV hv hl hk]
    unfold Hp_flag
    rw [bI_n3, n3_add, l_1, n3_add]
    rfl
  · intro f
    dsimp only
    rw [Ve_wordsOf_L5, Ve_syl_ok h hv hl, if_pos (by rw [n3_le (by omega) (by omega)]; omega)]
theorem Ve_longest_ok {t : Nat → Nat} {L v l : Nat} {M : hyM} (h : VR t L (v * 24 + l) M) (hV : VL t L) (hv : v < 4) (hl : l < 24) : Ve_longestOf (n3 v) (n3 l) M = some (n3 (loS t L)) := by
  have hn := ns_le hV
  have hb : ∀ k, k ≤ nsS t L → mxN (szS t L) k ≤ 16 := fun k hk => mxN_le (fun i hi => by have := (pk_bd hV (show i < nsS t L by omega)).2; omega)
  have key := lpE (fun f (s : Int32 × Int32) => Ve_longestOf_L5 (n3 v) (n3 l) M f s.1 s.2) (fun j => (n3 (mxN (szS t L) j), n3 j)) (nsS t L) (n3 (loS t L), n3 (nsS t L)) ?_ ?_ hyFu 0 (Nat.zero_le _) (hyFu_big (by omega))
  · dsimp only at key
    rw [Ve_longestOf]
    rw [show n3 (mxN (szS t L) 0) = 0 from rfl, show n3 0 = 0 from rfl] at key
    rw [key]
    rfl
  · intro f k hk
    have b1 := hb k (by omega)
    have b2 := (pk_bd hV hk).2
    dsimp only
    rw [Ve_longestOf_L5, Ve_syl_ok h hv hl, if_neg (by rw [n3_le (by omega) (by omega)]; omega), Ve_len_ok h hV hv hl hk, jmax_n3 (by omega) (by omega), l_1, n3_add]
    rfl
  · intro f
    dsimp only
    rw [Ve_longestOf_L5, Ve_syl_ok h hv hl, if_pos (by rw [n3_le (by omega) (by omega)]; omega)]
    rfl
/-- the words, counted by syllables -/
theorem words_eq {t : Nat → Nat} {L : Nat} (h : VL t L) : cnt (fun j => !lkS t L j) (nsS t L) = wdS t L := by
  by_cases c : L = 0
  · subst c; rfl
  · obtain ⟨hv, -, hn, hp⟩ := VL_ns (j := 0) h (by unfold nsS; rw [if_neg c]; omega)
    have key : ∀ k, k ≤ L → cnt (fun j => !lkS t L j) (cse t k) = cnt (fun i => Nat.beq (t i) 32) k := by
      intro k
      induction k with
      | zero => intro _; rfl
      | succ k ih =>
        intro hk
        have := ih (by omega)
        rcases hv.1 k (by omega) with g | g
        · have hs : sep t k = false := by unfold sep; rw [g.1]; rfl
          have h32 : Nat.beq (t k) 32 = false := by
            cases q : Nat.beq (t k) 32 with
            | false => rfl
            | true =>
              have e := ltr_sep ⟨t k, h.2.2 k⟩ (Or.inl (Nat.eq_of_beq_eq_true q))
              dsimp only at e
              rw [g.1] at e; cases e
          rw [cse_s, hs, cnt, h32]
          exact this
        · have hs : sep t k = true := by unfold sep; rw [g.1]; rfl
          have hep : ep t L (cse t k) = k := ep_of (by omega) (by unfold sepE; rw [hs, Bool.or_true])
          have hlk : lkS t L (cse t k) = Nat.beq (t k) 45 := by
            unfold lkS
            rw [hep]
            have : decide (k < L) = true := by simp; omega
            rw [this, Bool.true_and]
          rw [cse_s, hs, show cse t k + true.toNat = cse t k + 1 from rfl, cnt, cnt, this, hlk]
          congr 2
          rcases g.2.1 with q | q <;> rw [q] <;> rfl
    have hep : ep t L (cse t L) = L := ep_of (Nat.le_refl _) (by simp [sepE])
    have hlk : lkS t L (cse t L) = false := by
      unfold lkS
      rw [hep]
      simp
    rw [hn, cnt, key L (Nat.le_refl _), hlk]
    unfold wdS
    have : decide (0 < L) = true := by simpa using hp
    rw [this]
    simp
    omega
