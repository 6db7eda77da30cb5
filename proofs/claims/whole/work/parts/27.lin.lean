/-! What both sides answer of a line. -/
def wdS (t : Nat → Nat) (L : Nat) : Nat := (decide (0 < L)).toNat + cnt (fun i => Nat.beq (t i) 32) L
def loS (t : Nat → Nat) (L : Nat) : Nat := mxN (szS t L) (nsS t L)
/-- a text that may stand in a row -/
def VL (t : Nat → Nat) (L : Nat) : Prop := L ≤ 60 ∧ (L = 0 ∨ VT t L) ∧ ∀ i, t i < 128
theorem ns_le {t : Nat → Nat} {L : Nat} (h : VL t L) : nsS t L ≤ 30 := by
  unfold nsS
  split
  · omega
  · rcases h.2.1 with q | q
    · omega
    · exact VT_cs q h.1
theorem VL_ns {t : Nat → Nat} {L j : Nat} (h : VL t L) (hj : j < nsS t L) : VT t L ∧ j ≤ cse t L ∧ nsS t L = cse t L + 1 ∧ 0 < L := by
  unfold nsS at hj ⊢
  by_cases c : L = 0
  · rw [if_pos c] at hj; omega
  · rw [if_neg c] at hj ⊢
    rcases h.2.1 with q | q
    · omega
    · exact ⟨q, by omega, rfl, by omega⟩
theorem pk_bd {t : Nat → Nat} {L j : Nat} (h : VL t L) (hj : j < nsS t L) : sgS t L j < 128 ∧ szS t L j < 16 := by
  obtain ⟨a, b, -, -⟩ := VL_ns h hj
  have := (VT_sz a b).2.1
  exact ⟨h.2.2 _, by omega⟩
/-! class -/
theorem rowOf_n3 (v l : Nat) (M : hyM) : Ve_rowOf (n3 v) (n3 l) M = n3 (v * 24 + l) := by unfold Ve_rowOf; rw [l_24, n3_mul, n3_add]
theorem Ve_syl_ok {t : Nat → Nat} {L v l : Nat} {M : hyM} (h : VR t L (v * 24 + l) M) (hv : v < 4) (hl : l < 24) : Ve_syllablesOf (n3 v) (n3 l) M = n3 (nsS t L) := by
  unfold Ve_syllablesOf
  rw [rowOf_n3, atf_in _ (by omega) (by decide), h.1]
theorem Ve_pk_ok {t : Nat → Nat} {L v l j : Nat} {M : hyM} (h : VR t L (v * 24 + l) M) (hV : VL t L) (hv : v < 4) (hl : l < 24) (hj : j < nsS t L) : Ve_packedAt (n3 v) (n3 l) (n3 j) M = n3 (pkS t L j) := by
  have := ns_le hV
  unfold Ve_packedAt
  rw [rowOf_n3, l_30, n3_mul, n3_add, atf_in _ (by omega) (by decide), h.2 j hj]
theorem Ve_len_ok {t : Nat → Nat} {L v l j : Nat} {M : hyM} (h : VR t L (v * 24 + l) M) (hV : VL t L) (hv : v < 4) (hl : l < 24) (hj : j < nsS t L) : Ve_lengthAt (n3 v) (n3 l) (n3 j) M = n3 (szS t L j) := by
  obtain ⟨a, b⟩ := pk_bd hV hj
  unfold Ve_lengthAt
  rw [Ve_pk_ok h hV hv hl hj]
  exact pk_len ⟨_, a⟩ ⟨_, b⟩ _
theorem Ve_sig_ok {t : Nat → Nat} {L v l j : Nat} {M : hyM} (h : VR t L (v * 24 + l) M) (hV : VL t L) (hv : v < 4) (hl : l < 24) (hj : j < nsS t L) : Ve_signAt (n3 v) (n3 l) (n3 j) M = n3 (sgS t L j) := by
  obtain ⟨a, b⟩ := pk_bd hV hj
  unfold Ve_signAt
  rw [Ve_pk_ok h hV hv hl hj]
  exact pk_sig ⟨_, a⟩ ⟨_, b⟩ _
theorem Ve_lnk_ok {t : Nat → Nat} {L v l j : Nat} {M : hyM} (h : VR t L (v * 24 + l) M) (hV : VL t L) (hv : v < 4) (hl : l < 24) (hj : j < nsS t L) : Ve_isLinked (n3 v) (n3 l) (n3 j) M = lkS t L j := by
  obtain ⟨a, b⟩ := pk_bd hV hj
  unfold Ve_isLinked
  rw [Ve_pk_ok h hV hv hl hj]
  exact pk_lnk ⟨_, a⟩ ⟨_, b⟩ _
theorem Ve_words_ok {t : Nat → Nat} {L v l : Nat} {M : hyM} (h : VR t L (v * 24 + l) M) (hV : VL t L) (hv : v < 4) (hl : l < 24) : Ve_wordsOf (n3 v) (n3 l) M = some (n3 (cnt (fun j => !lkS t L j) (nsS t L))) := by
  have hn := ns_le hV
  have key := lpE (fun f (s : Int32 × Int32) => Ve_wordsOf_L5 (n3 v) (n3 l) M f s.1 s.2) (fun j => (n3 (cnt (fun j => !lkS t L j) j), n3 j)) (nsS t L) (n3 (cnt (fun j => !lkS t L j) (nsS t L)), n3 (nsS t L)) ?_ ?_ hyFu 0 (Nat.zero_le _) (hyFu_big (by omega))
  · dsimp only at key
    rw [Ve_wordsOf]
    rw [show n3 (cnt (fun j => !lkS t L j) 0) = 0 from rfl, show n3 0 = 0 from rfl] at key
    rw [key]
    rfl
  · intro f k hk
    dsimp only
    rw [Ve_wordsOf_L5, Ve_syl_ok h hv hl, if_neg (by rw [n3_le (by omega) (by omega)]; omega), Ve_lnk_ok h hV hv hl hk]
    unfold Hp_flag
    rw [bI_n3, n3_add, l_1, n3_add]
    rfl
  · intro f
    dsimp only
    rw [Ve_wordsOf_L5, Ve_syl_ok h hv hl, if_pos (by rw [n3_le (by omega) (by omega)]; omega)]
theorem Ve_longest_ok {t : Nat → Nat} {L v l : Nat} {M : hyM} (h : VR t L (v * 24 + l) M) (hV : VL t L) (hv : v < 4) (hl : l < 24) : Ve_longestOf (n3 v) (n3 l) M = some (n3 (loS t L)) := by
  have hn := ns_le hV
  have hb : ∀ k, k ≤ nsS t L → mxN (szS t L) k ≤ 16 := fun k hk => mxN_le (fun i hi => by have := (pk_bd hV (show i < nsS t L by omega)).2; omega)
  have key := lpE (fun f (s : Int32 × Int32) => Ve_longestOf_L5 (n3 v) (n3 l) M f s.1 s.2) (fun j => (n3 (mxN (szS t L) j), n3 j)) (nsS t L) (n3 (loS t L), n3 (nsS t L)) ?_ ?_ hyFu 0 (Nat.zero_le _) (hyFu_big (by omega))
  · dsimp only at key
    rw [Ve_longestOf]
    rw [show n3 (mxN (szS t L) 0) = 0 from rfl, show n3 0 = 0 from rfl] at key
    rw [key]
    rfl
  · intro f k hk
    have b1 := hb k (by omega)
    have b2 := (pk_bd hV hk).2
    dsimp only
    rw [Ve_longestOf_L5, Ve_syl_ok h hv hl, if_neg (by rw [n3_le (by omega) (by omega)]; omega), Ve_len_ok h hV hv hl hk, jmax_n3 (by omega) (by omega), l_1, n3_add]
    rfl
  · intro f
    dsimp only
    rw [Ve_longestOf_L5, Ve_syl_ok h hv hl, if_pos (by rw [n3_le (by omega) (by omega)]; omega)]
    rfl
/-- the words, counted by syllables -/
theorem words_eq {t : Nat → Nat} {L : Nat} (h : VL t L) : cnt (fun j => !lkS t L j) (nsS t L) = wdS t L := by
  by_cases c : L = 0
  · subst c; rfl
  · obtain ⟨hv, -, hn, hp⟩ := VL_ns (j := 0) h (by unfold nsS; rw [if_neg c]; omega)
    have key : ∀ k, k ≤ L → cnt (fun j => !lkS t L j) (cse t k) = cnt (fun i => Nat.beq (t i) 32) k := by
      intro k
      induction k with
      | zero => intro _; rfl
      | succ k ih =>
        intro hk
        have := ih (by omega)
        rcases hv.1 k (by omega) with g | g
        · have hs : sep t k = false := by unfold sep; rw [g.1]; rfl
          have h32 : Nat.beq (t k) 32 = false := by
            cases q : Nat.beq (t k) 32 with
            | false => rfl
            | true =>
              have e := ltr_sep ⟨t k, h.2.2 k⟩ (Or.inl (Nat.eq_of_beq_eq_true q))
              dsimp only at e
              rw [g.1] at e; cases e
          rw [cse_s, hs, cnt, h32]
          exact this
        · have hs : sep t k = true := by unfold sep; rw [g.1]; rfl
          have hep : ep t L (cse t k) = k := ep_of (by omega) (by unfold sepE; rw [hs, Bool.or_true])
          have hlk : lkS t L (cse t k) = Nat.beq (t k) 45 := by
            unfold lkS
            rw [hep]
            have : decide (k < L) = true := by simp; omega
            rw [this, Bool.true_and]
          rw [cse_s, hs, show cse t k + true.toNat = cse t k + 1 from rfl, cnt, cnt, this, hlk]
          congr 2
          rcases g.2.1 with q | q <;> rw [q] <;> rfl
    have hep : ep t L (cse t L) = L := ep_of (Nat.le_refl _) (by simp [sepE])
    have hlk : lkS t L (cse t L) = false := by
      unfold lkS
      rw [hep]
      simp
    rw [hn, cnt, key L (Nat.le_refl _), hlk]
    unfold wdS
    have : decide (0 < L) = true := by simpa using hp
    rw [this]
    simp
    omega
/-! reference -/
def RT (t : Nat → Nat) (L r : Nat) (M : hyM) : Prop := M.1 38 r = n3 L ∧ ∀ i, M.1 39 (60 * r + i) = n3 (t i)
theorem Rf_sign_ok {t : Nat → Nat} {L r k : Nat} {M : hyM} (h : RT t L r M) (hr : r < 96) (hk : k < 60) : Rf_sign (n3 r) (n3 k) M = some (n3 (t k)) := by
  rw [Rf_sign, l_60, n3_mul, n3_add, ldE_in _ (by omega) (by decide), Option.bind_some, h.2]
theorem Rf_counts_gen {t : Nat → Nat} {L r w : Nat} {M : hyM} (h : RT t L r M) (hV : VL t L) (hr : r < 96) (hw : w < 1000) :
    Rf_counts (n3 r) (n3 w) M = some (n3 ((decide (0 < L)).toNat + cnt (fun i => Nat.beq (t i) 32 || (Nat.beq (t i) 45 && Nat.beq w 0)) L)) := by
  have hL := hV.1
  have key := lpE (fun f (s : Int32 × Int32) => Rf_counts_L18 (n3 r) (n3 w) M f s.1 s.2) (fun k => (n3 ((decide (0 < L)).toNat + cnt (fun i => Nat.beq (t i) 32 || (Nat.beq (t i) 45 && Nat.beq w 0)) k), n3 k)) L (n3 ((decide (0 < L)).toNat + cnt (fun i => Nat.beq (t i) 32 || (Nat.beq (t i) 45 && Nat.beq w 0)) L), n3 L) ?_ ?_ hyFu 0 (Nat.zero_le _) (hyFu_big (by omega))
  · dsimp only at key
    rw [Rf_counts, ldE_in _ hr (by decide), Option.bind_some, h.1]
    have e : bI (!decide (n3 L ≤ 0)) = n3 ((decide (0 < L)).toNat + cnt (fun i => Nat.beq (t i) 32 || (Nat.beq (t i) 45 && Nat.beq w 0)) 0) := by
      rw [bI_n3, l_0]
      have : (n3 L ≤ n3 0) = (L ≤ 0) := n3_le (by omega) (by omega)
      congr 1
      simp only [this]
      by_cases c : L = 0
      · subst c; rfl
      · have : 0 < L := by omega
        simp [cnt, this, c]
    rw [e, show (0 : Int32) = n3 0 from rfl, key]
    rfl
  · intro f k hk
    have ht := hV.2.2 k
    dsimp only
    rw [Rf_counts_L18, ldE_in _ hr (by decide), Option.bind_some, h.1, if_neg (by rw [n3_le (by omega) (by omega)]; omega), Rf_sign_ok h hr (by omega), Option.bind_some]
    have e : (if n3 (t k) = 32 then true else if n3 (t k) = 45 then decide (n3 w = 0) else false) = (Nat.beq (t k) 32 || (Nat.beq (t k) 45 && Nat.beq w 0)) := by
      rw [l_32, l_45, l_0, ite_eq (by omega) (by omega), ite_eq (by omega) (by omega)]
      have e3 : (n3 w = n3 0) = (w = 0) := n3_eq (by omega) (by omega)
      simp only [e3]
      by_cases a : t k = 32
      · simp [a]
      · have a2 : Nat.beq (t k) 32 = false := by
          cases q : Nat.beq (t k) 32 with
          | false => rfl
          | true => exact absurd (Nat.eq_of_beq_eq_true q) a
        rw [if_neg a, a2]
        by_cases b : t k = 45
        · rw [if_pos b, b]
          by_cases c : w = 0
          · subst c; rfl
          · have c2 : Nat.beq w 0 = false := by
              cases q : Nat.beq w 0 with
              | false => rfl
              | true => exact absurd (Nat.eq_of_beq_eq_true q) c
            rw [c2]; simp [c]
        · have b2 : Nat.beq (t k) 45 = false := by
            cases q : Nat.beq (t k) 45 with
            | false => rfl
            | true => exact absurd (Nat.eq_of_beq_eq_true q) b
          rw [if_neg b, b2]; rfl
    rw [e, bI_n3, n3_add, l_1, n3_add, Nat.add_assoc]
    rfl
  · intro f
    dsimp only
    rw [Rf_counts_L18, ldE_in _ hr (by decide), Option.bind_some, h.1, if_pos (by rw [n3_le (by omega) (by omega)]; omega)]
theorem Rf_counts0_ok {t : Nat → Nat} {L r : Nat} {M : hyM} (h : RT t L r M) (hV : VL t L) (hr : r < 96) : Rf_counts (n3 r) 0 M = some (n3 (nsS t L)) := by
  rw [show (0 : Int32) = n3 0 from rfl, Rf_counts_gen h hV hr (by decide)]
  congr 2
  unfold nsS
  by_cases c : L = 0
  · subst c; rfl
  · rw [if_neg c]
    have hp : decide (0 < L) = true := by simp; omega
    rw [hp, Nat.add_comm]
    congr 1
    rcases hV.2.1 with q | q
    · omega
    · refine cnt_congr (fun i hi => ?_)
      have ht := hV.2.2 i
      unfold sep
      rcases q.1 i hi with g | g
      · rw [g.1]
        have : ¬ (t i = 32 ∨ t i = 45) := fun q2 => by
          have e := ltr_sep ⟨t i, ht⟩ q2
          dsimp only at e
          rw [g.1] at e; cases e
        have a2 : Nat.beq (t i) 32 = false := by
          cases q : Nat.beq (t i) 32 with
          | false => rfl
          | true => exact absurd (Or.inl (Nat.eq_of_beq_eq_true q)) this
        have b2 : Nat.beq (t i) 45 = false := by
          cases q : Nat.beq (t i) 45 with
          | false => rfl
          | true => exact absurd (Or.inr (Nat.eq_of_beq_eq_true q)) this
        rw [a2, b2]; rfl
      · rw [g.1]
        rcases g.2.1 with q2 | q2 <;> rw [q2] <;> rfl
theorem Rf_counts1_ok {t : Nat → Nat} {L r : Nat} {M : hyM} (h : RT t L r M) (hV : VL t L) (hr : r < 96) : Rf_counts (n3 r) 1 M = some (n3 (wdS t L)) := by
  rw [show (1 : Int32) = n3 1 from rfl, Rf_counts_gen h hV hr (by decide)]
  congr 2
  unfold wdS
  congr 1
  refine cnt_congr (fun i hi => ?_)
  rw [show Nat.beq 1 0 = false from rfl, Bool.and_false, Bool.or_false]
theorem Rf_beginOf_ok {t : Nat → Nat} {L r s : Nat} {M : hyM} (h : RT t L r M) (hV : VL t L) (hr : r < 96) (hs : s < nsS t L) : Rf_beginOf (n3 r) (n3 s) M = some (n3 (bc t (ep t L s))) := by
  have hL := hV.1
  obtain ⟨hv, hsc, -, -⟩ := VL_ns hV hs
  obtain ⟨a, b, c⟩ := ep_spec hsc
  have hb := bc_le t (ep t L s)
  have hce := bc_cse t (ep t L s)
  rw [c] at hce
  have hcl := cnt_le (sep t) L
  have key := lpE (fun f (q : Int32 × Int32) => Rf_beginOf_L5 (n3 r) M f q.1 q.2) (fun k => (n3 k, n3 (s - cse t k))) (bc t (ep t L s)) (n3 (bc t (ep t L s)), n3 0) ?_ ?_ hyFu 0 (Nat.zero_le _) (hyFu_big (by omega))
  · dsimp only at key
    rw [show cse t 0 = 0 from rfl, Nat.sub_zero] at key
    rw [Rf_beginOf, show (0 : Int32) = n3 0 from rfl, key]
    rfl
  · intro f k hk
    have h1 := bc_lt hk
    rw [c] at h1
    have h2 := (VT_sep hv a b).1
    have hcs : s ≤ L := by unfold cse at hsc; omega
    dsimp only
    rw [Rf_beginOf_L5, l_0, if_neg (by rw [n3_le (by omega) (by omega)]; omega), Rf_sign_ok h hr (by omega), Option.bind_some, isLet_eq (hV.2.2 k), l_1, n3_add]
    have e : n3 (s - cse t k) - bI (!ltr (t k)) = n3 (s - cse t (k + 1)) := by
      rw [bI_n3, cse_s]
      have : (sep t k).toNat ≤ 1 := Bool.toNat_le _
      unfold sep at this ⊢
      rw [n3_sub (by omega)]
      congr 1
      omega
    rw [e]
  · intro f
    dsimp only
    rw [hce, Nat.sub_self, Rf_beginOf_L5, if_pos (by decide)]
theorem Rf_sizeOf_ok {t : Nat → Nat} {L r s : Nat} {M : hyM} (h : RT t L r M) (hV : VL t L) (hr : r < 96) (hs : s < nsS t L) : Rf_sizeOf (n3 r) (n3 s) M = some (n3 (szS t L s)) := by
  have hL := hV.1
  obtain ⟨hv, hsc, -, -⟩ := VL_ns hV hs
  obtain ⟨a, b, c⟩ := ep_spec hsc
  have hb := (VT_sep hv a b).1
  have key := lpE (fun f (q : Int32) => Rf_sizeOf_L10 (n3 r) M f q) (fun k => n3 (bc t (ep t L s) + k)) (szS t L s) (n3 (ep t L s)) ?_ ?_ hyFu 0 (Nat.zero_le _) (hyFu_big (by unfold szS; omega))
  · have key : Rf_sizeOf_L10 (n3 r) M hyFu (n3 (bc t (ep t L s) + 0)) = some (n3 (ep t L s)) := key
    rw [Nat.add_zero] at key
    rw [Rf_sizeOf, Rf_beginOf_ok h hV hr hs, Option.bind_some, key, Option.bind_some, n3_sub (by omega)]
    rfl
  · intro f k hk
    unfold szS at hk
    have hns := bc_in (t := t) (j := bc t (ep t L s) + k) (k := ep t L s) (by omega) (by omega)
    have hlt : ltr (t (bc t (ep t L s) + k)) = true := by unfold sep at hns; simpa using hns
    show Rf_sizeOf_L10 (n3 r) M (f + 1) (n3 (bc t (ep t L s) + k)) = Rf_sizeOf_L10 (n3 r) M f (n3 (bc t (ep t L s) + (k + 1)))
    rw [Rf_sizeOf_L10, ldE_in _ hr (by decide), Option.bind_some, h.1, if_neg (by rw [n3_le (by omega) (by omega)]; omega), Rf_sign_ok h hr (by omega), Option.bind_some, isLet_eq (hV.2.2 _), if_pos hlt, l_1, n3_add]
    rfl
  · intro f
    have e : bc t (ep t L s) + szS t L s = ep t L s := by unfold szS; omega
    show Rf_sizeOf_L10 (n3 r) M (f + 1) (n3 (bc t (ep t L s) + szS t L s)) = some (n3 (ep t L s))
    rw [e, Rf_sizeOf_L10, ldE_in _ hr (by decide), Option.bind_some, h.1]
    by_cases q : L ≤ ep t L s
    · rw [if_pos (by rw [n3_le (by omega) (by omega)]; exact q)]
    · have hse : sep t (ep t L s) = true := by
        unfold sepE at b
        rcases Bool.or_eq_true_iff.mp b with g | g
        · have := Nat.eq_of_beq_eq_true g; omega
        · exact g
      have hlt : ltr (t (ep t L s)) = false := by unfold sep at hse; simpa using hse
      rw [if_neg (by rw [n3_le (by omega) (by omega)]; exact q), Rf_sign_ok h hr (by omega), Option.bind_some, isLet_eq (hV.2.2 _), hlt, if_neg (by decide)]
theorem Rf_longest_ok {t : Nat → Nat} {L r : Nat} {M : hyM} (h : RT t L r M) (hV : VL t L) (hr : r < 96) : Rf_longest (n3 r) M = some (n3 (loS t L)) := by
  have hL := hV.1
  have hbd : ∀ k, k ≤ L → max (mxN (szS t L) (cse t k)) (k - bc t k) ≤ 60 := by
    intro k hk
    refine Nat.max_le.mpr ⟨mxN_le (fun i hi => ?_), by omega⟩
    unfold szS
    have h1 := cse_mono (t := t) hk
    have := (ep_spec (t := t) (L := L) (j := i) (by omega)).1
    omega
  have key := lpE (fun f (q : Int32 × Int32 × Int32) => Rf_longest_L7 (n3 r) M f q.1 q.2.1 q.2.2) (fun k => (n3 (max (mxN (szS t L) (cse t k)) (k - bc t k)), n3 (k - bc t k), n3 k)) L (n3 (loS t L), n3 (L - bc t L), n3 L) ?_ ?_ hyFu 0 (Nat.zero_le _) (hyFu_big (by omega))
  · dsimp only at key
    rw [show max (mxN (szS t L) (cse t 0)) (0 - bc t 0) = 0 from rfl, show 0 - bc t 0 = 0 from rfl] at key
    rw [Rf_longest, show (0 : Int32) = n3 0 from rfl, key]
    rfl
  · intro f k hk
    have ht := hV.2.2 k
    have hb := bc_le t k
    have hv : VT t L := by
      rcases hV.2.1 with q | q
      · omega
      · exact q
    have b1 := hbd k (by omega)
    dsimp only
    rw [Rf_longest_L7, ldE_in _ hr (by decide), Option.bind_some, h.1, if_neg (by rw [n3_le (by omega) (by omega)]; omega), Rf_sign_ok h hr (by omega), Option.bind_some, isLet_eq ht, l_1, n3_add, n3_add]
    rcases hv.1 k hk with g | g
    · have hs : sep t k = false := by unfold sep; rw [g.1]; rfl
      have e1 : bc t (k + 1) = bc t k := by rw [bc, hs, if_neg (by decide)]
      have e2 : cse t (k + 1) = cse t k := by rw [cse_s, hs]; rfl
      rw [g.1, if_pos rfl, e1, e2, ite_le (by omega) (by omega), show k + 1 - bc t k = k - bc t k + 1 by omega]
      congr 1
      by_cases q : k - bc t k + 1 ≤ max (mxN (szS t L) (cse t k)) (k - bc t k)
      · rw [if_pos q]; congr 1; omega
      · rw [if_neg q]; congr 1; omega
    · have hs : sep t k = true := by unfold sep; rw [g.1]; rfl
      have hep : ep t L (cse t k) = k := ep_of (by omega) (by unfold sepE; rw [hs, Bool.or_true])
      have e1 : bc t (k + 1) = k + 1 := by rw [bc, hs, if_pos rfl]
      have e2 : cse t (k + 1) = cse t k + 1 := by rw [cse_s, hs]; rfl
      have e3 : szS t L (cse t k) = k - bc t k := by unfold szS; rw [hep]
      rw [g.1]
      simp only [Bool.false_eq_true, if_false]
      rw [e1, e2, Nat.sub_self, mxN, e3, l_0, ite_le (by omega) (by omega), if_pos (Nat.zero_le _), Nat.max_zero]
  · intro f
    dsimp only
    rw [Rf_longest_L7, ldE_in _ hr (by decide), Option.bind_some, h.1, if_pos (by rw [n3_le (by omega) (by omega)]; omega)]
    congr 3
    unfold loS nsS
    by_cases c : L = 0
    · subst c; rfl
    · rw [if_neg c, mxN]
      congr 1
      unfold szS
      rw [ep_of (Nat.le_refl L) (by simp [sepE])]
