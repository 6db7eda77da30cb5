/-! The law's phrases. -/
/-- the law's tune and the state: how many notes, their words -/
def LT (A : aS) (M : hyM) : Prop := A 30 2 ≤ 12 ∧ M.1 30 1 = n3 (A 30 2) ∧ ∀ i, i < A 30 2 → M.1 31 (5 * i) = n3 (nw (A 31 i) (A 34 i) (A 33 i))
theorem n3_dec {a : Nat} (h : 1 ≤ a) : n3 a + (-1) = n3 (a - 1) := by
  rw [← Int32.sub_eq_add_neg, l_1, n3_sub h]
theorem phc_cnt (e : Nat → Bool) (i : Nat) : phc e (i + 1) = cnt e i + 1 := by
  induction i with
  | zero => exact phc_1 e
  | succ i ih => rw [phc_s, ih, stt_s, cnt]; omega
theorem LT_nw {A : aS} {M : hyM} (hW : WFA A) (h : LT A M) {i : Nat} (hi : i < A 30 2) : A 31 i ≤ 8 ∧ A 34 i ≤ 1 ∧ A 33 i ≤ 1 := ⟨(hW.1.2.2.1 i hi).2, (hW.1.2.2.2.2 i).2, (hW.1.2.2.2.2 i).1⟩
theorem La_end_ok {A : aS} {M : hyM} (hW : WFA A) (h : LT A M) {i : Nat} (hi : i < A 30 2) : La_end (n3 i) M = some (eA A i || decide (i + 1 = A 30 2)) := by
  have hN := h.1
  obtain ⟨b1, b2, b3⟩ := LT_nw hW h hi
  obtain ⟨k1, -⟩ := nw_ok b1 b2 b3
  rw [La_end, l_5, n3_mul, ldE_in _ (by omega) (by decide), Option.bind_some, h.2.2 i hi]
  unfold eA
  by_cases c : A 34 i = 0
  · rw [if_pos (k1.mpr c), l_1, ldE_in _ (by decide) (by decide), Option.bind_some, h.2.1, n3_sub (by omega), dec_eq (by omega) (by omega), c]
    show some (decide (i = A 30 2 - 1)) = some (decide (i + 1 = A 30 2))
    congr 1
    apply decide_eq_decide.mpr
    omega
  · rw [if_neg (fun z => c (k1.mp z)), show A 34 i = 1 by omega]
    rfl
theorem La_phraseOf_ok {A : aS} {M : hyM} (hW : WFA A) (h : LT A M) {i : Nat} (hi : i < A 30 2) : La_phraseOf (n3 i) M = some (n3 (phc (eA A) (i + 1) - 1)) := by
  have hN := h.1
  have key := lpE (fun f (s : Int32 × Int32) => La_phraseOf_L5 (n3 i) M f s.1 s.2) (fun j => (n3 (cnt (eA A) j), n3 j)) i (n3 (cnt (eA A) i), n3 i) ?_ ?_ hyFu 0 (Nat.zero_le _) (hyFu_big (by omega))
  · try dsimp only at key
    rw [La_phraseOf, show (0 : Int32) = n3 0 from rfl]
    rw [show La_phraseOf_L5 (n3 i) M hyFu (n3 0) (n3 0) = some (n3 (cnt (eA A) i), n3 i) from key, Option.bind_some, phc_cnt]
    rfl
  · intro f k hk
    try dsimp only
    rw [La_phraseOf_L5, if_neg (by rw [n3_le (by omega) (by omega)]; omega), La_end_ok hW h (by omega), Option.bind_some, decide_eq_false (show ¬ k + 1 = A 30 2 by omega), Bool.or_false, bI_n3, n3_add, n3_s]
    rfl
  · intro f
    try dsimp only
    rw [La_phraseOf_L5, if_pos (by rw [n3_le (by omega) (by omega)]; omega)]
theorem La_phrases_ok {A : aS} {M : hyM} (hW : WFA A) (h : LT A M) : La_phrases M = some (n3 (mA A)) := by
  have hN := h.1
  rw [La_phrases, l_1, ldE_in _ (by decide) (by decide), Option.bind_some, h.2.1, l_0, ite_eq (by omega) (by omega)]
  by_cases c : A 30 2 = 0
  · rw [if_pos c]
    unfold mA
    rw [c]
    rfl
  · rw [if_neg c, Option.bind_some, n3_sub (by omega), La_phraseOf_ok hW h (by omega), Option.bind_some, n3_add]
    have hp := phc_pos (e := eA A) (show 0 < A 30 2 by omega)
    unfold mA
    rw [show A 30 2 - 1 + 1 = A 30 2 by omega, show phc (eA A) (A 30 2) - 1 + 1 = phc (eA A) (A 30 2) by omega]
theorem La_first_ok {A : aS} {M : hyM} (hW : WFA A) (h : LT A M) {p : Nat} (hp : p < mA A) : La_first (n3 p) M = some (n3 (pfi (eA A) (A 30 2) p)) := by
  have hN := h.1
  have hm := mA_le A
  obtain ⟨a1, a2, a3⟩ := pfi_spec (e := eA A) (n := A 30 2) (p := p) hp
  have key := lpE (fun f (s : Int32) => La_first_L2 (n3 p) M f s) (fun j => n3 j) (pfi (eA A) (A 30 2) p) (n3 (pfi (eA A) (A 30 2) p)) ?_ ?_ hyFu 0 (Nat.zero_le _) (hyFu_big (by omega))
  · try dsimp only at key
    rw [La_first, show (0 : Int32) = n3 0 from rfl, key, Option.bind_some]
  · intro f k hk
    try dsimp only
    have h1 := phc_mono (e := eA A) (show k + 1 ≤ pfi (eA A) (A 30 2) p from hk)
    have h2 := phc_pos (e := eA A) (show 0 < k + 1 by omega)
    rw [La_first_L2, La_phraseOf_ok hW h (by omega), Option.bind_some, if_neg (by rw [n3_le (by omega) (by omega)]; omega), n3_s]
  · intro f
    try dsimp only
    rw [La_first_L2, La_phraseOf_ok hW h a1, Option.bind_some, phc_t a2, a3, if_pos (by rw [n3_le (by omega) (by omega)]; omega)]
theorem La_last_ok {A : aS} {M : hyM} (hW : WFA A) (h : LT A M) {p : Nat} (hp : p < mA A) : La_last (n3 p) M = some (n3 (pla (eA A) (A 30 2) p)) := by
  have hN := h.1
  have hm := mA_le A
  obtain ⟨a1, a2, -, a4⟩ := pla_spec (e := eA A) (n := A 30 2) (p := p) hp
  have key := lpE (fun f (s : Int32) => La_last_L6 (n3 p) M f s) (fun j => n3 (A 30 2 - 1 - j)) (A 30 2 - 1 - pla (eA A) (A 30 2) p) (n3 (pla (eA A) (A 30 2) p)) ?_ ?_ hyFu 0 (Nat.zero_le _) (hyFu_big (by omega))
  · try dsimp only at key
    rw [La_last, l_1, ldE_in _ (by decide) (by decide), Option.bind_some, h.2.1, n3_sub (by omega)]
    rw [show La_last_L6 (n3 p) M hyFu (n3 (A 30 2 - 1)) = some (n3 (pla (eA A) (A 30 2) p)) from key, Option.bind_some]
  · intro f k hk
    try dsimp only
    have h1 := phc_mono (e := eA A) (show pla (eA A) (A 30 2) p + 1 ≤ A 30 2 - 1 - k + 1 by omega)
    have h2 := a4 (A 30 2 - 1 - k) (by omega) (by omega)
    have h3 := phc_le (eA A) (A 30 2 - 1 - k + 1)
    rw [La_last_L6, La_phraseOf_ok hW h (by omega), Option.bind_some, if_neg (by rw [n3_le (by omega) (by omega)]; omega), n3_dec (by omega), Nat.sub_sub _ k 1]
  · intro f
    try dsimp only
    rw [show A 30 2 - 1 - (A 30 2 - 1 - pla (eA A) (A 30 2) p) = pla (eA A) (A 30 2) p by omega, La_last_L6, La_phraseOf_ok hW h a1, Option.bind_some, a2, if_pos (by rw [n3_le (by omega) (by omega)]; omega)]
theorem La_slurred_ok {A : aS} {M : hyM} (hW : WFA A) (h : LT A M) {i : Nat} (hi : i < A 30 2) : La_slurred (n3 i) M = some (!qf (eA A) (sA A) i) := by
  have hN := h.1
  obtain ⟨b1, b2, b3⟩ := LT_nw hW h hi
  obtain ⟨-, k1, -⟩ := nw_ok b1 b2 b3
  rw [La_slurred, l_5, n3_mul, ldE_in _ (by omega) (by decide), Option.bind_some, h.2.2 i hi]
  unfold qf sA
  rw [Bool.not_not]
  by_cases c : A 33 i = 1
  · rw [if_pos (k1.mpr c), l_0, dec_le (by omega) (by omega), c]
    by_cases d : i ≤ 0
    · have : i = 0 := by omega
      subst this
      rfl
    · obtain ⟨j, rfl⟩ : ∃ j, i = j + 1 := ⟨i - 1, by omega⟩
      rw [decide_eq_false d, if_pos (by decide), l_1, n3_sub (by omega), Nat.add_sub_cancel, La_end_ok hW h (by omega), Option.bind_some, decide_eq_false (show ¬ j + 1 = A 30 2 by omega), Bool.or_false, stt_s]
      rfl
  · rw [if_neg (fun z => c (k1.mp z)), if_neg (by decide), show A 33 i = 0 by omega]
    rfl
theorem La_syllables_ok {A : aS} {M : hyM} (hW : WFA A) (h : LT A M) {a b : Nat} (ha : a ≤ b + 1) (hb : b < A 30 2) : La_syllables (n3 a) (n3 b) M = some (n3 (cnt (qf (eA A) (sA A)) (b + 1) - cnt (qf (eA A) (sA A)) a)) := by
  have hN := h.1
  have key := lpE (fun f (s : Int32 × Int32) => La_syllables_L6 (n3 b) M f s.1 s.2) (fun j => (n3 (cnt (qf (eA A) (sA A)) (a + j) - cnt (qf (eA A) (sA A)) a), n3 (a + j))) (b + 1 - a) (n3 (cnt (qf (eA A) (sA A)) (b + 1) - cnt (qf (eA A) (sA A)) a), n3 (b + 1)) ?_ ?_ hyFu 0 (Nat.zero_le _) (hyFu_big (by omega))
  · try dsimp only at key
    rw [Nat.add_zero, Nat.sub_self] at key
    rw [La_syllables, show (0 : Int32) = n3 0 from rfl, key, Option.bind_some]
  · intro f k hk
    try dsimp only
    have h1 := cnt_mono (qf (eA A) (sA A)) (show a ≤ a + k by omega)
    rw [La_syllables_L6, if_neg (by rw [n3_lt (by omega) (by omega)]; omega), La_slurred_ok hW h (by omega), Option.bind_some, Bool.not_not, bI_n3, n3_add, n3_s, ← Nat.add_assoc a k 1, show cnt (qf (eA A) (sA A)) (a + k + 1) = cnt (qf (eA A) (sA A)) (a + k) + (qf (eA A) (sA A) (a + k)).toNat from rfl, Nat.sub_add_comm h1]
  · intro f
    try dsimp only
    rw [show a + (b + 1 - a) = b + 1 by omega, La_syllables_L6, if_pos (by rw [n3_lt (by omega) (by omega)]; omega)]
theorem La_syl_ok {A : aS} {M : hyM} (hW : WFA A) (h : LT A M) {p : Nat} (hp : p < mA A) : La_syllables (n3 (pfi (eA A) (A 30 2) p)) (n3 (pla (eA A) (A 30 2) p)) M = some (n3 (sly (eA A) (sA A) (A 30 2) p)) := by
  have h1 := pfi_le_pla (e := eA A) (n := A 30 2) hp
  exact La_syllables_ok hW h (by omega) (pla_spec (e := eA A) (n := A 30 2) hp).1
/-- the syllable's number of a note, out of the law's count of syllables -/
theorem La_slo_ok {A : aS} {M : hyM} (hW : WFA A) (h : LT A M) {i : Nat} (hi : i < A 30 2) : La_syllables (n3 (bgn (eA A) i)) (n3 i) M = some (n3 (slo (eA A) (sA A) i + (qf (eA A) (sA A) i).toNat)) := by
  have h1 := bgn_le (eA A) i
  have h2 := cnt_mono (qf (eA A) (sA A)) h1
  rw [La_syllables_ok hW h (by omega) hi]
  unfold slo
  rw [show cnt (qf (eA A) (sA A)) (i + 1) = cnt (qf (eA A) (sA A)) i + (qf (eA A) (sA A) i).toNat from rfl, Nat.sub_add_comm h2]
