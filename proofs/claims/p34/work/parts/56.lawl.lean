/-! The law's lines: sizes and ends in a word, what stands below a note, columns. -/
def LIw (w : Int32) (t : Nat → Nat) (L : Nat) : Prop := ∃ (W k : Nat) (sz : Nat → Nat) (en : Nat → Bool), w = n3 W ∧ WB W k sz en ∧ nsS t L = k ∧ k ≤ 6 ∧ (∀ j, sz j < 16) ∧ ∀ j, j < k → 0 < sz j ∧ szS t L j = sz j ∧ sgS t L j = 97 + sz j ∧ lkS t L j = !en j
theorem ns_0 (t : Nat → Nat) : nsS t 0 = 0 := if_pos rfl
theorem LIw_0 (t : Nat → Nat) : LIw 0 t 0 := ⟨0, 0, fun _ => 0, fun _ => false, rfl, WB_0 _ _, ns_0 t, by decide, fun _ => (by decide : 0 < 16), fun j hj => absurd hj (Nat.not_lt_zero _)⟩
theorem LIw_ns {w : Int32} {t : Nat → Nat} {L : Nat} (h : LIw w t L) : nsS t L ≤ 6 := by
  obtain ⟨W, k, sz, en, -, -, a, b, -⟩ := h
  omega
theorem LIw_sz {w : Int32} {t : Nat → Nat} {L j : Nat} (h : LIw w t L) (hj : j < nsS t L) : (w >>> ((4 * n3 j) &&& 31)) &&& 15 = n3 (szS t L j) := by
  obtain ⟨W, k, sz, en, rfl, hb, a, b, c, d⟩ := h
  rw [l_4, n3_mul, n3_shr (by have := hb.1; omega) (by omega), show (15 : Int32) = n3 15 from rfl, n3_and, WB_sz hb c (by omega), if_pos (by omega), (d j (by omega)).2.1]
theorem LIw_sz0 {w : Int32} {t : Nat → Nat} {L : Nat} (h : LIw w t L) (hj : nsS t L < 6) : (w >>> ((4 * n3 (nsS t L)) &&& 31)) &&& 15 = n3 0 := by
  obtain ⟨W, k, sz, en, rfl, hb, a, b, c, d⟩ := h
  rw [l_4, n3_mul, n3_shr (by have := hb.1; omega) (by omega), show (15 : Int32) = n3 15 from rfl, n3_and, WB_sz hb c (by omega), if_neg (by omega)]
theorem LIw_szp {w : Int32} {t : Nat → Nat} {L j : Nat} (h : LIw w t L) (hj : j < nsS t L) : 0 < szS t L j ∧ szS t L j < 16 ∧ sgS t L j = 97 + szS t L j := by
  obtain ⟨W, k, sz, en, rfl, hb, a, b, c, d⟩ := h
  obtain ⟨d1, d2, d3, -⟩ := d j (by omega)
  have := c j
  omega
theorem LIw_en {w : Int32} {t : Nat → Nat} {L j : Nat} (h : LIw w t L) (hj : j < nsS t L) : (w >>> ((24 + n3 j) &&& 31)) &&& 1 = bI (!lkS t L j) := by
  obtain ⟨W, k, sz, en, rfl, hb, a, b, c, d⟩ := h
  obtain ⟨-, -, -, d4⟩ := d j (by omega)
  rw [l_24, n3_add, n3_shr (by have := hb.1; omega) (by omega), show (1 : Int32) = n3 1 from rfl, n3_and, WB_en hb (by omega), d4, Bool.not_not, bI_n3]
theorem LIw_pos {w : Int32} {t : Nat → Nat} {L : Nat} (h : LIw w t L) : (!decide (w ≤ 0)) = decide (0 < nsS t L) := by
  obtain ⟨W, k, sz, en, rfl, hb, a, b, c, d⟩ := h
  have hp := WB_pos hb (fun j hj => ⟨(d j hj).1, c j⟩)
  have := hb.1
  rw [l_0, dec_le (by omega) (by omega), nn0, a]
  exact decide_eq_decide.mpr hp
theorem La_size_ok {w : Int32} {t : Nat → Nat} {L : Nat} (h : LIw w t L) (M : hyM) : La_size w M = some (n3 (nsS t L)) := by
  have h6 := LIw_ns h
  have key := lpE (fun f (s : Int32) => La_size_L2 w f s) (fun j => n3 j) (nsS t L) (n3 (nsS t L)) ?_ ?_ hyFu 0 (Nat.zero_le _) (hyFu_big (by omega))
  · try dsimp only at key
    rw [La_size, show (0 : Int32) = n3 0 from rfl, key, Option.bind_some]
  · intro f k hk
    try dsimp only
    have hp := LIw_szp h hk
    rw [La_size_L2, if_neg (show ¬ (6 : Int32) ≤ n3 k by rw [l_6, n3_le (by omega) (by omega)]; omega), LIw_sz h hk, l_0, dec_le (by omega) (by omega), decide_eq_false (by omega), if_pos (by decide), n3_s]
  · intro f
    try dsimp only
    rw [La_size_L2]
    by_cases c : nsS t L = 6
    · rw [if_pos (show (6 : Int32) ≤ n3 (nsS t L) by rw [c]; decide), if_neg (by decide)]
    · rw [if_neg (show ¬ (6 : Int32) ≤ n3 (nsS t L) by rw [l_6, n3_le (by omega) (by omega)]; omega), LIw_sz0 h (by omega), if_neg (by decide)]
/-- the law's lines and the state's rows -/
def LL (A : aS) (M : hyM) : Prop := (∀ v k, v < 2 → k < 8 → LIw (M.1 33 (8 * v + k)) (rwT A (v * 24 + k)) (rwL A (v * 24 + k))) ∧ ∀ v k, v < 4 → k < 24 → (2 ≤ v ∨ 8 ≤ k) → rwL A (v * 24 + k) = 0
theorem bel_0 {X : pgT} {r : Nat} (h : X.2 r = 0) (s : Nat) : bel X r s = 0 := by
  unfold bel
  rw [h, ns_0, if_neg (Nat.not_lt_zero _)]
def bq (A : aS) (v k i : Nat) : Nat := if qf (eA A) (sA A) i = true then bel (XA A) (v * 24 + k) (slo (eA A) (sA A) i) else 0
theorem bq_le {A : aS} (hW : WFA A) (v k i : Nat) : bq A v k i ≤ 12 := by
  unfold bq
  split
  · exact bel_le hW.2.2.2.1 _ _
  · omega
theorem pfi_bgn {A : aS} {i : Nat} (hi : i < A 30 2) : phc (eA A) (i + 1) - 1 < mA A ∧ pfi (eA A) (A 30 2) (phc (eA A) (i + 1) - 1) = bgn (eA A) i := by
  have h1 := phc_mono (e := eA A) (show i + 1 ≤ A 30 2 by omega)
  have h2 := phc_pos (e := eA A) (show 0 < i + 1 by omega)
  exact ⟨by unfold mA; omega, bgn_pfi hi⟩
theorem La_below_ok {A : aS} {M : hyM} (hW : WFA A) (h : LT A M) (hl : LL A M) {v k i : Nat} (hv : v < 4) (hk : k < 24) (hi : i < A 30 2) : La_below (n3 v) (n3 k) (n3 i) M = some (n3 (bq A v k i)) := by
  have hN := h.1
  rw [La_below, La_slurred_ok hW h hi, Option.bind_some]
  unfold bq
  cases hq : qf (eA A) (sA A) i with
  | false => rfl
  | true =>
    rw [if_pos rfl, Bool.not_true, if_neg (show ¬ (false = true) by decide), l_7, ite_lt (by omega) (by omega), l_1, dec_le (by omega) (by omega)]
    by_cases c : 7 < k ∨ 2 ≤ v
    · rw [if_pos (by
        by_cases c7 : 7 < k
        · rw [if_pos c7]
        · rw [if_neg c7, decide_eq_false (by omega)]; rfl), bel_0 (hl.2 v k hv hk (by omega))]
      rfl
    · rw [if_neg (by rw [if_neg (by omega), decide_eq_true (by omega)]; decide)]
      obtain ⟨p1, p2⟩ := pfi_bgn hi
      have hw := hl.1 v k (by omega) (by omega)
      have h6 := LIw_ns hw
      have hsl := slo_le (eA A) (sA A) i
      rw [La_phraseOf_ok hW h hi, Option.bind_some, La_first_ok hW h p1, Option.bind_some, p2, La_slo_ok hW h hi, Option.bind_some, hq, Bool.toNat_true, show (8 : Int32) = n3 8 from rfl, n3_mul, n3_add, ldE_in _ (by omega) (by decide), Option.bind_some, La_size_ok hw, Option.bind_some, n3_sub (by omega), Nat.add_sub_cancel]
      unfold bel
      by_cases d : slo (eA A) (sA A) i < nsS ((XA A).1 (v * 24 + k)) ((XA A).2 (v * 24 + k))
      · rw [if_neg (by rw [n3_le (by omega) (by omega)]; exact Nat.not_le.mpr d), Option.bind_some, LIw_sz hw d, if_pos d]
      · rw [if_pos (by rw [n3_le (by omega) (by omega)]; exact Nat.not_lt.mp d), if_neg d]
        rfl
/-- the law's sung phrases -/
def LSu (A : aS) (M : hyM) : Prop := (LA A).length ≤ 24 ∧ ∀ k p, (LA A)[k]? = some p → M.1 34 k = n3 p
theorem n3_mx {a b : Nat} (ha : a < 2147483648) (hb : b < 2147483648) : (if n3 a ≤ n3 b then n3 b else n3 a) = n3 (max b a) := by
  rw [ite_le ha hb]
  by_cases c : a ≤ b
  · rw [if_pos c, Nat.max_eq_left c]
  · rw [if_neg c, Nat.max_eq_right (by omega)]
/-- a note's width below the sung phrase k in the verses below v -/
def bxw (A : aS) (k i x : Nat) (v : Nat) : Nat := match v with
  | 0 => x
  | v + 1 => max (bxw A k i x v) ((if (LA A)[k]? = some (phc (eA A) (i + 1) - 1) then bq A v k i else 0) + 1)
theorem bxw_le {A : aS} (hW : WFA A) {k i x : Nat} (hx : x ≤ 13) (v : Nat) : bxw A k i x v ≤ 13 := by
  induction v with
  | zero => exact hx
  | succ v ih =>
    have := bq_le hW v k i
    rw [bxw]
    split <;> omega
theorem La_col15_ok {A : aS} {M : hyM} (hW : WFA A) (h : LT A M) (hl : LL A M) (hs : LSu A M) {k i x : Nat} (hk : k < (LA A).length) (hi : i < A 30 2) (hx : x ≤ 13) : La_column_L15 (n3 i) M (n3 k) hyFu (n3 x) (n3 0) = some (n3 (bxw A k i x 2), n3 2) := by
  have hN := h.1
  have h24 := hs.1
  have hkp := List.getElem?_eq_getElem hk
  have hpm : (LA A)[k] < mA A := LA_mem hW (List.getElem_mem hk)
  have hm := mA_le A
  obtain ⟨p1, p2⟩ := pfi_bgn hi
  refine lpE (fun f (s : Int32 × Int32) => La_column_L15 (n3 i) M (n3 k) f s.1 s.2) (fun v => (n3 (bxw A k i x v), n3 v)) 2 _ ?_ ?_ hyFu 0 (Nat.zero_le _) (hyFu_big (by omega))
  · intro f v hv
    try dsimp only
    have hb := bq_le hW v k i
    have hb2 := bxw_le hW (k := k) (i := i) hx v
    rw [La_column_L15, if_neg (by rw [l_2, n3_le (by omega) (by omega)]; omega), ldE_in _ (by omega) (by decide), Option.bind_some, hs.2 k _ hkp, La_phraseOf_ok hW h hi, Option.bind_some, ite_eq (by omega) (by omega), bxw, hkp]
    by_cases c : (LA A)[k] = phc (eA A) (i + 1) - 1
    · rw [if_pos c, if_pos (by rw [c]), La_below_ok hW h hl (by omega) (by omega) hi, Option.bind_some, n3_s, n3_mx (by omega) (by omega), n3_s]
    · rw [if_neg c, if_neg (fun z => c (Option.some.inj z)), show (0 : Int32) = n3 0 from rfl, n3_s, n3_mx (by omega) (by omega), n3_s]
  · intro f
    try dsimp only
    rw [La_column_L15, if_pos (by decide)]
theorem wst2 {A : aS} {M : hyM} (hl : LL A M) {k : Nat} (hk : k < 24) (s : Nat) : wst (XA A) k s = max (bel (XA A) (0 * 24 + k) s) (bel (XA A) (1 * 24 + k) s) := by
  unfold wst
  rw [mxN, mxN, mxN, mxN, mxN, bel_0 (hl.2 2 k (by decide) hk (Or.inl (by decide))), bel_0 (hl.2 3 k (by decide) hk (Or.inl (by decide)))]
  omega
theorem wdk_s {A : aS} {M : hyM} (hl : LL A M) (hs : LSu A M) {k i : Nat} (hk : k < (LA A).length) : wdk (XA A) (eA A) (sA A) (LA A) (k + 1) i = bxw A k i (wdk (XA A) (eA A) (sA A) (LA A) k i) 2 := by
  have h24 := hs.1
  unfold wdk
  rw [bxw, bxw, bxw]
  unfold bq
  cases hq : qf (eA A) (sA A) i with
  | false =>
    simp only [Bool.false_eq_true, if_false]
    split <;> omega
  | true =>
    simp only [if_true]
    rw [show wdp (XA A) (LA A) (phc (eA A) (i + 1) - 1) (slo (eA A) (sA A) i) (k + 1) = max (wdp (XA A) (LA A) (phc (eA A) (i + 1) - 1) (slo (eA A) (sA A) i) k) (if (LA A)[k]? = some (phc (eA A) (i + 1) - 1) then wst (XA A) k (slo (eA A) (sA A) i) else 0) from rfl, wst2 hl (by omega)]
    by_cases c : (LA A)[k]? = some (phc (eA A) (i + 1) - 1)
    · rw [if_pos c, if_pos c, if_pos c]
      omega
    · rw [if_neg c, if_neg c, if_neg c]
      omega
theorem La_column_ok {A : aS} {M : hyM} (hW : WFA A) (h : LT A M) (hl : LL A M) (hs : LSu A M) {i : Nat} (hi : i < A 30 2) : La_column (n3 i) (n3 (LA A).length) M = some (n3 (wA A i)) := by
  have h24 := hs.1
  have key := lpE (fun f (s : Int32 × Int32) => La_column_L6 (n3 i) (n3 (LA A).length) M f s.1 s.2) (fun k => (n3 (wdk (XA A) (eA A) (sA A) (LA A) k i), n3 k)) (LA A).length (n3 (wdk (XA A) (eA A) (sA A) (LA A) (LA A).length i), n3 (LA A).length) ?_ ?_ hyFu 0 (Nat.zero_le _) (hyFu_big (by omega))
  · have e0 : wdk (XA A) (eA A) (sA A) (LA A) 0 i = 3 := by
      unfold wdk
      rw [show wdp (XA A) (LA A) (phc (eA A) (i + 1) - 1) (slo (eA A) (sA A) i) 0 = 0 from rfl]
      split <;> rfl
    try dsimp only at key
    rw [e0] at key
    rw [La_column, show (3 : Int32) = n3 3 from rfl, show (0 : Int32) = n3 0 from rfl, key, Option.bind_some]
    unfold wA wdc wdk
    rw [Nat.min_eq_left h24]
  · intro f k hk
    try dsimp only
    rw [La_column_L6, if_neg (by rw [n3_le (by omega) (by omega)]; omega), show (0 : Int32) = n3 0 from rfl, La_col15_ok hW h hl hs hk hi (wdk_le hW.2.2.2.1 _ _ _ _ _), Option.bind_some, ← wdk_s hl hs hk, n3_s]
  · intro f
    try dsimp only
    rw [La_column_L6, if_pos (by rw [n3_le (by omega) (by omega)]; omega)]
