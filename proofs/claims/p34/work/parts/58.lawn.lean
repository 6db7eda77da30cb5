/-! The law's look at a note. -/
/-- the law's page and the state -/
def LR (A : aS) (M : hyM) : Prop := LT A M ∧ LPi A M ∧ LL A M ∧ (M.1 30 0 = n3 (A 30 1) ∧ M.1 30 2 = n3 (A 30 11) ∧ M.1 30 3 = n3 (A 30 12) ∧ M.1 30 4 = n3 (A 30 13) ∧ M.1 30 5 = n3 (A 30 7)) ∧ A 30 7 ≤ 2 ∧ ∀ k, k < A 30 7 → M.1 32 (3 * k) = n3 (A 35 k) ∧ M.1 32 (3 * k + 1) = n3 (A 36 k) ∧ M.1 32 (3 * k + 2) = n3 (A 37 k)
theorem La_time_ok {A : aS} {M : hyM} (hW : WFA A) (h : LT A M) {i : Nat} (hi : i < A 30 2) : La_note_L21 (n3 i) M hyFu 0 0 = some (n3 (smN (A 31) i), n3 i) := by
  have hN := h.1
  refine lpE (fun f (s : Int32 × Int32) => La_note_L21 (n3 i) M f s.1 s.2) (fun j => (n3 (smN (A 31) j), n3 j)) i _ ?_ ?_ hyFu 0 (Nat.zero_le _) (hyFu_big (by omega))
  · intro f j hj
    dsimp only
    obtain ⟨b1, b2, b3⟩ := LT_nw hW h (show j < A 30 2 by omega)
    rw [La_note_L21, if_neg (by rw [n3_le (by omega) (by omega)]; omega), l_5, n3_mul, ldE_in _ (by omega) (by decide), Option.bind_some, h.2.2 j (by omega), (nw_ok b1 b2 b3).2.2.1, n3_add, n3_s]
    rfl
  · intro f
    dsimp only
    rw [La_note_L21, if_pos (by rw [n3_le (by omega) (by omega)]; omega)]
/-- the law's bars: the number, its beginning, its end -/
def brs (u b : Nat) : Nat → Nat × Nat × Nat
  | 0 => (0, 0, u)
  | j + 1 => (j + 1, u + j * b, u + (j + 1) * b)
theorem La_bars_ok {M : hyM} {u b T : Nat} (hb : 2 ≤ b ∧ b ≤ 24) (hu : u < b) (hT : T ≤ 320) (h2 : M.1 30 2 = n3 b) : La_note_L59 M (n3 T) hyFu 0 0 (n3 u) = some (n3 (brs u b (bnum u b T)).1, n3 (brs u b (bnum u b T)).2.1, n3 (brs u b (bnum u b T)).2.2) := by
  have hq : bnum u b T ≤ 321 := by
    unfold bnum
    have : (T - u) / b ≤ T - u := Nat.div_le_self _ _
    split <;> omega
  have hmul : ∀ j, j < bnum u b T → u + j * b ≤ T := by
    intro j hj
    unfold bnum at hj
    by_cases c : T < u
    · rw [if_pos c] at hj; omega
    · rw [if_neg c] at hj
      have h1 : (T - u) / b * b ≤ T - u := Nat.div_mul_le_self _ _
      have h3 : j * b ≤ (T - u) / b * b := Nat.mul_le_mul_right b (by omega)
      omega
  have hend : T < u + bnum u b T * b := by
    unfold bnum
    by_cases c : T < u
    · rw [if_pos c]; omega
    · rw [if_neg c, Nat.add_mul]
      have h1 := Nat.div_add_mod (T - u) b
      have h3 := Nat.mod_lt (T - u) (show 0 < b by omega)
      rw [Nat.mul_comm] at h1
      omega
  have e : ∀ j, (brs u b j).2.2 = u + j * b := by
    intro j
    cases j with
    | zero => rw [Nat.zero_mul]; rfl
    | succ j => rfl
  refine lpE (fun f (s : Int32 × Int32 × Int32) => La_note_L59 M (n3 T) f s.1 s.2.1 s.2.2) (fun j => (n3 (brs u b j).1, n3 (brs u b j).2.1, n3 (brs u b j).2.2)) (bnum u b T) _ ?_ ?_ hyFu 0 (Nat.zero_le _) (hyFu_big (by omega))
  · intro f j hj
    have hm := hmul j hj
    dsimp only
    rw [e j, La_note_L59, if_neg (by rw [n3_lt (by omega) (by omega)]; omega), l_2, ldE_in _ (by decide) (by decide), Option.bind_some, h2, n3_add, n3_s]
    have e1 : (brs u b j).1 = j := by cases j <;> rfl
    rw [e1]
    show La_note_L59 M (n3 T) f (n3 (j + 1)) (n3 (u + j * b)) (n3 (u + j * b + b)) = La_note_L59 M (n3 T) f (n3 (j + 1)) (n3 (u + j * b)) (n3 (u + (j + 1) * b))
    rw [Nat.add_mul, Nat.one_mul, Nat.add_assoc]
  · intro f
    dsimp only
    have hle : bnum u b T * b ≤ 321 * 24 := Nat.mul_le_mul hq hb.2
    rw [e, La_note_L59, if_pos (by rw [n3_lt (by omega) (by omega)]; exact hend)]
/-- what the bars say of a time -/
theorem brs_ok {u b T : Nat} (hb : 2 ≤ b) (hu : u < b) (l : Nat) : (brs u b (bnum u b T)).1 = bnum u b T ∧ (brs u b (bnum u b T)).2.1 ≤ T ∧ T - (brs u b (bnum u b T)).2.1 = buni u b T ∧ (!decide (T + l ≤ (brs u b (bnum u b T)).2.2)) = bover u b T l := by
  unfold buni bover
  by_cases c : T < u
  · have e : bnum u b T = 0 := if_pos c
    rw [e, if_pos c, if_neg (show ¬ u ≤ T by omega)]
    refine ⟨rfl, Nat.zero_le _, rfl, ?_⟩
    rw [← decide_not]
    apply decide_eq_decide.mpr
    show ¬ T + l ≤ u ↔ u < (if T < u then T else (T - u) % b) + l
    rw [if_pos c]
    omega
  · have e : bnum u b T = (T - u) / b + 1 := by
      unfold bnum
      rw [if_neg c]; omega
    rw [e, if_neg c, if_pos (show u ≤ T by omega)]
    have h1 := Nat.div_add_mod (T - u) b
    rw [Nat.mul_comm] at h1
    refine ⟨rfl, ?_, ?_, ?_⟩
    · show u + (T - u) / b * b ≤ T
      omega
    · show T - (u + (T - u) / b * b) = (T - u) % b
      omega
    · rw [← decide_not]
      apply decide_eq_decide.mpr
      show ¬ T + l ≤ u + ((T - u) / b + 1) * b ↔ b < (if T < u then T else (T - u) % b) + l
      rw [if_neg c, Nat.add_mul, Nat.one_mul]
      omega
theorem La_parts_ok {A : aS} {C M : hyM} (hW : WFA A) (hC : CA A C) (hR : LR A M) {i : Nat} (hi : i < A 30 2) : La_note_L255 (n3 i) C M hyFu 0 = some (.inr (n3 4)) := by
  obtain ⟨hT, hP, hl, ⟨d0, d2, d3, d4, d5⟩, -⟩ := id hR
  have hN := hT.1
  refine lpE (fun f (s : Int32) => La_note_L255 (n3 i) C M f s) (fun j => n3 j) 4 _ ?_ ?_ hyFu 0 (Nat.zero_le _) (hyFu_big (by omega))
  · intro f p hp
    try dsimp only
    have hg := hW.1.2.2.2.1 (4 * i + p) (by omega)
    obtain ⟨o1, o2, o3, o4, o5⟩ := own_ok d0 hW.1.2.1 hg
    have hst := (stp_ok hW.1.2.1 hg).2
    have g0 : (Hp_part (n3 i) (n3 p) 0 C).bind rt = some (n3 (A 32 (4 * i + p))) := g_part hW hC hi hp (w := 0) (by decide)
    have g1 : (Hp_part (n3 i) (n3 p) 1 C).bind rt = some (dgT (A 30 1) (A 32 (4 * i + p))) := g_part hW hC hi hp (w := 1) (by decide)
    have g2 : (Hp_part (n3 i) (n3 p) 2 C).bind rt = some (n3 (stT (A 30 1) (A 32 (4 * i + p)))) := g_part hW hC hi hp (w := 2) (by decide)
    have g3 : (Hp_part (n3 i) (n3 p) 3 C).bind rt = some (bI (raT (A 30 1) (A 32 (4 * i + p)))) := g_part hW hC hi hp (w := 3) (by decide)
    have g4 : (Hp_part (n3 i) (n3 p) 4 C).bind rt = some (if raT (A 30 1) (A 32 (4 * i + p)) = true then -1 else shT (A 30 1) (A 32 (4 * i + p))) := g_part hW hC hi hp (w := 4) (by decide)
    have g5 : (Hp_part (n3 i) (n3 p) 5 C).bind rt = some (Ke_ledgerLines (n3 (stT (A 30 1) (A 32 (4 * i + p)))) (n3 p / 2) hM0) := g_part hW hC hi hp (w := 5) (by decide)
    rw [La_note_L255, if_neg (show ¬ (4 : Int32) ≤ n3 p by rw [l_4, n3_le (by omega) (by omega)]; omega), show (5 : Int32) * n3 i = n3 (5 * i) from by rw [l_5, n3_mul], show n3 (5 * i) + 1 = n3 (5 * i + 1) from n3_s _, n3_add, ldE_in _ (by omega) (by decide), hP i p hi hp, Option.bind_some, o1, Option.bind_some]
    cases hr : raT (A 30 1) (A 32 (4 * i + p)) with
    | false =>
      rw [hr] at o4 o5 g3 g4
      have hge : (0 : Int32) ≤ owT (A 30 1) (A 32 (4 * i + p)) := of_decide_eq_true o4
      have how : owT (A 30 1) (A 32 (4 * i + p)) = dgT (A 30 1) (A 32 (4 * i + p)) := by unfold owT; rw [hr]; rfl
      have kl := k_ledA ⟨_, hst⟩ ⟨p, hp⟩
      obtain ⟨⟨y47, y48⟩, e1, e2⟩ := hy_bind kl
      obtain ⟨⟨y51, y52⟩, e3, e4⟩ := hy_bind e2
      dsimp only at e1 e3 e4
      rw [if_pos hge, o3, Option.bind_some, e1, Option.bind_some]
      dsimp only
      rw [e3, Option.bind_some]
      dsimp only
      rw [g0, Option.bind_some, if_pos rfl, g1, Option.bind_some, if_pos how.symm, g2, Option.bind_some, if_pos rfl, g3, Option.bind_some, if_pos (by rw [o4]; rfl), g4, Option.bind_some, if_pos o5.symm, g5, Option.bind_some, if_pos (Option.some.inj e4).symm, n3_s]
    | true =>
      rw [hr] at o4 o5 g3 g4
      have hge : ¬ (0 : Int32) ≤ owT (A 30 1) (A 32 (4 * i + p)) := of_decide_eq_false o4
      have kl := k_ledB ⟨_, hst⟩ ⟨p, hp⟩
      obtain ⟨⟨y47, y48⟩, e1, e2⟩ := hy_bind kl
      obtain ⟨⟨y51, y52⟩, e3, e4⟩ := hy_bind e2
      dsimp only at e1 e3 e4
      rw [if_neg hge, o2 hr, Option.bind_some, o3, Option.bind_some, e1, Option.bind_some]
      dsimp only
      rw [e3, Option.bind_some]
      dsimp only
      rw [g0, Option.bind_some, if_pos rfl, g1, Option.bind_some, if_pos rfl, g2, Option.bind_some, if_pos rfl, g3, Option.bind_some, if_pos (by rw [o4]; rfl), g4, Option.bind_some, if_pos o5.symm, g5, Option.bind_some, if_pos (Option.some.inj e4).symm, n3_s]
  · intro f
    try dsimp only
    rw [La_note_L255, if_pos (by decide)]
theorem apart_ok {a b : Nat} (ha : a < 1000) (hb : b < 1000) (M : hyM) : La_apart (n3 a) (n3 b) M = n3 (a - b + (b - a)) := by
  unfold La_apart
  rw [ite_le (by omega) (by omega)]
  by_cases c : a ≤ b
  · rw [if_pos c, n3_sub c]; congr 1; omega
  · rw [if_neg c, n3_sub (by omega)]; congr 1; omega
theorem La_heads_ok {A : aS} {C M : hyM} (hW : WFA A) (hC : CA A C) (hR : LR A M) {i : Nat} (hi : i < A 30 2) : La_note_L494 (n3 i) C M hyFu 0 = some (.inr (n3 2)) := by
  obtain ⟨hT, hP, hl, ⟨d0, d2, d3, d4, d5⟩, -⟩ := id hR
  have hN := hT.1
  refine lpE (fun f (s : Int32) => La_note_L494 (n3 i) C M f s) (fun j => n3 j) 2 _ ?_ ?_ hyFu 0 (Nat.zero_le _) (hyFu_big (by omega))
  · intro f s hs
    try dsimp only
    have hgu := hW.1.2.2.2.1 (4 * i + 2 * s) (by omega)
    have hgl := hW.1.2.2.2.1 (4 * i + (2 * s + 1)) (by omega)
    have ou := (own_ok d0 hW.1.2.1 hgu).2.2.1
    have ol := (own_ok d0 hW.1.2.1 hgl).2.2.1
    have su := (stp_ok hW.1.2.1 hgu).2
    have sl := (stp_ok hW.1.2.1 hgl).2
    have e1 := hP i (2 * s) hi (by omega)
    have e2 := hP i (2 * s + 1) hi (by omega)
    rw [show 5 * i + 1 + (2 * s + 1) = 5 * i + 2 + 2 * s by omega] at e2
    have gh := g_heads hW hC hi hs
    rw [La_note_L494, if_neg (show ¬ (2 : Int32) ≤ n3 s by rw [l_2, n3_le (by omega) (by omega)]; omega), show (5 : Int32) * n3 i = n3 (5 * i) from by rw [l_5, n3_mul], show n3 (5 * i) + 1 = n3 (5 * i + 1) from n3_s _, show (2 : Int32) * n3 s = n3 (2 * s) from by rw [l_2, n3_mul], show n3 (5 * i) + 2 = n3 (5 * i + 2) from by rw [l_2, n3_add], n3_add, n3_add, ldE_in _ (by omega) (by decide), ldE_in _ (by omega) (by decide), e1, e2, Option.bind_some, Option.bind_some, gh, Option.bind_some, ite_eq (by omega) (by omega)]
    unfold heV
    by_cases c : A 32 (4 * i + 2 * s) = A 32 (4 * i + (2 * s + 1))
    · rw [if_pos c, if_pos c, if_pos rfl, n3_s]
    · rw [if_neg c, if_neg c, ou, Option.bind_some, ol, Option.bind_some, apart_ok (by omega) (by omega), ite_le (by omega) (by omega)]
      have hx : (if (2 : Int32) ≤ n3 (stT (A 30 1) (A 32 (4 * i + 2 * s)) - stT (A 30 1) (A 32 (4 * i + (2 * s + 1))) + (stT (A 30 1) (A 32 (4 * i + (2 * s + 1))) - stT (A 30 1) (A 32 (4 * i + 2 * s)))) then (0 : Int32) else 2) = (if stT (A 30 1) (A 32 (4 * i + 2 * s)) - stT (A 30 1) (A 32 (4 * i + (2 * s + 1))) + (stT (A 30 1) (A 32 (4 * i + (2 * s + 1))) - stT (A 30 1) (A 32 (4 * i + 2 * s))) ≤ 1 then 2 else 0) := by
        generalize hk : stT (A 30 1) (A 32 (4 * i + 2 * s)) - stT (A 30 1) (A 32 (4 * i + (2 * s + 1))) + (stT (A 30 1) (A 32 (4 * i + (2 * s + 1))) - stT (A 30 1) (A 32 (4 * i + 2 * s))) = k
        by_cases z : k ≤ 1
        · rw [if_pos z, if_neg (by rw [l_2, n3_le (by omega) (by omega)]; omega)]
        · rw [if_neg z, if_pos (by rw [l_2, n3_le (by omega) (by omega)]; omega)]
      have hy : (if A 32 (4 * i + (2 * s + 1)) ≤ A 32 (4 * i + 2 * s) then (0 : Int32) else 4) = (if A 32 (4 * i + 2 * s) < A 32 (4 * i + (2 * s + 1)) then 4 else 0) := by
        by_cases z : A 32 (4 * i + (2 * s + 1)) ≤ A 32 (4 * i + 2 * s)
        · rw [if_pos z, if_neg (by omega)]
        · rw [if_neg z, if_pos (by omega)]
      rw [hx, hy, if_pos rfl, n3_s]
  · intro f
    try dsimp only
    rw [La_note_L494, if_pos (by decide)]
theorem La_note_ok {A : aS} {C M : hyM} (hW : WFA A) (hC : CA A C) (hR : LR A M) (hs : LSu A M) {i : Nat} (hi : i < A 30 2) : La_note (n3 i) (n3 (LA A).length) C M = some (true, C, M) := by
  obtain ⟨hT, hP, hl, ⟨d0, d2, d3, d4, d5⟩, -⟩ := id hR
  have hN := hT.1
  obtain ⟨hb1, hb2, hu, -, -⟩ := hW.2.2.1
  obtain ⟨b1, b2, b3⟩ := LT_nw hW hT hi
  have hst := st_le hW (show i ≤ A 30 2 by omega)
  obtain ⟨q1, q2, q3, q4⟩ := brs_ok (T := smN (A 31) i) hb1 hu (A 31 i)
  obtain ⟨p1, p2⟩ := pfi_bgn hi
  have g0 : (Hp_note (n3 i) 0 C).bind rt = some (n3 (A 31 i)) := g_note hW hC hi (w := 0) (by decide)
  have g1 : (Hp_note (n3 i) 1 C).bind rt = some (bI (!qf (eA A) (sA A) i)) := g_note hW hC hi (w := 1) (by decide)
  have g2 : (Hp_note (n3 i) 2 C).bind rt = some (n3 (phc (eA A) (i + 1) - 1)) := g_note hW hC hi (w := 2) (by decide)
  have g3 : (Hp_note (n3 i) 3 C).bind rt = some (n3 i - n3 (bgn (eA A) i)) := g_note hW hC hi (w := 3) (by decide)
  have g4 : (Hp_note (n3 i) 4 C).bind rt = some (n3 (bnum (A 30 12) (A 30 11) (smN (A 31) i))) := g_note hW hC hi (w := 4) (by decide)
  have g5 : (Hp_note (n3 i) 5 C).bind rt = some (n3 (buni (A 30 12) (A 30 11) (smN (A 31) i))) := g_note hW hC hi (w := 5) (by decide)
  have g6 : (Hp_note (n3 i) 6 C).bind rt = some (bI (bover (A 30 12) (A 30 11) (smN (A 31) i) (A 31 i))) := g_note hW hC hi (w := 6) (by decide)
  have g7 : (Hp_note (n3 i) 7 C).bind rt = some (n3 (wA A i)) := g_note hW hC hi (w := 7) (by decide)
  have g8 : (Hp_note (n3 i) 8 C).bind rt = some (pmk (A 32) i) := g_note hW hC hi (w := 8) (by decide)
  have hto : (brs (A 30 12) (A 30 11) (bnum (A 30 12) (A 30 11) (smN (A 31) i))).2.2 < 100000 := by
    generalize hz : bnum (A 30 12) (A 30 11) (smN (A 31) i) = z at *
    have hzb : z ≤ 321 := by
      rw [← hz]
      unfold bnum
      have : (smN (A 31) i - A 30 12) / A 30 11 ≤ smN (A 31) i - A 30 12 := Nat.div_le_self _ _
      split <;> omega
    cases z with
    | zero => show A 30 12 < 100000; omega
    | succ z =>
      show A 30 12 + (z + 1) * A 30 11 < 100000
      have : (z + 1) * A 30 11 ≤ 321 * 24 := Nat.mul_le_mul hzb hb2
      omega
  rw [La_note, La_phraseOf_ok hW hT hi, Option.bind_some, La_time_ok hW hT hi, Option.bind_some]
  dsimp only
  rw [show ldE 6 (M.1 30) 3 = some (n3 (A 30 12)) from by rw [l_3, ldE_in _ (by decide) (by decide), d3], Option.bind_some, La_bars_ok ⟨hb1, hb2⟩ hu hst d2, Option.bind_some]
  dsimp only
  rw [q1, g0, Option.bind_some, show (5 : Int32) * n3 i = n3 (5 * i) from by rw [l_5, n3_mul], ldE_in _ (by omega) (by decide), hT.2.2 i hi, Option.bind_some, (nw_ok b1 b2 b3).2.2.1, if_pos rfl, g1, Option.bind_some, La_slurred_ok hW hT hi, Option.bind_some, if_pos rfl, g2, Option.bind_some, if_pos rfl, g3, Option.bind_some, La_first_ok hW hT p1, Option.bind_some, p2, if_pos rfl, g4, Option.bind_some, if_pos rfl, g5, Option.bind_some, if_pos (by rw [n3_sub q2, q3]), g6, Option.bind_some, Option.bind_some, (nw_ok b1 b2 b3).2.2.1, n3_add, dec_le (by omega) (by omega), if_pos (by rw [q4]), g7, Option.bind_some, La_column_ok hW hT hl hs hi, Option.bind_some, if_pos rfl, g8, Option.bind_some, La_parallels_ok hW hT hP hi, Option.bind_some, if_pos rfl, La_parts_ok hW hC hR hi, Option.bind_some]
  dsimp only
  rw [La_heads_ok hW hC hR hi, Option.bind_some]
