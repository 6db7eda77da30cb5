/-! The calls that only ask: the law's own methods and the reference's answer alike. -/
def INV (T : hyT) : Prop := ∃ A, WFA A ∧ CA A T.1 ∧ RI A T.2.1
def okS (l : Option (Int32 × hyT)) (r : hyM → Option (Int32 × hyM)) : Prop :=
  ∃ k T1 b N, l = some (k, T1) ∧ r T1.2.1 = some (b, N) ∧ N.1 30 0 = k ∧ (k = 0 → T1.2.2.2 51 0 = b.toInt64) ∧ INV (T1.1, N, T1.2.2)
theorem wTL_51 (T : hyT) (x : Int64) : wTL T 51 0 x = (T.1, T.2.1, wL T.2.2 51 0 x) := rfl
theorem fin_t {T : hyT} {A : aS} {l : Option (Int32 × hyT)} {r : hyM → Option (Int32 × hyM)} {k b : Int32} {M : hyM} {N : hyM} (hk : k ≠ 0) (hW : WFA A) (hC : CA A M) (hN : RI A N) (hl : l = some (k, (M, T.2))) (hr : r T.2.1 = some (b, N)) (h0 : N.1 30 0 = k) : okS l r :=
  ⟨k, _, b, N, hl, hr, h0, fun q => absurd q hk, A, hW, hC, hN⟩
theorem fin_v {T : hyT} {A : aS} {l : Option (Int32 × hyT)} {r : hyM → Option (Int32 × hyM)} {v : Int32} {M : hyM} {N : hyM} (hW : WFA A) (hC : CA A M) (hN : RI A N) (h0 : N.1 30 0 = 0) (hl : l = some (0, wTL (M, T.2) 51 0 v.toInt64)) (hr : r T.2.1 = some (v, N)) : okS l r := by
  refine ⟨0, _, v, N, hl, hr, h0, fun _ => ?_, A, hW, hC, hN⟩
  rw [wTL_51]
  show (wL T.2.2 51 0 v.toInt64).2 51 0 = v.toInt64
  rw [rd_wL, if_pos ⟨rfl, rfl⟩]
/-! ranges and numbers -/
def ixB (a : Int32) (s : Nat) : Bool := decide (0 ≤ a) && decide (a < n3 s)
theorem lt_le (a b : Int32) : ¬ a < b ↔ b ≤ a := Int32.not_lt
theorem wi_eq (a lo hi : Int32) (N : hyM) : Rf_within a lo hi N = (decide (lo ≤ a) && decide (a ≤ hi)) := by
  unfold Rf_within
  by_cases c : a < lo
  · have : ¬ lo ≤ a := fun q => (lt_le a lo).mpr q c
    rw [if_pos c]; simp [this]
  · have h1 := (lt_le a lo).mp c
    rw [if_neg c]
    by_cases d : hi < a
    · have : ¬ a ≤ hi := fun q => (lt_le hi a).mpr q d
      simp [d, this]
    · have h2 := (lt_le hi a).mp d
      simp [d, h1, h2]
theorem ckR (a lo hi : Int32) (M N : hyM) : Hp_checkRange a lo hi M = if Rf_within a lo hi N = true then .inr () else .inl 1 := by
  rw [wi_eq]
  unfold Hp_checkRange
  by_cases c : a < lo
  · have : ¬ lo ≤ a := fun q => (lt_le a lo).mpr q c
    rw [if_pos c, if_pos rfl]; simp [this]
  · have h1 := (lt_le a lo).mp c
    rw [if_neg c]
    by_cases d : a ≤ hi
    · simp [d, h1]
    · simp [d]
theorem n3_of {a : Int32} (h : 0 ≤ a) : ∃ k, a = n3 k ∧ k < 2147483648 := ⟨a.toNatClampNeg, (Int32.ofNat_toNatClampNeg a h).symm, Int32.toNatClampNeg_lt a⟩
theorem wi_n3 {a : Int32} {lo hi : Nat} {N : hyM} (h : Rf_within a (n3 lo) (n3 hi) N = true) (hlo : lo < 2147483648) (hhi : hi < 2147483648) : ∃ k, a = n3 k ∧ lo ≤ k ∧ k ≤ hi := by
  rw [wi_eq, Bool.and_eq_true, decide_eq_true_eq, decide_eq_true_eq] at h
  have h0 : (0 : Int32) ≤ a := Int32.le_trans (show (0 : Int32) ≤ n3 lo by rw [l_0, n3_le (by decide) hlo]; exact Nat.zero_le _) h.1
  obtain ⟨k, rfl, hk⟩ := n3_of h0
  rw [n3_le hlo hk, n3_le hk hhi] at h
  exact ⟨k, rfl, h.1, h.2⟩
theorem wi_in {k lo hi : Nat} (N : hyM) (h1 : lo ≤ k) (h2 : k ≤ hi) (hhi : hi < 2147483648) : Rf_within (n3 k) (n3 lo) (n3 hi) N = true := by
  rw [wi_eq, dec_le (by omega) (by omega), dec_le (by omega) (by omega)]
  simp [h1, h2]
theorem ckI (a : Int32) (s : Nat) (M : hyM) : Hp_checkIndex a (n3 s) M = if ixB a s = true then .inr () else .inl 3 := by
  unfold Hp_checkIndex ixB
  by_cases c : a < 0
  · have : ¬ (0 : Int32) ≤ a := fun q => (lt_le a 0).mpr q c
    rw [if_pos c, if_pos rfl]; simp [this]
  · have h1 := (lt_le a 0).mp c
    rw [if_neg c]
    by_cases d : a < n3 s
    · simp [d, h1]
    · simp [d]
theorem ix_n3 {a : Int32} {s : Nat} (h : ixB a s = true) (hs : s < 2147483648) : ∃ k, a = n3 k ∧ k < s := by
  unfold ixB at h
  rw [Bool.and_eq_true, decide_eq_true_eq, decide_eq_true_eq] at h
  obtain ⟨k, rfl, hk⟩ := n3_of h.1
  rw [n3_lt hk hs] at h
  exact ⟨k, rfl, h.2⟩
theorem wiI (a : Int32) {s : Nat} (hs : s < 2147483648) (N : hyM) : Rf_within a 0 (n3 s - 1) N = ixB a s := by
  rw [wi_eq]
  unfold ixB
  by_cases h0 : (0 : Int32) ≤ a
  · obtain ⟨k, rfl, hk⟩ := n3_of h0
    by_cases c : s = 0
    · subst c
      have h1 : decide (n3 k ≤ n3 0 - 1) = false := by
        rw [decide_eq_false_iff_not]
        intro q
        have h2 : n3 0 - 1 < n3 0 := by decide
        have h3 := Int32.lt_of_le_of_lt q h2
        rw [n3_lt hk (by decide)] at h3
        omega
      rw [h1, dec_lt hk (by decide)]
      simp
    · rw [l_1, n3_sub (by omega), dec_le hk (by omega), dec_lt hk hs]
      congr 1
      apply decide_eq_decide.mpr
      omega
  · simp [h0]
theorem isNote_eq {A : aS} {N : hyM} (hW : WFA A) (hR : RI A N) (a : Int32) : Rf_isNote a N = ixB a (A 30 2) := by
  unfold Rf_isNote
  rw [hR 30 2 rfl, wiI _ (by have := hW.1.1; omega)]
theorem isMet_eq {A : aS} {N : hyM} (hW : WFA A) (hR : RI A N) (a : Int32) : Rf_isMetre a N = ixB a (A 30 16) := by
  unfold Rf_isMetre
  rw [hR 30 16 rfl, wiI _ (by have := hW.2.2.2.2.1.1; omega)]
theorem wi4 (a : Int32) (N : hyM) : Rf_within a 0 3 N = ixB a 4 := by
  have := wiI a (s := 4) (by decide) N
  rw [show n3 4 - 1 = (3 : Int32) from by decide] at this
  exact this
theorem wi2 (a : Int32) (N : hyM) : Rf_within a 0 1 N = ixB a 2 := by
  have := wiI a (s := 2) (by decide) N
  rw [show n3 2 - 1 = (1 : Int32) from by decide] at this
  exact this
theorem wi24 (a : Int32) (N : hyM) : Rf_within a 0 23 N = ixB a 24 := by
  have := wiI a (s := 24) (by decide) N
  rw [show n3 24 - 1 = (23 : Int32) from by decide] at this
  exact this
theorem isPart_eq {A : aS} {N : hyM} (hW : WFA A) (hR : RI A N) (a b : Int32) : Rf_isPart a b N = (ixB a (A 30 2) && ixB b 4) := by
  unfold Rf_isPart
  rw [isNote_eq hW hR, wi4]
  cases ixB a (A 30 2) <;> rfl
theorem isLine_eq (a b : Int32) (N : hyM) : Rf_isLine a b N = (ixB a 4 && ixB b 24) := by
  unfold Rf_isLine
  rw [wi4, wi24]
  cases ixB a 4 <;> rfl
theorem gt0 : ¬ (1 : Int32) ≤ 0 ∧ ¬ (2 : Int32) ≤ 0 ∧ ¬ (3 : Int32) ≤ 0 ∧ (0 : Int32) ≤ 0 := by decide
theorem s_note {T : hyT} (h : INV T) (a b : Int32) : okS (La_note a b T) (Rf_note a b) := by
  obtain ⟨A, hW, hC, hR⟩ := h
  have hn := hW.1.1
  have e1 : Hp_checkIndex a (T.1.1 1 4) T.1 = if ixB a (A 30 2) = true then .inr () else .inl 3 := by rw [CA_n hC, ckI]
  have e2 := ckR b 0 8 T.1 T.2.1
  have e3 := isNote_eq hW hR a
  rcases Bool.eq_false_or_eq_true (ixB a (A 30 2)) with c | c
  · rw [c, if_pos rfl] at e1
    rw [c] at e3
    rcases Bool.eq_false_or_eq_true (Rf_within b 0 8 T.2.1) with d | d
    · rw [d, if_pos rfl] at e2
      obtain ⟨i, rfl, hi⟩ := ix_n3 c (by omega)
      obtain ⟨w, rfl, -, hw⟩ := wi_n3 (lo := 0) (hi := 8) d (by decide) (by decide)
      obtain ⟨N, f1, f2, f3, f4⟩ := Rf_lay_ok hW (RI.w hR (c := 30) (k := 0) (x := 0) rfl)
      obtain ⟨v, g1, g2⟩ := note_alk hW hC ⟨f3, f4⟩ hi hw
      refine fin_v (T := T) (v := v) hW hC (f3.1) (by rw [f2.2 _ _ rfl]; exact rd_eq _ _ _ _) ?_ ?_
      · rw [La_note, Hp_note, e1]
        dsimp only
        rw [e2]
        dsimp only
        rw [g1]
        rfl
      · rw [Rf_note, e3, if_pos rfl, d, if_pos rfl, Option.bind_some, rd_eq, if_pos gt0.2.2.2, f1, Option.bind_some, g2]
        rfl
    · rw [d, if_neg (by decide)] at e2
      refine fin_t (T := T) (k := 2) (b := 0) (N := wI T.2.1 30 0 2) (by decide) hW hC (RI.w hR rfl) ?_ ?_ (rd_eq _ _ _ _)
      · rw [La_note, Hp_note, e1]
        dsimp only
        rw [e2]
        rfl
      · rw [Rf_note, e3, if_pos rfl, d, if_neg (by decide), Option.bind_some, rd_eq, if_neg gt0.2.1]
  · rw [c, if_neg (by decide)] at e1
    rw [c] at e3
    refine fin_t (T := T) (k := 1) (b := 0) (N := wI T.2.1 30 0 1) (by decide) hW hC (RI.w hR rfl) ?_ ?_ (rd_eq _ _ _ _)
    · rw [La_note, Hp_note, e1]
      rfl
    · rw [Rf_note, e3, if_neg (by decide), Option.bind_some, rd_eq, if_neg gt0.1]
theorem s_part {T : hyT} (h : INV T) (a b g : Int32) : okS (La_part a b g T) (Rf_part a b g) := by
  obtain ⟨A, hW, hC, hR⟩ := h
  have hn := hW.1.1
  have e1 : Hp_checkIndex a (T.1.1 1 4) T.1 = if ixB a (A 30 2) = true then .inr () else .inl 3 := by rw [CA_n hC, ckI]
  have e1b : Hp_checkIndex b 4 T.1 = if ixB b 4 = true then .inr () else .inl 3 := ckI b 4 T.1
  have e2 := ckR g 0 5 T.1 T.2.1
  have e3 := isPart_eq hW hR a b
  have bad : Rf_isPart a b T.2.1 = false → La_part a b g T = some (1, T) → okS (La_part a b g T) (Rf_part a b g) := by
    intro q1 q2
    refine fin_t (T := T) (k := 1) (b := 0) (N := wI T.2.1 30 0 1) (by decide) hW hC (RI.w hR rfl) q2 ?_ (rd_eq _ _ _ _)
    rw [Rf_part, q1, if_neg (by decide), Option.bind_some, rd_eq, if_neg gt0.1]
  rcases Bool.eq_false_or_eq_true (ixB a (A 30 2)) with c | c
  · rw [c, if_pos rfl] at e1
    rcases Bool.eq_false_or_eq_true (ixB b 4) with c2 | c2
    · rw [c2, if_pos rfl] at e1b
      rw [c, c2] at e3
      rcases Bool.eq_false_or_eq_true (Rf_within g 0 5 T.2.1) with d | d
      · rw [d, if_pos rfl] at e2
        obtain ⟨i, rfl, hi⟩ := ix_n3 c (by omega)
        obtain ⟨p, rfl, hp⟩ := ix_n3 c2 (by decide)
        obtain ⟨w, rfl, -, hw⟩ := wi_n3 (lo := 0) (hi := 5) d (by decide) (by decide)
        obtain ⟨v, g1, g2⟩ := part_alk hW hC (RI.w hR (c := 30) (k := 0) (x := 0) rfl) hi hp hw
        refine fin_v (T := T) (v := v) hW hC (RI.w hR (c := 30) (k := 0) (x := 0) rfl) (rd_eq _ _ _ _) ?_ ?_
        · rw [La_part, Hp_part, e1]
          dsimp only
          rw [e1b]
          dsimp only
          rw [e2]
          dsimp only
          rw [g1]
          rfl
        · rw [Rf_part, e3, if_pos (by rfl), d, if_pos rfl, Option.bind_some, rd_eq, if_pos gt0.2.2.2, g2]
          rfl
      · rw [d, if_neg (by decide)] at e2
        refine fin_t (T := T) (k := 2) (b := 0) (N := wI T.2.1 30 0 2) (by decide) hW hC (RI.w hR rfl) ?_ ?_ (rd_eq _ _ _ _)
        · rw [La_part, Hp_part, e1]
          dsimp only
          rw [e1b]
          dsimp only
          rw [e2]
          rfl
        · rw [Rf_part, e3, if_pos (by rfl), d, if_neg (by decide), Option.bind_some, rd_eq, if_neg gt0.2.1]
    · rw [c2, if_neg (by decide)] at e1b
      rw [c, c2] at e3
      refine bad e3 ?_
      rw [La_part, Hp_part, e1]
      dsimp only
      rw [e1b]
      rfl
  · rw [c, if_neg (by decide)] at e1
    rw [c] at e3
    refine bad e3 ?_
    rw [La_part, Hp_part, e1]
    rfl
theorem s_heads {T : hyT} (h : INV T) (a b : Int32) : okS (La_heads a b T) (Rf_heads a b) := by
  obtain ⟨A, hW, hC, hR⟩ := h
  have hn := hW.1.1
  have e1 : Hp_checkIndex a (T.1.1 1 4) T.1 = if ixB a (A 30 2) = true then .inr () else .inl 3 := by rw [CA_n hC, ckI]
  have e1b : Hp_checkIndex b 2 T.1 = if ixB b 2 = true then .inr () else .inl 3 := ckI b 2 T.1
  have e3 := isNote_eq hW hR a
  have e4 := wi2 b T.2.1
  rcases Bool.eq_false_or_eq_true (ixB a (A 30 2)) with c | c
  · rw [c, if_pos rfl] at e1
    rw [c] at e3
    rcases Bool.eq_false_or_eq_true (ixB b 2) with c2 | c2
    · rw [c2, if_pos rfl] at e1b
      rw [c2] at e4
      obtain ⟨i, rfl, hi⟩ := ix_n3 c (by omega)
      obtain ⟨p, rfl, hp⟩ := ix_n3 c2 (by decide)
      obtain ⟨v, g1, g2⟩ := heads_alk hW hC (RI.w hR (c := 30) (k := 0) (x := 0) rfl) hi hp
      refine fin_v (T := T) (v := v) hW hC (RI.w hR (c := 30) (k := 0) (x := 0) rfl) (rd_eq _ _ _ _) ?_ ?_
      · rw [La_heads, Hp_heads, e1]
        dsimp only
        rw [e1b]
        dsimp only
        rw [g1]
        rfl
      · rw [Rf_heads, e3, if_pos rfl, e4, show bI (!true) = 0 from rfl, Option.bind_some, rd_eq, if_pos gt0.2.2.2, g2]
        rfl
    · rw [c2, if_neg (by decide)] at e1b
      rw [c2] at e4
      refine fin_t (T := T) (k := 1) (b := 0) (N := wI T.2.1 30 0 1) (by decide) hW hC (RI.w hR rfl) ?_ ?_ (rd_eq _ _ _ _)
      · rw [La_heads, Hp_heads, e1]
        dsimp only
        rw [e1b]
        rfl
      · rw [Rf_heads, e3, if_pos rfl, e4, show bI (!false) = 1 from rfl, Option.bind_some, rd_eq, if_neg gt0.1]
  · rw [c, if_neg (by decide)] at e1
    rw [c] at e3
    refine fin_t (T := T) (k := 1) (b := 0) (N := wI T.2.1 30 0 1) (by decide) hW hC (RI.w hR rfl) ?_ ?_ (rd_eq _ _ _ _)
    · rw [La_heads, Hp_heads, e1]
      rfl
    · rw [Rf_heads, e3, if_neg (by decide), show bI true = 1 from rfl, Option.bind_some, rd_eq, if_neg gt0.1]
theorem s_phrase {T : hyT} (h : INV T) (a b : Int32) : okS (La_phrase a b T) (Rf_phrase a b) := by
  obtain ⟨A, hW, hC, hR⟩ := h
  have hm := mA_lt hW
  have h12 : T.1.1 12 5 = n3 (mA A) := hC.2.1.1
  have e1 : Hp_checkIndex a (T.1.1 12 5) T.1 = if ixB a (mA A) = true then .inr () else .inl 3 := by rw [h12, ckI]
  obtain ⟨N, f1, f2, f3, f4⟩ := Rf_lay_ok hW hR
  have h21 : N.1 30 21 = n3 (mA A) := f3.2.1.2.2.2.2.1
  have e2 := ckR b 0 5 T.1 N
  have e3 : Rf_within a 0 (N.1 30 21 - 1) N = ixB a (mA A) := by rw [h21, wiI _ (by omega)]
  have r0 : ∀ x, RLa A (wI N 30 0 x) := by
    intro x
    have g : frm (fun c k => Nat.beq c 30 && Nat.beq k 0) N (wI N 30 0 x) := (frm.rf _ _).w rfl
    obtain ⟨⟨p1, p2, p3, p4, p5, p6, p7⟩, p, t, ⟨s1, s2⟩, l, l2⟩ := f3.2
    refine ⟨⟨RI.w f3.1 rfl, ⟨p1, by rw [rd_nk (by decide)]; exact p2, fun i hi => by rw [rd_ne (by decide)]; exact p3 i hi, fun i hi => by rw [rd_ne (by decide)]; exact p4 i hi, by rw [rd_nk (by decide)]; exact p5, fun i hi => by rw [rd_ne (by decide)]; exact p6 i hi, fun p hp => by rw [rd_ne (by decide), rd_ne (by decide)]; exact p7 p hp⟩, p, fun r hr => ⟨by rw [rd_ne (by decide)]; exact (t r hr).1, fun i => by rw [rd_ne (by decide)]; exact (t r hr).2 i⟩, ⟨by rw [rd_nk (by decide)]; exact s1, fun i x hx => by rw [rd_ne (by decide)]; exact s2 i x hx⟩, l, l2⟩, ?_⟩
    obtain ⟨q1, q2, q3⟩ := f4
    exact ⟨fun i hi => by rw [rd_ne (by decide)]; exact q1 i hi, fun p hp => by rw [rd_ne (by decide), rd_ne (by decide)]; exact q2 p hp, by rw [rd_nk (by decide)]; exact q3⟩
  rcases Bool.eq_false_or_eq_true (ixB a (mA A)) with c | c
  · rw [c, if_pos rfl] at e1
    rw [c] at e3
    rcases Bool.eq_false_or_eq_true (Rf_within b 0 5 N) with d | d
    · rw [d, if_pos rfl] at e2
      obtain ⟨i, rfl, hi⟩ := ix_n3 c (by omega)
      obtain ⟨w, rfl, -, hw⟩ := wi_n3 (lo := 0) (hi := 5) d (by decide) (by decide)
      obtain ⟨v, g1, g2⟩ := phrase_alk hW hC (r0 0) hi hw
      refine fin_v (T := T) (v := v) hW hC (r0 0).1.1 (rd_eq _ _ _ _) ?_ ?_
      · rw [La_phrase, Hp_phrase, e1]
        dsimp only
        rw [e2]
        dsimp only
        rw [Option.some.inj g1]
        rfl
      · rw [Rf_phrase, f1, Option.bind_some, e3, if_pos rfl, d, if_pos rfl, Option.bind_some, rd_eq, if_pos gt0.2.2.2, g2]
        rfl
    · rw [d, if_neg (by decide)] at e2
      refine fin_t (T := T) (k := 2) (b := 0) (N := wI N 30 0 2) (by decide) hW hC (r0 2).1.1 ?_ ?_ (rd_eq _ _ _ _)
      · rw [La_phrase, Hp_phrase, e1]
        dsimp only
        rw [e2]
        rfl
      · rw [Rf_phrase, f1, Option.bind_some, e3, if_pos rfl, d, if_neg (by decide), Option.bind_some, rd_eq, if_neg gt0.2.1]
  · rw [c, if_neg (by decide)] at e1
    rw [c] at e3
    refine fin_t (T := T) (k := 1) (b := 0) (N := wI N 30 0 1) (by decide) hW hC (r0 1).1.1 ?_ ?_ (rd_eq _ _ _ _)
    · rw [La_phrase, Hp_phrase, e1]
      rfl
    · rw [Rf_phrase, f1, Option.bind_some, e3, if_neg (by decide), Option.bind_some, rd_eq, if_neg gt0.1]
/-- a write of the thrown number, behind laySung -/
theorem RA.t0 {A : aS} {N : hyM} (h : RA A N) (x : Int32) : RA A (wI N 30 0 x) := by
  obtain ⟨p1, p2, p3, p4, p5, p6, p7⟩ := h.2.1
  obtain ⟨-, p, t, ⟨s1, s2⟩, l, l2⟩ := h.2
  exact ⟨RI.w h.1 rfl, ⟨p1, by rw [rd_nk (by decide)]; exact p2, fun i hi => by rw [rd_ne (by decide)]; exact p3 i hi, fun i hi => by rw [rd_ne (by decide)]; exact p4 i hi, by rw [rd_nk (by decide)]; exact p5, fun i hi => by rw [rd_ne (by decide)]; exact p6 i hi, fun p hp => by rw [rd_ne (by decide), rd_ne (by decide)]; exact p7 p hp⟩, p, fun r hr => ⟨by rw [rd_ne (by decide)]; exact (t r hr).1, fun i => by rw [rd_ne (by decide)]; exact (t r hr).2 i⟩, ⟨by rw [rd_nk (by decide)]; exact s1, fun i x hx => by rw [rd_ne (by decide)]; exact s2 i x hx⟩, l, l2⟩
theorem s_sung {T : hyT} (h : INV T) (a : Int32) : okS (La_sung a T) (Rf_sung a) := by
  obtain ⟨A, hW, hC, hR⟩ := h
  have hL := LA_len hW
  have h18 : T.1.1 18 2 = n3 (LA A).length := hC.2.2.1.1
  have e1 : Hp_checkIndex a (T.1.1 18 2) T.1 = if ixB a (LA A).length = true then .inr () else .inl 3 := by rw [h18, ckI]
  obtain ⟨N, f1, f2, f3⟩ := Rf_laySung_ok hW hR
  have h25 : N.1 30 25 = n3 (LA A).length := f3.2.2.2.2.1.1
  have e3 : Rf_within a 0 (N.1 30 25 - 1) N = ixB a (LA A).length := by rw [h25, wiI _ (by omega)]
  rcases Bool.eq_false_or_eq_true (ixB a (LA A).length) with c | c
  · rw [c, if_pos rfl] at e1
    rw [c] at e3
    obtain ⟨k, rfl, hk⟩ := ix_n3 c (by omega)
    have hkp : (LA A)[k]? = some ((LA A)[k]'hk) := List.getElem?_eq_getElem hk
    refine fin_v (T := T) (v := n3 ((LA A)[k]'hk)) hW hC (f3.t0 0).1 (rd_eq _ _ _ _) ?_ ?_
    · rw [La_sung, Hp_sung, e1]
      dsimp only
      rw [CA_at hW hC hkp]
      rfl
    · rw [Rf_sung, f1, Option.bind_some, e3, show bI (!true) = 0 from rfl, Option.bind_some, rd_eq, if_pos gt0.2.2.2, ldE_in _ (by omega) (by decide), (f3.t0 0).2.2.2.2.1.2 k _ hkp]
      rfl
  · rw [c, if_neg (by decide)] at e1
    rw [c] at e3
    refine fin_t (T := T) (k := 1) (b := 0) (N := wI N 30 0 1) (by decide) hW hC (f3.t0 1).1 ?_ ?_ (rd_eq _ _ _ _)
    · rw [La_sung, Hp_sung, e1]
      rfl
    · rw [Rf_sung, f1, Option.bind_some, e3, show bI (!false) = 1 from rfl, Option.bind_some, rd_eq, if_neg gt0.1]
theorem s_fit {T : hyT} (h : INV T) (a : Int32) : okS (La_fit a T) (Rf_fit a) := by
  obtain ⟨A, hW, hC, hR⟩ := h
  have e1 : Hp_checkIndex a 4 T.1 = if ixB a 4 = true then .inr () else .inl 3 := ckI a 4 T.1
  have e3 := wi4 a T.2.1
  rcases Bool.eq_false_or_eq_true (ixB a 4) with c | c
  · rw [c, if_pos rfl] at e1
    rw [c] at e3
    obtain ⟨v, rfl, hv⟩ := ix_n3 c (by decide)
    obtain ⟨N, f1, f2, f3⟩ := Rf_laySung_ok hW (RI.w hR (c := 30) (k := 0) (x := 0) rfl)
    refine fin_v (T := T) (v := fitV A v) hW hC f3.1 (by rw [f2.2 _ _ rfl]; exact rd_eq _ _ _ _) ?_ ?_
    · rw [La_fit, Hp_fit, e1]
      dsimp only
      rw [fit_class hW hC hv]
      rfl
    · rw [Rf_fit, e3, show bI (!true) = 0 from rfl, Option.bind_some, rd_eq, if_pos gt0.2.2.2, f1, Option.bind_some, fit_ref hW f3 hv]
      rfl
  · rw [c, if_neg (by decide)] at e1
    rw [c] at e3
    refine fin_t (T := T) (k := 1) (b := 0) (N := wI T.2.1 30 0 1) (by decide) hW hC (RI.w hR rfl) ?_ ?_ (rd_eq _ _ _ _)
    · rw [La_fit, Hp_fit, e1]
      rfl
    · rw [Rf_fit, e3, show bI (!false) = 1 from rfl, Option.bind_some, rd_eq, if_neg gt0.1]
theorem s_line {T : hyT} (h : INV T) (a b g : Int32) : okS (La_line a b g T) (Rf_line a b g) := by
  obtain ⟨A, hW, hC, hR⟩ := h
  have e1 : Hp_checkIndex a 4 T.1 = if ixB a 4 = true then .inr () else .inl 3 := ckI a 4 T.1
  have e1b : Hp_checkIndex b 24 T.1 = if ixB b 24 = true then .inr () else .inl 3 := ckI b 24 T.1
  have e2 := ckR g 0 2 T.1 T.2.1
  have e3 := isLine_eq a b T.2.1
  have bad : Rf_isLine a b T.2.1 = false → La_line a b g T = some (1, T) → okS (La_line a b g T) (Rf_line a b g) := by
    intro q1 q2
    refine fin_t (T := T) (k := 1) (b := 0) (N := wI T.2.1 30 0 1) (by decide) hW hC (RI.w hR rfl) q2 ?_ (rd_eq _ _ _ _)
    rw [Rf_line, q1, if_neg (by decide), Option.bind_some, rd_eq, if_neg gt0.1]
  rcases Bool.eq_false_or_eq_true (ixB a 4) with c | c
  · rw [c, if_pos rfl] at e1
    rcases Bool.eq_false_or_eq_true (ixB b 24) with c2 | c2
    · rw [c2, if_pos rfl] at e1b
      rw [c, c2] at e3
      rcases Bool.eq_false_or_eq_true (Rf_within g 0 2 T.2.1) with d | d
      · rw [d, if_pos rfl] at e2
        obtain ⟨v, rfl, hv⟩ := ix_n3 c (by decide)
        obtain ⟨l, rfl, hl⟩ := ix_n3 c2 (by decide)
        obtain ⟨w, rfl, -, hw⟩ := wi_n3 (lo := 0) (hi := 2) d (by decide) (by decide)
        obtain ⟨x, g1, g2⟩ := line_alk hW hC (RI.w hR (c := 30) (k := 0) (x := 0) rfl) hv hl hw
        have erow : 24 * n3 v + n3 l = n3 (v * 24 + l) := by rw [l_24, n3_mul, n3_add, Nat.mul_comm]
        refine fin_v (T := T) (v := x) hW hC (RI.w hR (c := 30) (k := 0) (x := 0) rfl) (rd_eq _ _ _ _) ?_ ?_
        · rw [La_line, Hp_line, e1]
          dsimp only
          rw [e1b]
          dsimp only
          rw [e2]
          dsimp only
          rw [g1]
          rfl
        · rw [Rf_line, e3, if_pos (by rfl), d, if_pos rfl, Option.bind_some, rd_eq, if_pos gt0.2.2.2, erow, g2]
          rfl
      · rw [d, if_neg (by decide)] at e2
        refine fin_t (T := T) (k := 2) (b := 0) (N := wI T.2.1 30 0 2) (by decide) hW hC (RI.w hR rfl) ?_ ?_ (rd_eq _ _ _ _)
        · rw [La_line, Hp_line, e1]
          dsimp only
          rw [e1b]
          dsimp only
          rw [e2]
          rfl
        · rw [Rf_line, e3, if_pos (by rfl), d, if_neg (by decide), Option.bind_some, rd_eq, if_neg gt0.2.1]
    · rw [c2, if_neg (by decide)] at e1b
      rw [c, c2] at e3
      refine bad e3 ?_
      rw [La_line, Hp_line, e1]
      dsimp only
      rw [e1b]
      rfl
  · rw [c, if_neg (by decide)] at e1
    rw [c] at e3
    refine bad e3 ?_
    rw [La_line, Hp_line, e1]
    rfl
