/-! More calls that only ask. -/
theorem s_below {T : hyT} (h : INV T) (a b g d : Int32) : okS (La_below a b g d T) (Rf_below a b g d) := by
  obtain ⟨A, hW, hC, hR⟩ := h
  have hL := LA_len hW
  have hn := hW.1.1
  have hm := mA_lt hW
  have h18 : T.1.1 18 2 = n3 (LA A).length := hC.2.2.1.1
  have e1 : Hp_checkIndex a 4 T.1 = if ixB a 4 = true then .inr () else .inl 3 := ckI a 4 T.1
  have e2 : Hp_checkIndex b (T.1.1 18 2) T.1 = if ixB b (LA A).length = true then .inr () else .inl 3 := by rw [h18, ckI]
  obtain ⟨N, f1, f2, f3⟩ := Rf_laySung_ok hW hR
  have h25 : N.1 30 25 = n3 (LA A).length := f3.2.2.2.2.1.1
  have r1 := wi4 a N
  have r2 : Rf_within b 0 (N.1 30 25 - 1) N = ixB b (LA A).length := by rw [h25, wiI _ (by omega)]
  have bad : (if Rf_within a 0 3 N = true then Rf_within b 0 (N.1 30 25 - 1) N else false) = false → La_below a b g d T = some (1, T) → okS (La_below a b g d T) (Rf_below a b g d) := by
    intro q1 q2
    refine fin_t (T := T) (k := 1) (b := 0) (N := wI N 30 0 1) (by decide) hW hC (f3.t0 1).1 q2 ?_ (rd_eq _ _ _ _)
    rw [Rf_below, f1, Option.bind_some, q1, if_neg (by decide), Option.bind_some, rd_eq, if_neg gt0.1]
  rcases Bool.eq_false_or_eq_true (ixB a 4) with c | c
  · rw [c, if_pos rfl] at e1
    rcases Bool.eq_false_or_eq_true (ixB b (LA A).length) with c2 | c2
    · rw [c2, if_pos rfl] at e2
      obtain ⟨v, rfl, hv⟩ := ix_n3 c (by decide)
      obtain ⟨k, rfl, hk⟩ := ix_n3 c2 (by omega)
      have hkp : (LA A)[k]? = some ((LA A)[k]'hk) := List.getElem?_eq_getElem hk
      generalize (LA A)[k]'hk = p at hkp
      have hp : p < phc (eA A) (A 30 2) := LA_mem hW (List.mem_of_getElem? hkp)
      have hp40 : p < 40 := by unfold mA at hm; omega
      have hle := pfi_le_pla hp
      have hla := (pla_spec hp).1
      have e3a : Ph_notesOf (Or_phraseAt (n3 k) T.1) T.1 = n3 (pla (eA A) (A 30 2) p - pfi (eA A) (A 30 2) p + 1) := by
        rw [CA_at hW hC hkp]
        unfold Ph_notesOf Ph_lastOf Ph_firstOf
        rw [atf_in _ hp40 (by decide), atf_in _ hp40 (by decide), (hC.2.1.2.2.2 _ hp).1, (hC.2.1.2.2.2 _ hp).2.1, n3_sub hle, n3_s]
      have e3 : Hp_checkIndex g (Ph_notesOf (Or_phraseAt (n3 k) T.1) T.1) T.1 = if ixB g (pla (eA A) (A 30 2) p - pfi (eA A) (A 30 2) p + 1) = true then .inr () else .inl 3 := by rw [e3a, ckI]
      have e46 : ∀ x, (wI N 30 0 x).1 46 k = n3 p := fun x => (f3.t0 x).2.2.2.2.1.2 k p hkp
      have e43 : ∀ x, (wI N 30 0 x).1 43 p = n3 (pfi (eA A) (A 30 2) p) := fun x => ((f3.t0 x).2.1.2.2.2.2.2.2 p hp).1
      have n46 : N.1 46 k = n3 p := f3.2.2.2.2.1.2 k p hkp
      have n43 : N.1 43 p = n3 (pfi (eA A) (A 30 2) p) := (f3.2.1.2.2.2.2.2.2 p hp).1
      have n44 : N.1 44 p = n3 (pla (eA A) (A 30 2) p) := (f3.2.1.2.2.2.2.2.2 p hp).2
      have r3 : Rf_within g 0 (n3 (pla (eA A) (A 30 2) p) - n3 (pfi (eA A) (A 30 2) p)) N = ixB g (pla (eA A) (A 30 2) p - pfi (eA A) (A 30 2) p + 1) := by
        have := wiI g (s := pla (eA A) (A 30 2) p - pfi (eA A) (A 30 2) p + 1) (by omega) N
        rw [l_1, n3_sub (by omega), Nat.add_sub_cancel] at this
        rw [n3_sub hle]
        exact this
      have e4 := ckR d 0 3 T.1 N
      have hgo : (if Rf_within (n3 v) 0 3 N = true then Rf_within (n3 k) 0 (N.1 30 25 - 1) N else false) = true := by rw [r1, c, if_pos rfl, r2, c2]
      have rest : ∀ t : Int32, (if Rf_within g 0 (n3 (pla (eA A) (A 30 2) p) - n3 (pfi (eA A) (A 30 2) p)) N = true then (if Rf_within d 0 3 N = true then (0 : Int32) else 2) else 1) = t → Rf_below (n3 v) (n3 k) g d T.2.1 = (if (t : Int32) ≤ 0 then (ldE 80 ((wI N 30 0 t).1 46) (n3 k)).bind fun v28 => (ldE 40 ((wI N 30 0 t).1 43) v28).bind fun v29 => (Rf_belowNow (n3 v) (n3 k) (v29 + g) d (wI N 30 0 t)).bind fun v30 => some (v30, wI N 30 0 t) else some (0, wI N 30 0 t)) := by
        intro t ht
        rw [Rf_below, f1, Option.bind_some, hgo, if_pos rfl, ldE_in _ (by omega) (by decide), n46]
        simp only [Option.bind_some]
        rw [ldE_in _ hp40 (by decide), ldE_in _ hp40 (by decide), n44, n43]
        simp only [Option.bind_some]
        rw [ht, rd_eq]
      rcases Bool.eq_false_or_eq_true (ixB g (pla (eA A) (A 30 2) p - pfi (eA A) (A 30 2) p + 1)) with c3 | c3
      · rw [c3, if_pos rfl] at e3
        rw [c3] at r3
        rcases Bool.eq_false_or_eq_true (Rf_within d 0 3 N) with c4 | c4
        · rw [c4, if_pos rfl] at e4
          obtain ⟨j, rfl, hj⟩ := ix_n3 c3 (by omega)
          obtain ⟨w, rfl, -, hw⟩ := wi_n3 (lo := 0) (hi := 3) c4 (by decide) (by decide)
          obtain ⟨x, g1, g2⟩ := below_alk hW hC (f3.t0 0) hv hkp (show pfi (eA A) (A 30 2) p + j ≤ pla (eA A) (A 30 2) p by omega) hw
          refine fin_v (T := T) (v := x) hW hC (f3.t0 0).1 (rd_eq _ _ _ _) ?_ ?_
          · rw [La_below, Hp_below, e1]
            dsimp only
            rw [e2]
            dsimp only
            rw [e3]
            dsimp only
            rw [e4]
            dsimp only
            rw [Option.some.inj g1]
            rfl
          · rw [rest 0 (by rw [r3, if_pos rfl, c4, if_pos rfl]), if_pos gt0.2.2.2, ldE_in _ (by omega) (by decide), e46, Option.bind_some, ldE_in _ hp40 (by decide), e43, Option.bind_some, n3_add, g2]
            rfl
        · rw [c4, if_neg (by decide)] at e4
          refine fin_t (T := T) (k := 2) (b := 0) (N := wI N 30 0 2) (by decide) hW hC (f3.t0 2).1 ?_ ?_ (rd_eq _ _ _ _)
          · rw [La_below, Hp_below, e1]
            dsimp only
            rw [e2]
            dsimp only
            rw [e3]
            dsimp only
            rw [e4]
            rfl
          · rw [rest 2 (by rw [r3, if_pos rfl, c4, if_neg (by decide)]), if_neg gt0.2.1]
      · rw [c3, if_neg (by decide)] at e3
        rw [c3] at r3
        refine fin_t (T := T) (k := 1) (b := 0) (N := wI N 30 0 1) (by decide) hW hC (f3.t0 1).1 ?_ ?_ (rd_eq _ _ _ _)
        · rw [La_below, Hp_below, e1]
          dsimp only
          rw [e2]
          dsimp only
          rw [e3]
          rfl
        · rw [rest 1 (by rw [r3, if_neg (by decide)]), if_neg gt0.1]
    · rw [c2, if_neg (by decide)] at e2
      refine bad (by rw [r1, c, if_pos rfl, r2, c2]) ?_
      rw [La_below, Hp_below, e1]
      dsimp only
      rw [e2]
      rfl
  · rw [c, if_neg (by decide)] at e1
    refine bad (by rw [r1, c, if_neg (by decide)]) ?_
    rw [La_below, Hp_below, e1]
    rfl
theorem s_distance {T : hyT} (h : INV T) (a : Int32) : okS (La_distance a T) (Rf_distance a) := by
  obtain ⟨A, hW, hC, hR⟩ := h
  have hm8 := hW.2.2.2.2.1.1
  have h25 : T.1.1 25 2 = n3 (A 30 16) := hC.1.2.2.2.2.2.1.1
  have e1 : Hp_checkIndex a (T.1.1 25 2) T.1 = if ixB a (A 30 16) = true then .inr () else .inl 3 := by rw [h25, ckI]
  have e3 := isMet_eq hW hR a
  rcases Bool.eq_false_or_eq_true (ixB a (A 30 16)) with c | c
  · rw [c, if_pos rfl] at e1
    rw [c] at e3
    obtain ⟨m, rfl, hm⟩ := ix_n3 c (by omega)
    obtain ⟨N, f1, f2, f3⟩ := Rf_laySung_ok hW (RI.w hR (c := 30) (k := 0) (x := 0) rfl)
    refine fin_v (T := T) (v := dsV A m) hW hC f3.1 (by rw [f2.2 _ _ rfl]; exact rd_eq _ _ _ _) ?_ ?_
    · rw [La_distance, Hp_distance, e1]
      dsimp only
      rw [dist_class hW hC hm]
      rfl
    · rw [Rf_distance, e3, show bI (!true) = 0 from rfl, Option.bind_some, rd_eq, if_pos gt0.2.2.2, f1, Option.bind_some, dist_ref hW f3 hm]
      rfl
  · rw [c, if_neg (by decide)] at e1
    rw [c] at e3
    refine fin_t (T := T) (k := 1) (b := 0) (N := wI T.2.1 30 0 1) (by decide) hW hC (RI.w hR rfl) ?_ ?_ (rd_eq _ _ _ _)
    · rw [La_distance, Hp_distance, e1]
      rfl
    · rw [Rf_distance, e3, show bI (!false) = 1 from rfl, Option.bind_some, rd_eq, if_neg gt0.1]
theorem s_metre {T : hyT} (h : INV T) (a b : Int32) : okS (La_metre a b T) (Rf_metre a b) := by
  obtain ⟨A, hW, hC, hR⟩ := h
  have hm8 := hW.2.2.2.2.1.1
  have h25 : T.1.1 25 2 = n3 (A 30 16) := hC.1.2.2.2.2.2.1.1
  have e1 : Hp_checkIndex a (T.1.1 25 2) T.1 = if ixB a (A 30 16) = true then .inr () else .inl 3 := by rw [h25, ckI]
  have e3 := isMet_eq hW hR a
  rcases Bool.eq_false_or_eq_true (ixB a (A 30 16)) with c | c
  · rw [c, if_pos rfl] at e1
    rw [c] at e3
    obtain ⟨m, rfl, hm⟩ := ix_n3 c (by omega)
    obtain ⟨w1, w2, w3⟩ := hW.2.2.2.2.1.2 m hm
    obtain ⟨b1, b2⟩ := hC.1.2.2.2.2.2.1.2 m hm
    have es : Bo_sizeOf (n3 m) T.1 = n3 (A 40 m) := by unfold Bo_sizeOf; rw [atf_in _ (by omega) (by decide), b1]
    have ec : (if b < 0 then true else !decide (b < Bo_sizeOf (n3 m) T.1)) = !ixB b (A 40 m) := by
      rw [es]
      unfold ixB
      by_cases q : b < 0
      · have : ¬ (0 : Int32) ≤ b := fun w => (lt_le b 0).mpr w q
        rw [if_pos q]; simp [this]
      · have h1 := (lt_le b 0).mp q
        rw [if_neg q]; simp [h1]
    have r1 : Rf_within b 0 (n3 (A 40 m) - 1) (wI T.2.1 30 0 0) = ixB b (A 40 m) := wiI _ (by omega) _
    have e40 : (wI T.2.1 30 0 0).1 40 m = n3 (A 40 m) := by rw [rd_ne (by decide)]; exact hR 40 m rfl
    rcases Bool.eq_false_or_eq_true (ixB b (A 40 m)) with c2 | c2
    · obtain ⟨j, rfl, hj⟩ := ix_n3 c2 (by omega)
      have e41 : (wI T.2.1 30 0 0).1 41 (24 * m + j) = n3 (A 41 (24 * m + j)) := by rw [rd_ne (by decide)]; exact hR 41 _ rfl
      refine fin_v (T := T) (v := n3 (A 41 (24 * m + j))) hW hC (RI.w hR (c := 30) (k := 0) (x := 0) rfl) (rd_eq _ _ _ _) ?_ ?_
      · rw [La_metre, Hp_metre, e1]
        dsimp only
        rw [ec, c2, if_neg (by decide)]
        unfold Bo_numberAt
        rw [l_24, n3_mul, n3_add, atf_in _ (by omega) (by decide), b2 j hj]
        rfl
      · rw [Rf_metre, e3, show bI (!true) = 0 from rfl, Option.bind_some, rd_eq, if_pos gt0.2.2.2, ldE_in _ (by omega) (by decide), e40, Option.bind_some, r1, c2, if_pos rfl, l_24, n3_mul, n3_add, ldE_in _ (by omega) (by decide), e41]
        rfl
    · refine fin_v (T := T) (v := -1) hW hC (RI.w hR (c := 30) (k := 0) (x := 0) rfl) (rd_eq _ _ _ _) ?_ ?_
      · rw [La_metre, Hp_metre, e1]
        dsimp only
        rw [ec, c2, if_pos (by decide)]
        rfl
      · rw [Rf_metre, e3, show bI (!true) = 0 from rfl, Option.bind_some, rd_eq, if_pos gt0.2.2.2, ldE_in _ (by omega) (by decide), e40, Option.bind_some, r1, c2, if_neg (by decide)]
  · rw [c, if_neg (by decide)] at e1
    rw [c] at e3
    refine fin_t (T := T) (k := 1) (b := 0) (N := wI T.2.1 30 0 1) (by decide) hW hC (RI.w hR rfl) ?_ ?_ (rd_eq _ _ _ _)
    · rw [La_metre, Hp_metre, e1]
      rfl
    · rw [Rf_metre, e3, show bI (!false) = 1 from rfl, Option.bind_some, rd_eq, if_neg gt0.1]
theorem s_count {T : hyT} (h : INV T) (a : Int32) : okS (La_count a T) (Rf_count a) := by
  obtain ⟨A, hW, hC, hR⟩ := h
  have e2 := ckR a 0 13 T.1 T.2.1
  rcases Bool.eq_false_or_eq_true (Rf_within a 0 13 T.2.1) with d | d
  · rw [d, if_pos rfl] at e2
    obtain ⟨w, rfl, -, hw⟩ := wi_n3 (lo := 0) (hi := 13) d (by decide) (by decide)
    obtain ⟨N, f1, f2, f3, f4⟩ := Rf_lay_ok hW (RI.w hR (c := 30) (k := 0) (x := 0) rfl)
    obtain ⟨v, g1, g2⟩ := count_alk hW hC ⟨f3, f4⟩ hw
    have g3 : Hp_count (n3 w) T.1 = some (.inr v) := by
      rw [Hp_count, e2]
      dsimp only
      rw [l_7, ite_le (by omega) (by omega)]
      unfold cntC at g1
      by_cases q : w < 7
      · rw [if_pos q] at g1
        rw [if_neg (by omega), Option.some.inj g1]
      · rw [if_neg q] at g1
        rw [if_pos (by omega), g1]
        rfl
    refine fin_v (T := T) (v := v) hW hC f3.1 (by rw [f2.2 _ _ rfl]; exact rd_eq _ _ _ _) ?_ ?_
    · rw [La_count, g3]
      rfl
    · rw [Rf_count, d, show bI (!true) = 0 from rfl, Option.bind_some, rd_eq, if_pos gt0.2.2.2, f1, Option.bind_some, g2]
      rfl
  · rw [d, if_neg (by decide)] at e2
    refine fin_t (T := T) (k := 1) (b := 0) (N := wI T.2.1 30 0 1) (by decide) hW hC (RI.w hR rfl) ?_ ?_ (rd_eq _ _ _ _)
    · rw [La_count, Hp_count, e2]
      rfl
    · rw [Rf_count, d, show bI (!false) = 1 from rfl, Option.bind_some, rd_eq, if_neg gt0.1]
/-! calls that throw nothing -/
theorem s_nearest {T : hyT} (h : INV T) : ∃ v N, Hp_nearest T.1 = some v ∧ Rf_nearest T.2.1 = some (v, N) ∧ INV (T.1, N, T.2.2) := by
  obtain ⟨A, hW, hC, hR⟩ := h
  obtain ⟨N, f1, f2, f3⟩ := Rf_laySung_ok hW (RI.w hR (c := 30) (k := 0) (x := 0) rfl)
  refine ⟨_, N, near_class hW hC, ?_, A, hW, hC, f3.1⟩
  rw [Rf_nearest, Option.bind_some, f1, Option.bind_some, near_ref hW f3]
  rfl
theorem s_mean {T : hyT} (h : INV T) : ∃ v N, Hp_meanWidth T.1 = some v ∧ Rf_meanWidth T.2.1 = some (v, N) ∧ INV (T.1, N, T.2.2) ∧ Jd_isNaN v hM0 = false := by
  obtain ⟨A, hW, hC, hR⟩ := h
  obtain ⟨N, f1, f2, f3, f4⟩ := Rf_lay_ok hW (RI.w hR (c := 30) (k := 0) (x := 0) rfl)
  refine ⟨_, N, mean_class hW hC, ?_, ⟨A, hW, hC, f3.1⟩, ?_⟩
  · rw [Rf_meanWidth, Option.bind_some, f1, Option.bind_some, mean_ref hW ⟨f3, f4⟩]
    rfl
  · obtain ⟨b1, b2, b3⟩ := nsA_bd hW
    have hn := hW.1.1
    unfold mwV
    by_cases c : nsA A = 0
    · rw [if_pos c]; decide +kernel
    · rw [if_neg c]
      have := chk_ok (a := smN (wA A) (A 30 2)) (b := nsA A) (by omega) (by omega)
      unfold chkD at this
      rw [Bool.and_eq_true] at this
      simpa using this.2
theorem s_digest {T : hyT} (h : INV T) : ∃ v N, Hp_digest T.1 = some v ∧ Rf_digest T.2.1 = some (v, N) ∧ INV (T.1, N, T.2.2) := by
  obtain ⟨A, hW, hC, hR⟩ := h
  obtain ⟨N1, f1, f2, f3, f4⟩ := Rf_lay_ok hW hR
  obtain ⟨N, g1, g2, -⟩ := digest_ref hW hC hR
  exact ⟨_, N, digest_class hW hC ⟨f3, f4⟩, g1, A, hW, hC, g2⟩
