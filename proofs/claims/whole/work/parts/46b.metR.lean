/-! The reference reads metres. -/
def RM (s : mS) (K : Nat) (N : hyM) : Prop := N.1 30 32 = n3 s.1 ∧ N.1 30 33 = n3 s.2.2.1.toNat ∧ (∃ w, N.1 30 31 = n3 w ∧ w ≤ K ∧ (0 < w ↔ 0 < s.2.1)) ∧ ∀ i, i < s.1 → N.1 50 i = n3 (s.2.2.2 i)
theorem tn0 (d : Bool) : (n3 d.toNat = 0) ↔ d = false := by cases d <;> decide
theorem tn0' (d : Bool) : decide (n3 d.toNat = 0) = !d := by cases d <;> decide
theorem td_no {c w : Nat} {d : Bool} {N : hyM} (hc : c < 128) (h31 : N.1 30 31 = n3 w) (h33 : N.1 30 33 = n3 d.toNat) (hd : (dg c && !d) = false) : Rf_takesDigit (n3 c) N = some (false, wI N 30 31 (n3 w)) := by
  have hB : (if Rf_within (n3 c - 48) 0 9 N = true then decide (N.1 30 33 = 0) else false) = false := by
    rw [show Rf_within (n3 c - 48) 0 9 N = dg c from m_wi ⟨c, hc⟩, h33, tn0', ← hd]
    cases dg c <;> rfl
  rw [Rf_takesDigit, hB, if_neg (show ¬ (if false = true then decide (N.1 30 31 = 0) else false) = true from fun z => by cases z), if_neg (by decide), h31, Option.bind_some, show bI false = n3 0 from rfl, n3_add]
  rfl
theorem takes_ok {c K : Nat} {s : mS} {N : hyM} (hc : c < 128) (hI : MI s) (hR : RM s K N) (hK : K ≤ 60) :
    (∃ s' N', mst c s = some s' ∧ Rf_takesMetre (n3 c) N = some (true, N') ∧ RM s' (K + 1) N' ∧ frm rscr N N') ∨ (∃ N', mst c s = none ∧ Rf_takesMetre (n3 c) N = some (false, N') ∧ RM s (K + 1) N' ∧ frm rscr N N') := by
  obtain ⟨n, v, d, f⟩ := s
  obtain ⟨h1, h2, h3, h4, h5, h6⟩ := hI
  obtain ⟨r1, r2, ⟨w, r3, hw, hwv⟩, r4⟩ := hR
  dsimp only at h1 h2 h3 h4 h5 h6 r1 r2 r4 hwv
  have same : RM (n, v, d, f) (K + 1) (wI N 30 31 (n3 w)) := ⟨by rw [rd_nk (by decide)]; exact r1, by rw [rd_nk (by decide)]; exact r2, ⟨w, rd_eq _ _ _ _, by omega, hwv⟩, fun i hi => by rw [rd_ne (by decide)]; exact r4 i hi⟩
  have fsame : frm rscr N (wI N 30 31 (n3 w)) := (frm.rf _ _).w rfl
  have k2 : (if n3 c = 46 then (if N.1 30 31 ≤ 0 then false else (!decide (24 ≤ N.1 30 32))) else false) = q2 c (n, v, d, f) := by
    rw [r1, r3, show (46 : Int32) = n3 46 from rfl, l_0, l_24, ite_eq (by omega) (by omega), ite_le (by omega) (by omega), dec_le (by omega) (by omega)]
    unfold q2
    by_cases z : c = 46
    · rw [if_pos z, show Nat.beq c 46 = true from by rw [z]; rfl, Bool.true_and]
      by_cases z2 : w ≤ 0
      · rw [if_pos z2, show decide (0 < v) = false from decide_eq_false (fun q => by have := hwv.mpr q; omega)]; rfl
      · rw [if_neg z2, show decide (0 < v) = true from decide_eq_true (hwv.mp (by omega)), Bool.true_and]
        by_cases z3 : 24 ≤ n
        · rw [decide_eq_true z3, show decide (n < 24) = false from decide_eq_false (by omega)]; rfl
        · rw [decide_eq_false z3, show decide (n < 24) = true from decide_eq_true (by omega)]; rfl
    · rw [if_neg z, show Nat.beq c 46 = false from nbf z]; rfl
  have k3 : (if n3 c = 68 then (if N.1 30 31 = 0 then (if N.1 30 32 ≤ 0 then false else (if N.1 30 33 = 0 then (!decide (24 < 2 * N.1 30 32)) else false)) else false) else false) = q3 c (n, v, d, f) := by
    rw [r1, r2, r3, show (68 : Int32) = n3 68 from rfl, show (2 : Int32) = n3 2 from rfl, n3_mul, l_0, l_24, ite_eq (by omega) (by omega), ite_eq (by omega) (by omega), ite_le (by omega) (by omega), dec_lt (by omega) (by omega)]
    unfold q3
    by_cases z : c = 68
    · rw [if_pos z, show Nat.beq c 68 = true from by rw [z]; rfl, Bool.true_and]
      cases d
      · by_cases z2 : w = 0
        · have hv : v = 0 := by
            by_cases q : v = 0
            · exact q
            · have := hwv.mpr (by omega); omega
          rw [if_pos z2, show Nat.beq v 0 = true from by rw [hv]; rfl]
          by_cases z3 : n ≤ 0
          · rw [if_pos z3, show decide (0 < n) = false from decide_eq_false (by omega)]; rfl
          · rw [if_neg z3, show decide (0 < n) = true from decide_eq_true (by omega), if_pos (by decide)]
            by_cases z4 : 24 < 2 * n
            · rw [decide_eq_true z4, show decide (2 * n ≤ 24) = false from decide_eq_false (by omega)]; rfl
            · rw [decide_eq_false z4, show decide (2 * n ≤ 24) = true from decide_eq_true (by omega)]; rfl
        · have hv : 0 < v := hwv.mp (by omega)
          rw [if_neg z2, show Nat.beq v 0 = false from nbf (by omega)]; rfl
      · rw [if_neg (show ¬ n3 true.toNat = n3 0 from by decide)]
        by_cases z2 : w = 0
        · rw [if_pos z2]; split <;> rfl
        · rw [if_neg z2]; rfl
    · rw [if_neg z, show Nat.beq c 68 = false from nbf z]; rfl
  rw [Rf_takesMetre, k2, k3]
  by_cases c2 : q2 c (n, v, d, f) = true
  · obtain ⟨hc46, a2, a3⟩ := q2_iff.mp c2
    have n1 : ¬ q1 c (n, v, d, f) = true := fun z => by have := (q1_iff.mp z).1; omega
    refine Or.inl ⟨_, _, (if_neg n1).trans (if_pos c2), by rw [if_pos c2]; rfl, ⟨?_, ?_, ⟨0, rfl, Nat.zero_le _, ⟨fun z => absurd z (Nat.lt_irrefl _), fun z => absurd z (Nat.lt_irrefl _)⟩⟩, fun i hi => ?_⟩, (frm.rf _ _).w rfl⟩
    · rw [rd_nk (by decide)]; exact r1
    · rw [rd_nk (by decide)]; exact r2
    · rw [rd_ne (by decide)]; exact r4 i hi
  · rw [if_neg c2]
    by_cases c3 : q3 c (n, v, d, f) = true
    · obtain ⟨hc68, a2, a3, a4, a5⟩ := q3_iff.mp c3
      have n1 : ¬ q1 c (n, v, d, f) = true := fun z => by have := (q1_iff.mp z).1; omega
      refine Or.inl ⟨_, _, (if_neg n1).trans ((if_neg c2).trans (if_pos c3)), by rw [if_pos c3]; rfl, ⟨?_, ?_, ⟨w, ?_, by omega, hwv⟩, fun i hi => ?_⟩, (frm.rf _ _).w rfl⟩
      · rw [rd_nk (by decide)]; exact r1
      · rw [rd_eq]; rfl
      · rw [rd_nk (by decide)]; exact r3
      · rw [rd_ne (by decide)]; exact r4 i hi
    · rw [if_neg c3]
      have hnone : ¬ q1 c (n, v, d, f) = true → mst c (n, v, d, f) = none := fun n1 => (if_neg n1).trans ((if_neg c2).trans (if_neg c3))
      cases hd : (dg c && !d) with
      | false =>
        have n1 : ¬ q1 c (n, v, d, f) = true := fun z => by
          obtain ⟨⟨a1, a2⟩, -, -, a5⟩ := q1_iff.mp z
          dsimp only at a5
          rw [a5] at hd
          have e : dg c = true := by unfold dg; simp [a1, a2]
          rw [e] at hd
          cases hd
        refine Or.inr ⟨_, hnone n1, ?_, same, fsame⟩
        rw [td_no hc r3 r2 hd]
        rfl
      | true =>
        rw [Bool.and_eq_true, Bool.not_eq_true'] at hd
        obtain ⟨hd1, hd2⟩ := hd
        subst hd2
        have hr : 48 ≤ c ∧ c ≤ 57 := by
          unfold dg at hd1
          rw [Bool.and_eq_true] at hd1
          exact ⟨Nat.le_of_ble_eq_true hd1.1, Nat.le_of_ble_eq_true hd1.2⟩
        have hB : (if Rf_within (n3 c - 48) 0 9 N = true then decide (N.1 30 33 = 0) else false) = true := by
          rw [show Rf_within (n3 c - 48) 0 9 N = dg c from m_wi ⟨c, hc⟩, r2, tn0', hd1]; rfl
        have hx : n3 c - 48 = n3 (c - 48) := by rw [show (48 : Int32) = n3 48 from rfl, n3_sub hr.1]
        by_cases hv : v = 0
        · subst hv
          have hw0 : w = 0 := by
            by_cases q : w = 0
            · exact q
            · have := hwv.mp (by omega); omega
          subst hw0
          have hn24 := h4 rfl
          have hacc : (if n3 (c - 48) ≤ 0 then false else (!decide (24 ≤ N.1 30 32))) = decide (48 < c) := by
            rw [r1, l_0, l_24, ite_le (by omega) (by omega), dec_le (by omega) (by omega)]
            by_cases z : c - 48 ≤ 0
            · rw [if_pos z, decide_eq_false (by omega)]
            · rw [if_neg z, decide_eq_false (by omega), decide_eq_true (by omega)]; rfl
          have h310 : decide (N.1 30 31 = 0) = true := by rw [r3]; rfl
          by_cases z : 48 < c
          · have c1 : q1 c (n, 0, false, f) = true := q1_iff.mpr ⟨hr, by dsimp only; omega, by dsimp only; omega, rfl⟩
            refine Or.inl ⟨_, wI (wI (wI N 30 32 (n3 (n + 1))) 50 n (n3 (c - 48))) 30 31 (n3 1), if_pos c1, ?_, ⟨?_, ?_, ⟨1, rfl, by omega, ⟨fun _ => by dsimp only; omega, fun _ => Nat.one_pos⟩⟩, fun i hi => ?_⟩, (((frm.rf _ _).w rfl).w rfl).w rfl⟩
            · rw [Rf_takesDigit, hB, if_pos rfl, h310, if_pos rfl, hx, hacc, decide_eq_true z, show bI true = n3 1 from rfl, r1, n3_add, Option.bind_some, rd_eq, n3_sub (by omega), show n + 1 - 1 = n from rfl, stE_in _ _ _ (by omega) (by decide), Option.bind_some, rd_ne (by decide), rd_nk (by decide), r3, n3_add]
              rfl
            · rw [rd_nk (by decide), rd_ne (by decide), rd_eq]; dsimp only; rw [if_pos rfl]
            · rw [rd_nk (by decide), rd_ne (by decide), rd_nk (by decide)]; exact r2
            · dsimp only at hi ⊢
              rw [if_pos rfl] at hi ⊢
              rw [rd_ne (by decide)]
              by_cases e : i = n
              · subst e; rw [rd_eq, updN_eq, Nat.mul_zero, Nat.zero_add]
              · rw [rd_nk e, rd_ne (by decide), updN_ne e]; exact r4 i (by omega)
          · have n1 : ¬ q1 c (n, 0, false, f) = true := fun q => by have := (q1_iff.mp q).2.1; dsimp only at this; omega
            refine Or.inr ⟨wI (wI (wI N 30 32 (n3 n)) 50 n (n3 (c - 48))) 30 31 (n3 0), hnone n1, ?_, ⟨?_, ?_, ⟨0, rfl, by omega, Iff.rfl⟩, fun i hi => ?_⟩, (((frm.rf _ _).w rfl).w rfl).w rfl⟩
            · rw [Rf_takesDigit, hB, if_pos rfl, h310, if_pos rfl, hx, hacc, decide_eq_false z, show bI false = n3 0 from rfl, r1, n3_add, Option.bind_some, rd_eq, n3_sub (by omega), show n + 0 - 0 = n from rfl, stE_in _ _ _ (by omega) (by decide), Option.bind_some, rd_ne (by decide), rd_nk (by decide), r3, n3_add]
              rfl
            · rw [rd_nk (by decide), rd_ne (by decide), rd_eq]
            · rw [rd_nk (by decide), rd_ne (by decide), rd_nk (by decide)]; exact r2
            · dsimp only at hi ⊢
              rw [rd_ne (by decide), rd_nk (by omega), rd_ne (by decide)]; exact r4 i hi
        · have hv0 : 0 < v := by omega
          obtain ⟨b1, b2, -⟩ := h3 hv0
          have hw0 := hwv.mpr hv0
          have h310 : decide (N.1 30 31 = 0) = false := by rw [r3, l_0, dec_eq (by omega) (by omega)]; exact decide_eq_false (by omega)
          have h50 : N.1 50 (n - 1) = n3 v := by rw [r4 _ (by omega), b2]
          have hix : N.1 30 32 - 1 = n3 (n - 1) := by rw [r1, l_1, n3_sub b1]
          have hX : (10 : Int32) * n3 v + n3 (c - 48) = n3 (10 * v + (c - 48)) := by rw [l_10, n3_mul, n3_add]
          by_cases z : 20 < 10 * v + (c - 48)
          · have n1 : ¬ q1 c (n, v, false, f) = true := fun q => by have := (q1_iff.mp q).2.2.1; dsimp only at this; omega
            have hcc : (!decide (20 < n3 (10 * v + (c - 48)))) = false := by rw [show (20 : Int32) = n3 20 from rfl, dec_lt (by omega) (by omega), decide_eq_true z]; rfl
            refine Or.inr ⟨wI (wI N 50 (n - 1) (n3 v)) 30 31 (n3 w), hnone n1, ?_, ⟨?_, ?_, ⟨w, rfl, by omega, hwv⟩, fun i hi => ?_⟩, ((frm.rf _ _).w rfl).w rfl⟩
            · rw [Rf_takesDigit, hB, if_pos rfl, h310, if_neg (by decide), if_pos rfl, hix, ldE_in _ (by omega) (by decide), Option.bind_some, h50, hx, hX, hcc, if_neg (by decide), Option.bind_some, stE_in _ _ _ (by omega) (by decide), Option.bind_some, rd_ne (by decide), r3, show bI false = n3 0 from rfl, n3_add]
              rfl
            · rw [rd_nk (by decide), rd_ne (by decide)]; exact r1
            · rw [rd_nk (by decide), rd_ne (by decide)]; exact r2
            · dsimp only at hi ⊢
              rw [rd_ne (by decide)]
              by_cases e : i = n - 1
              · subst e; rw [rd_eq, b2]
              · rw [rd_nk e]; exact r4 i hi
          · have c1 : q1 c (n, v, false, f) = true := q1_iff.mpr ⟨hr, by dsimp only; omega, by dsimp only; omega, rfl⟩
            have hcc : (!decide (20 < n3 (10 * v + (c - 48)))) = true := by rw [show (20 : Int32) = n3 20 from rfl, dec_lt (by omega) (by omega), decide_eq_false z]; rfl
            refine Or.inl ⟨_, wI (wI N 50 (n - 1) (n3 (10 * v + (c - 48)))) 30 31 (n3 (w + 1)), if_pos c1, ?_, ⟨?_, ?_, ⟨w + 1, rfl, by omega, ⟨fun _ => by dsimp only; omega, fun _ => Nat.succ_pos _⟩⟩, fun i hi => ?_⟩, ((frm.rf _ _).w rfl).w rfl⟩
            · rw [Rf_takesDigit, hB, if_pos rfl, h310, if_neg (by decide), if_pos rfl, hix, ldE_in _ (by omega) (by decide), Option.bind_some, h50, hx, hX, hcc, if_pos rfl, stE_in _ _ _ (by omega) (by decide), Option.bind_some, rd_ne (by decide), r3, show bI true = n3 1 from rfl, n3_add]
              rfl
            · rw [rd_nk (by decide), rd_ne (by decide)]; dsimp only; rw [if_neg hv]; exact r1
            · rw [rd_nk (by decide), rd_ne (by decide)]; exact r2
            · dsimp only at hi ⊢
              rw [if_neg hv] at hi ⊢
              rw [rd_ne (by decide)]
              by_cases e : i = n - 1
              · subst e; rw [rd_eq, updN_eq]
              · rw [rd_nk e, updN_ne e]; exact r4 i hi
theorem Rf_rightMetre_ok {t : Nat → Nat} {L k0 : Nat} {s0 : mS} {M : hyM} (h : rbuf t L M) (hF : Fin_ t L k0 s0) : ∃ M', Rf_rightMetre M = some (n3 k0, M') ∧ frm rscr M M' ∧ RM s0 61 M' := by
  obtain ⟨h1, h2, h3, h4⟩ := id h
  have key := lpI (σ := Int32 × hyM) (fun f s => Rf_rightMetre_L17 f s.1 s.2) (fun k s => ∃ q, mrn t k = some q ∧ s.1 = n3 k ∧ frm rscr M s.2 ∧ RM q k s.2) L (fun r => r.1 = n3 k0 ∧ frm rscr M r.2 ∧ RM s0 61 r.2) ?_ ?_ hyFu 0 (n3 0, wI (wI (wI M 30 31 0) 30 32 0) 30 33 0) (Nat.zero_le _) (hyFu_big (by omega)) ⟨_, rfl, rfl, (((frm.rf _ _).w rfl).w rfl).w rfl, rfl, rfl, ⟨0, rfl, Nat.le_refl _, Iff.rfl⟩, fun i hi => absurd hi (Nat.not_lt_zero _)⟩
  · obtain ⟨⟨y, N⟩, e1, e2, e3, e4⟩ := key
    dsimp only at e1 e2 e3 e4
    refine ⟨N, ?_, e3, e4⟩
    rw [Rf_rightMetre, Option.bind_some, Option.bind_some, Option.bind_some]
    rw [show (0 : Int32) = n3 0 from rfl] at e1 ⊢
    rw [e1, e2]
    rfl
  · rintro f k ⟨x, N⟩ hk ⟨s, hq, rfl, hf, hR⟩
    dsimp only at hf hR ⊢
    have g := h.fr hf
    have hI := mrn_I k _ hq
    rw [Rf_rightMetre_L17, g.2.1, if_neg (by rw [n3_le (by omega) (by omega)]; omega), ldE_in _ (by omega) (by decide), Option.bind_some, g.2.2.1]
    rcases takes_ok (h4 k) hI hR (by omega) with ⟨s', N', a1, a2, a3, a4⟩ | ⟨N', a1, a2, a3, a4⟩
    · rw [a2, Option.bind_some]
      dsimp only
      rw [if_pos rfl, n3_s]
      exact Or.inl ⟨(n3 (k + 1), N'), rfl, s', by rw [mrn, hq]; exact a1, rfl, hf.trans a4, a3⟩
    · rw [a2, Option.bind_some]
      dsimp only
      rw [if_neg (by decide)]
      obtain ⟨u1, u2⟩ := Fin_u hF ⟨hq, by omega, Or.inr a1⟩
      subst u1 u2
      obtain ⟨b1, b2, ⟨w, b3, b4, b5⟩, b6⟩ := a3
      exact Or.inr ⟨_, rfl, rfl, hf.trans a4, b1, b2, ⟨w, b3, by omega, b5⟩, b6⟩
  · rintro f ⟨x, N⟩ ⟨s, hq, rfl, hf, hR⟩
    dsimp only at hf hR ⊢
    have g := h.fr hf
    rw [Rf_rightMetre_L17, g.2.1, if_pos (by rw [n3_le (by omega) (by omega)]; omega)]
    obtain ⟨u1, u2⟩ := Fin_u hF ⟨hq, Nat.le_refl _, Or.inl rfl⟩
    subst u1 u2
    obtain ⟨b1, b2, ⟨w, b3, b4, b5⟩, b6⟩ := hR
    exact ⟨_, rfl, rfl, hf, b1, b2, ⟨w, b3, by omega, b5⟩, b6⟩
theorem s_errMetre {T : hyT} (h : INV T) : ∃ v N, Hp_firstError true T.1 = some v ∧ Rf_firstError true T.2.1 = some (v, N) ∧ INV (T.1, N, T.2.2) := by
  obtain ⟨A, hW, hC, hR⟩ := h
  obtain ⟨k0, s0, hF⟩ := Fin_ex (A 42) (A 30 19)
  have e1 := In_errorAsMetre_ok (CA_inb hW hC) hF
  have hR0 : RI A (wI T.2.1 30 0 0) := RI.w hR rfl
  obtain ⟨N1, f1, f2, f3⟩ := Rf_rightMetre_ok (RI_rbuf hW hR0) hF
  refine ⟨n3 k0, N1, ?_, ?_, A, hW, hC, hR0.fr f2⟩
  · rw [Hp_firstError, if_pos (by decide), e1]; rfl
  · rw [Rf_firstError, Option.bind_some, if_pos (by decide), f1]; rfl
