/-! A metre more. -/
def okm (L k : Nat) (s : mS) : Bool := decide (k = L) && (decide (0 < s.2.1) || s.2.2.1)
theorem mrn_last {t : Nat → Nat} {L : Nat} {s : mS} (h : mrn t L = some s) (hL : 0 < L) : dg (t (L - 1)) = decide (0 < s.2.1) ∧ ((t (L - 1) = 68) ↔ s.2.2.1 = true) := by
  obtain ⟨k, rfl⟩ : ∃ k, L = k + 1 := ⟨L - 1, by omega⟩
  rw [mrn, Option.bind_eq_some_iff] at h
  obtain ⟨s1, e1, e2⟩ := h
  exact (mst_I (mrn_I k s1 e1) e2).2
theorem In_isMetre_ok {t : Nat → Nat} {L k0 : Nat} {s0 : mS} {M : hyM} (h : inb_ t L M) (hF : Fin_ t L k0 s0) : In_isMetre M = some (okm L k0 s0) := by
  have he := In_errorAsMetre_ok h hF
  obtain ⟨h1, h2, h3, h4⟩ := id h
  have hk := hF.2.1
  rw [In_isMetre, h2, l_0, ite_le (by omega) (by omega)]
  by_cases z : L ≤ 0
  · rw [if_pos z]
    have : L = 0 := by omega
    subst this
    obtain ⟨a, b, c⟩ := hF
    have : k0 = 0 := by omega
    subst this
    cases a
    rfl
  · rw [if_neg z, he, Option.bind_some, ite_eq (by omega) (by omega), l_1, n3_sub (by omega), In_codeAt_eq h (by omega), show (68 : Int32) = n3 68 from rfl]
    have hc := h4 (L - 1)
    rw [dec_eq (by omega) (by omega), show In_isDigit (n3 (t (L - 1))) M = dg (t (L - 1)) from m_dg ⟨_, hc⟩]
    unfold okm
    by_cases e : k0 = L
    · subst e
      obtain ⟨a, b⟩ := mrn_last hF.1 (by omega)
      rw [if_pos rfl, decide_eq_true (Eq.refl k0), Bool.true_and, a]
      cases q : decide (0 < s0.2.1) with
      | true => rfl
      | false =>
        rw [if_neg (by decide), Bool.false_or]
        cases q2 : s0.2.2.1 with
        | true => rw [decide_eq_true (b.mpr q2)]
        | false => rw [decide_eq_false (fun w => by have := b.mp w; rw [q2] at this; cases this)]
    · rw [if_neg e, decide_eq_false e]; rfl
def BI (M : hyM) (p pn : Nat) (g : Nat → Nat) (N : hyM) : Prop :=
  N.1 25 2 = n3 p ∧ N.1 27 p = n3 pn ∧ (∀ j, j < pn → N.1 26 (p * 24 + j) = n3 (g j)) ∧ N.2 = M.2 ∧ (∀ c k, c ≠ 26 → c ≠ 27 → N.1 c k = M.1 c k) ∧ (∀ m, m ≠ p → N.1 27 m = M.1 27 m) ∧ ∀ i, i < p * 24 → N.1 26 i = M.1 26 i
theorem BI.cg {M N : hyM} {p pn : Nat} {g g' : Nat → Nat} (h : BI M p pn g N) (e : ∀ j, j < pn → g j = g' j) : BI M p pn g' N :=
  ⟨h.1, h.2.1, fun j hj => by rw [← e j hj]; exact h.2.2.1 j hj, h.2.2.2⟩
theorem BI.push {M N : hyM} {p pn x : Nat} {g : Nat → Nat} (h : BI M p pn g N) (hp : p < 8) (hn : pn < 24) (hx : g pn = x) : BI M p (pn + 1) g (Bo_push (n3 x) N) := by
  obtain ⟨b1, b2, b3, b4, b5, b6, b7⟩ := h
  have hs : Bo_sizeOf (N.1 25 2) N = n3 pn := by unfold Bo_sizeOf; rw [b1, atf_in _ hp (by decide), b2]
  have e : Bo_push (n3 x) N = wI (wI N 26 (p * 24 + pn) (n3 x)) 27 p (n3 (pn + 1)) := by
    unfold Bo_push
    rw [hs, b1, l_24, n3_mul, n3_add, putf_in _ _ _ (by omega) (by decide), rd_ne (by decide), b1, putf_in _ _ _ hp (by decide), n3_s]
  rw [e]
  refine ⟨by rw [rd_ne (by decide), rd_ne (by decide)]; exact b1, rd_eq _ _ _ _, fun j hj => ?_, b4, fun c k h1 h2 => by rw [rd_ne h2, rd_ne h1]; exact b5 c k h1 h2, fun m hm => by rw [rd_nk hm, rd_ne (by decide)]; exact b6 m hm, fun i hi => by rw [rd_ne (by decide), rd_nk (by omega)]; exact b7 i hi⟩
  rw [rd_ne (by decide)]
  by_cases q : j = pn
  · subst q; rw [rd_eq, hx]
  · rw [rd_nk (by omega)]; exact b3 j (by omega)
def pnS (s : mS) : Nat := if s.2.1 = 0 then s.1 else s.1 - 1
def szM (s : mS) : Nat := if s.2.1 = 0 then 2 * s.1 else s.1
theorem Bo_take_ok {t : Nat → Nat} {L p : Nat} {s : mS} {M : hyM} (h : inb_ t L M) (hs : mrn t L = some s) (hv : 0 < s.2.1 ∨ s.2.2.1 = true) (h25 : M.1 25 2 = n3 p) (hp : p < 8) :
    ∃ N, Bo_take M = some (wI N 25 2 (n3 (p + 1))) ∧ BI M p (szM s) (fun j => s.2.2.2 (j % s.1)) N := by
  obtain ⟨h1, h2, h3, h4⟩ := id h
  have pre : ∀ k, k ≤ L → ∃ q, mrn t k = some q := fun k hk => by
    cases z : mrn t k with
    | some q => exact ⟨q, rfl⟩
    | none =>
      have := mrn_pre (L - k) z
      rw [show k + (L - k) = L from by omega, hs] at this
      cases this
  have b0 : BI M p 0 (fun _ => 0) (wI M 27 p (n3 0)) := ⟨by rw [rd_ne (by decide)]; exact h25, rd_eq _ _ _ _, fun j hj => absurd hj (Nat.not_lt_zero _), rfl, fun c k a b => rd_ne b, fun m hm => rd_nk hm, fun i hi => rd_ne (by decide)⟩
  have key := lpI (σ := Int32 × Int32 × hyM) (fun f x => Bo_take_L16 f x.1 x.2.1 x.2.2) (fun k x => ∃ q, mrn t k = some q ∧ x.1 = n3 q.2.1 ∧ x.2.1 = n3 k ∧ BI M p (pnS q) q.2.2.2 x.2.2) L (fun r => r.1 = n3 s.2.1 ∧ BI M p (pnS s) s.2.2.2 r.2.2) ?_ ?_ hyFu 0 (n3 0, n3 0, wI M 27 p (n3 0)) (Nat.zero_le _) (hyFu_big (by omega)) ⟨_, rfl, rfl, rfl, b0⟩
  · obtain ⟨⟨y, y3, N⟩, e1, e2, e3⟩ := key
    dsimp only at e1 e2 e3
    have hI := mrn_I L s hs
    obtain ⟨n, v, d, f⟩ := s
    obtain ⟨i1, i2, i3, i4, i5, i6⟩ := hI
    dsimp only at hv e2 e3 i1 i2 i3 i4 i5 i6 ⊢
    have hst : Bo_take M = ((if y ≤ 0 then (Bo_pushAllAgain N).bind fun M11 => (some (wI M11 25 2 ((M11.1 25 2) + 1))).bind fun M12 => some M12 else (some (Bo_push y N)).bind fun M13 => (some (wI M13 25 2 ((M13.1 25 2) + 1))).bind fun M14 => some M14) : Option hyM) := by
      rw [Bo_take, h25, putf_in _ _ _ hp (by decide), show (0 : Int32) = n3 0 from rfl, Option.bind_some, e1, Option.bind_some]
    rw [e2, l_0, ite_le (by omega) (by omega)] at hst
    by_cases z : v ≤ 0
    · have hv0 : v = 0 := by omega
      subst hv0
      have hd : d = true := hv.elim (fun q => absurd q (Nat.lt_irrefl _)) id
      obtain ⟨j1, j2⟩ := i6 hd
      have e3' : BI M p n (fun j => f (j % n)) N := BI.cg e3 (fun j hj => by show f j = f (j % n); rw [Nat.mod_eq_of_lt (show j < n from hj)])
      have hsz : Bo_sizeOf (N.1 25 2) N = n3 n := by unfold Bo_sizeOf; rw [e3'.1, atf_in _ hp (by decide), e3'.2.1]
      have k2 := lpI (σ := Int32 × hyM) (fun F x => Bo_pushAllAgain_L11 N F x.1 x.2) (fun i x => x.1 = n3 i ∧ BI M p (n + i) (fun j => f (j % n)) x.2) n (fun r => BI M p (n + n) (fun j => f (j % n)) r.2) ?_ ?_ hyFu 0 (n3 0, N) (Nat.zero_le _) (hyFu_big (by omega)) ⟨rfl, e3'⟩
      · obtain ⟨⟨w, N2⟩, g1, g2⟩ := k2
        dsimp only at g1 g2
        refine ⟨N2, ?_, ?_⟩
        · rw [hst, if_pos z, Bo_pushAllAgain, show (0 : Int32) = n3 0 from rfl, g1, Option.bind_some, Option.bind_some, Option.bind_some, g2.1, n3_s]
        · show BI M p (2 * n) _ N2
          rw [Nat.two_mul]; exact g2
      · rintro F i ⟨x, P⟩ hi ⟨rfl, hP⟩
        dsimp only at hP ⊢
        have hnum : Bo_numberAt (P.1 25 2) (n3 i) P = n3 (f i) := by
          unfold Bo_numberAt
          rw [hP.1, l_24, n3_mul, n3_add, atf_in _ (by omega) (by decide), hP.2.2.1 i (by omega)]
          show n3 (f (i % n)) = _
          rw [Nat.mod_eq_of_lt hi]
        rw [Bo_pushAllAgain_L11, hsz, if_neg (by rw [n3_le (by omega) (by omega)]; omega), hnum, Option.bind_some, n3_s]
        refine Or.inl ⟨(n3 (i + 1), Bo_push (n3 (f i)) P), rfl, rfl, ?_⟩
        have := BI.push (x := f i) hP hp (by omega) (by show f ((n + i) % n) = f i; rw [Nat.add_mod_left, Nat.mod_eq_of_lt hi])
        exact this
      · rintro F ⟨x, P⟩ ⟨rfl, hP⟩
        dsimp only at hP ⊢
        rw [Bo_pushAllAgain_L11, hsz, if_pos (by rw [n3_le (by omega) (by omega)]; omega)]
        exact ⟨_, rfl, hP⟩
    · obtain ⟨j1, j2, j3⟩ := i3 (by omega)
      have e4 : BI M p (n - 1) f N := by have := e3; unfold pnS at this; rw [if_neg (by dsimp only; omega)] at this; exact this
      have e5 := BI.push (x := v) e4 hp (by omega) j2
      rw [show n - 1 + 1 = n from by omega] at e5
      refine ⟨Bo_push (n3 v) N, ?_, ?_⟩
      · rw [hst, if_neg z, Option.bind_some, Option.bind_some, e5.1, n3_s]
      · unfold szM
        rw [if_neg (by dsimp only; omega)]
        exact BI.cg e5 (fun j hj => by show f j = f (j % n); rw [Nat.mod_eq_of_lt hj])
  · rintro F k ⟨x, x3, P⟩ hk ⟨q, hq, rfl, rfl, hP⟩
    obtain ⟨q', hq'⟩ := pre (k + 1) hk
    have hst : mst (t k) q = some q' := by rw [mrn, hq] at hq'; exact hq'
    have hI := mrn_I k q hq
    obtain ⟨n, v, d, f⟩ := q
    obtain ⟨i1, i2, i3, i4, i5, i6⟩ := hI
    have hc := h4 k
    dsimp only at hP i1 i2 i3 i4 i5 i6 ⊢
    refine Or.inl ?_
    have gi : inb_ t L P := ⟨h1, by rw [hP.2.2.2.2.1 _ _ (by decide) (by decide)]; exact h2, fun i => by rw [hP.2.2.2.2.1 _ _ (by decide) (by decide)]; exact h3 i, h4⟩
    rw [Bo_take_L16, gi.2.1, if_neg (by rw [n3_le (by omega) (by omega)]; omega), In_codeAt_eq gi (by omega), show In_isDigit (n3 (t k)) P = dg (t k) from m_dg ⟨_, hc⟩]
    unfold mst at hst
    by_cases c1 : q1 (t k) (n, v, d, f) = true
    · rw [if_pos c1] at hst
      obtain ⟨⟨a1, a2⟩, a3, a4, a5⟩ := q1_iff.mp c1
      dsimp only at a3 a4 a5 hst
      rw [if_pos (show dg (t k) = true from by unfold dg; simp [a1, a2]), n3_s, l_10, show (48 : Int32) = n3 48 from rfl, n3_sub a1, n3_mul, n3_add]
      refine ⟨(n3 (10 * v + (t k - 48)), n3 (k + 1), P), rfl, q', hq', ?_, rfl, ?_⟩
      · cases hst; rfl
      · cases hst
        unfold pnS at hP ⊢
        dsimp only at hP ⊢
        rw [if_neg (show ¬ 10 * v + (t k - 48) = 0 by omega)]
        by_cases w : v = 0
        · rw [if_pos w] at hP ⊢
          rw [if_pos w, Nat.add_sub_cancel]
          exact BI.cg hP (fun j hj => by rw [updN_ne (by omega)])
        · rw [if_neg w] at hP ⊢
          rw [if_neg w]
          exact BI.cg hP (fun j hj => by rw [updN_ne (by omega)])
    · rw [if_neg c1] at hst
      by_cases c2 : q2 (t k) (n, v, d, f) = true
      · rw [if_pos c2] at hst
        obtain ⟨a1, a2, a3⟩ := q2_iff.mp c2
        dsimp only at a2 a3 hst
        obtain ⟨j1, j2, j3⟩ := i3 a2
        rw [a1, if_neg (by decide), if_pos (show n3 46 = 46 from rfl), Option.bind_some, n3_s]
        refine ⟨(n3 0, n3 (k + 1), Bo_push (n3 v) P), rfl, q', hq', ?_, rfl, ?_⟩
        · cases hst; rfl
        · cases hst
          unfold pnS at hP ⊢
          dsimp only at hP ⊢
          rw [if_neg (by omega)] at hP
          rw [if_pos rfl]
          have := BI.push (x := v) hP hp (by omega) j2
          rw [show n - 1 + 1 = n from by omega] at this
          exact this
      · rw [if_neg c2] at hst
        by_cases c3 : q3 (t k) (n, v, d, f) = true
        · rw [if_pos c3] at hst
          obtain ⟨a1, a2, a3, a4, a5⟩ := q3_iff.mp c3
          dsimp only at a2 a3 a4 a5 hst
          rw [a1, if_neg (by decide), if_neg (by decide), n3_s]
          refine ⟨(n3 v, n3 (k + 1), P), rfl, q', hq', ?_, rfl, ?_⟩
          · cases hst; rfl
          · cases hst; exact hP
        · rw [if_neg c3] at hst; cases hst
  · rintro F ⟨x, x3, P⟩ ⟨q, hq, rfl, rfl, hP⟩
    dsimp only at hP ⊢
    have gi : inb_ t L P := ⟨h1, by rw [hP.2.2.2.2.1 _ _ (by decide) (by decide)]; exact h2, fun i => by rw [hP.2.2.2.2.1 _ _ (by decide) (by decide)]; exact h3 i, h4⟩
    rw [Bo_take_L16, gi.2.1, if_pos (by rw [n3_le (by omega) (by omega)]; omega)]
    have e : q = s := Option.some.inj (hq.symm.trans hs)
    subst e
    exact ⟨_, rfl, rfl, hP⟩
