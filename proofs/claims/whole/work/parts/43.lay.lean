/-! Calls behind which the class lays out anew: width, repeats that are cleared, verses, beginning. -/
theorem lay_go {A : aS} {q : rpT} {M : hyM} (hW : WFA A) (hB : CBq A q M) (hq1 : q.1 ≤ 3) (hq2 : ∀ i, q.2.2.1 i < 1000) (hk : kept (mA A) q = rpA A) :
    ∃ M', Hp_layOut M = some M' ∧ CA A M' ∧ M'.1 12 5 = n3 (mA A) ∧ M'.1 18 2 = n3 (LA A).length ∧ M'.1 21 3 = n3 (nsA A) ∧ frm yce M M' := by
  obtain ⟨M', e, b, d, f⟩ := Hp_layOut_ok hW hB hq1 hq2 hk
  exact ⟨M', e, ⟨b, d⟩, d.1.1, d.2.1.1, d.2.2.2.2.1, f⟩
theorem kept_same {A : aS} (hW : WFA A) : kept (mA A) (rpA A) = rpA A := kept_id (fun i hi => (hW.2.1.1.2.1 i hi).2.1)
theorem lay_same {A : aS} {M : hyM} (hW : WFA A) (hB : CB A M) :
    ∃ M', Hp_layOut M = some M' ∧ CA A M' ∧ M'.1 12 5 = n3 (mA A) ∧ M'.1 18 2 = n3 (LA A).length ∧ M'.1 21 3 = n3 (nsA A) ∧ frm yce M M' :=
  lay_go hW hB hW.2.1.1.1 (fun i => (hW.2.1.2 i).2.1) (kept_same hW)
theorem s_setWidth {T : hyT} (h : INV T) (a : Int32) : okS (La_setWidth a T) (Rf_setWidth a) := by
  obtain ⟨A, hW, hC, hR⟩ := h
  have e1 := ckR a 20 200 T.1 T.2.1
  rcases Bool.eq_false_or_eq_true (Rf_within a 20 200 T.2.1) with c | c
  · rw [c, if_pos rfl] at e1
    obtain ⟨k, rfl, hk1, hk2⟩ := wi_n3 (lo := 20) (hi := 200) c (by decide) (by decide)
    have hW' : WFA (uA A 30 13 k) := ⟨hW.1, hW.2.1, ⟨hW.2.2.1.1, hW.2.2.1.2.1, hW.2.2.1.2.2.1, hk1, hk2⟩, hW.2.2.2.1, hW.2.2.2.2.1, hW.2.2.2.2.2⟩
    have hB : CB (uA A 30 13 k) (wI T.1 0 9 (n3 k)) := by
      obtain ⟨⟨a1, a2, a3, a4, a5⟩, bb, cc, qq, v, mm, ii⟩ := hC.1
      exact ⟨⟨rfl, a2, a3, a4, a5⟩, bb, cc, qq, v, mm, ii⟩
    obtain ⟨M', m1, m2, -, -, m5, -⟩ := lay_same hW' hB
    have hR0 : RI (uA A 30 13 k) (wI (wI T.2.1 30 0 0) 30 13 (n3 k)) := RI.u (RI.w hR rfl) 30 13 k
    obtain ⟨N, f1, f2, f3, f4⟩ := Rf_lay_ok hW' hR0
    refine fin_v (T := T) (v := n3 (nsA (uA A 30 13 k))) hW' m2 f3.1 (by rw [f2.2 _ _ rfl]; rfl) ?_ ?_
    · rw [La_setWidth, Hp_setWidth, e1]
      dsimp only
      rw [Option.bind_some, m1, Option.bind_some, m5]
      rfl
    · rw [Rf_setWidth, c, show bI (!true) = 0 from rfl, Option.bind_some, rd_eq, if_pos gt0.2.2.2, Option.bind_some, f1, Option.bind_some, f4.2.2]
      rfl
  · rw [c, if_neg (by decide)] at e1
    refine fin_t (T := T) (k := 1) (b := 0) (N := wI T.2.1 30 0 1) (by decide) hW hC (RI.w hR rfl) ?_ ?_ (rd_eq _ _ _ _)
    · rw [La_setWidth, Hp_setWidth, e1]
      rfl
    · rw [Rf_setWidth, c, show bI (!false) = 1 from rfl, Option.bind_some, rd_eq, if_neg gt0.1]
theorem WR_0 (m : Nat) (f : (Nat → Nat) × (Nat → Nat) × (Nat → Nat)) : WR m (0, f) := ⟨Nat.zero_le _, fun i hi => absurd hi (Nat.not_lt_zero _), fun i j hi => absurd hi (Nat.not_lt_zero _)⟩
theorem s_clearRepeats {T : hyT} (h : INV T) : ∃ v M N, Hp_clearRepeats T.1 = some (v, M) ∧ Rf_clearRepeats T.2.1 = (v, N) ∧ INV (M, N, T.2.2) := by
  obtain ⟨A, hW, hC, hR⟩ := h
  have hW' : WFA (uA A 30 7 0) := ⟨hW.1, ⟨WR_0 _ _, hW.2.1.2⟩, hW.2.2.1, hW.2.2.2.1, hW.2.2.2.2.1, hW.2.2.2.2.2⟩
  have hB : CB (uA A 30 7 0) (wI T.1 5 3 0) := by
    obtain ⟨aa, bb, cc, qq, v, mm, ii⟩ := hC.1
    exact ⟨aa, bb, cc, ⟨rfl, qq.2⟩, v, mm, ii⟩
  obtain ⟨M', m1, m2, -, -, -, -⟩ := lay_same hW' hB
  have h53 : T.1.1 5 3 = n3 (A 30 7) := hC.1.2.2.2.1.1
  refine ⟨n3 (A 30 7), M', wI (wI T.2.1 30 0 0) 30 7 (n3 0), ?_, ?_, uA A 30 7 0, hW', m2, RI.u (RI.w hR rfl) 30 7 0⟩
  · rw [Hp_clearRepeats, Option.bind_some, m1, Option.bind_some, h53]
  · rw [Rf_clearRepeats, rd_nk (by decide), hR 30 7 rfl]; rfl
theorem nn0 (L : Nat) : (!decide (L ≤ 0)) = decide (0 < L) := by
  by_cases q : L = 0
  · subst q; rfl
  · have h1 : ¬ L ≤ 0 := by omega
    have h2 : 0 < L := by omega
    simp [h1, h2]
theorem ns0 (t : Nat → Nat) (L : Nat) : (!decide (nsS t L ≤ 0)) = decide (0 < L) := by
  rw [nn0]
  unfold nsS
  apply decide_eq_decide.mpr
  split <;> omega
/-! lines that are removed -/
/-- the rows from lo on, hi of them, empty -/
def clA (A : aS) (lo hi : Nat) : aS := fun c k => if c = 38 ∧ lo ≤ k ∧ k < hi then 0 else A c k
theorem clA_WF {A : aS} (hW : WFA A) (lo hi : Nat) : WFA (clA A lo hi) := by
  refine ⟨hW.1, hW.2.1, hW.2.2.1, fun r => ?_, hW.2.2.2.2.1, hW.2.2.2.2.2⟩
  have h := hW.2.2.2.1 r
  show VL ((XA A).1 r) (clA A lo hi 38 r)
  unfold clA
  by_cases q : lo ≤ r ∧ r < hi
  · rw [if_pos ⟨rfl, q⟩]; exact ⟨Nat.zero_le _, Or.inl rfl, h.2.2⟩
  · rw [if_neg (fun z => q z.2)]; exact h
theorem removeLines_ok {A : aS} {M : hyM} (hW : WFA A) (hV : VA (XA A) M) {v : Nat} (hv : v < 4) :
    ∃ M', Ve_removeLines (n3 v) M = some (n3 (cnt (fun k => decide (0 < A 38 (v * 24 + k))) 24), M') ∧ M'.2 = M.2 ∧ (∀ c k, c ≠ 10 → M'.1 c k = M.1 c k) ∧ ∀ r, M'.1 10 r = if v * 24 ≤ r ∧ r < v * 24 + 24 then 0 else M.1 10 r := by
  have key := lpI (σ := Int32 × Int32 × hyM) (fun f s => Ve_removeLines_L4 (n3 v) f s.1 s.2.1 s.2.2) (fun j s => s.1 = n3 (cnt (fun k => decide (0 < A 38 (v * 24 + k))) j) ∧ s.2.1 = n3 j ∧ s.2.2.2 = M.2 ∧ (∀ c k, c ≠ 10 → s.2.2.1 c k = M.1 c k) ∧ ∀ r, s.2.2.1 10 r = if v * 24 ≤ r ∧ r < v * 24 + j then 0 else M.1 10 r) 24 (fun s => s.1 = n3 (cnt (fun k => decide (0 < A 38 (v * 24 + k))) 24) ∧ s.2.2.2 = M.2 ∧ (∀ c k, c ≠ 10 → s.2.2.1 c k = M.1 c k) ∧ ∀ r, s.2.2.1 10 r = if v * 24 ≤ r ∧ r < v * 24 + 24 then 0 else M.1 10 r) ?_ ?_ hyFu 0 (n3 0, n3 0, M) (Nat.zero_le _) (hyFu_big (by omega)) ⟨rfl, rfl, rfl, fun _ _ _ => rfl, fun r => by rw [if_neg (by omega)]⟩
  · obtain ⟨⟨a, b, M'⟩, e1, e2, e3, e4, e5⟩ := key
    dsimp only at e1 e2 e3 e4 e5
    refine ⟨M', ?_, e3, e4, e5⟩
    rw [Ve_removeLines, show (0 : Int32) = n3 0 from rfl, e1, Option.bind_some, e2]
  · rintro f j ⟨x1, x2, P⟩ hj ⟨rfl, rfl, i1, i2, i3⟩
    refine Or.inl ?_
    dsimp only at i1 i2 i3 ⊢
    have hVr := hV (v * 24 + j) (by omega)
    have hns := ns_le (hW.2.2.2.1 (v * 24 + j))
    have hs : Ve_syllablesOf (n3 v) (n3 j) P = n3 (nsS ((XA A).1 (v * 24 + j)) ((XA A).2 (v * 24 + j))) := by
      unfold Ve_syllablesOf
      rw [rowOf_n3, atf_in _ (by omega) (by decide), i3, if_neg (by omega), hVr.1]
    have hc : Hp_flag (!decide (Ve_syllablesOf (n3 v) (n3 j) P ≤ 0)) P = n3 (decide (0 < A 38 (v * 24 + j))).toNat := by
      unfold Hp_flag
      rw [hs, bI_n3, l_0, dec_le (by omega) (by omega)]
      congr 2
      exact ns0 _ _
    rw [Ve_removeLines_L4, l_24, if_neg (by rw [n3_le (by omega) (by omega)]; omega), hc, rowOf_n3, putf_in _ _ _ (by omega) (by decide), Option.bind_some, n3_s, n3_add]
    refine ⟨(n3 (cnt (fun k => decide (0 < A 38 (v * 24 + k))) (j + 1)), n3 (j + 1), wI P 10 (v * 24 + j) 0), rfl, rfl, rfl, i1, fun c k hc2 => ?_, fun r => ?_⟩
    · rw [rd_ne hc2]; exact i2 c k hc2
    · dsimp only
      by_cases e : r = v * 24 + j
      · subst e; rw [rd_eq, if_pos (by omega)]
      · rw [rd_nk e, i3]
        by_cases q : v * 24 ≤ r ∧ r < v * 24 + j
        · rw [if_pos q, if_pos (by omega)]
        · rw [if_neg q, if_neg (by omega)]
  · rintro f ⟨x1, x2, P⟩ ⟨rfl, rfl, i1, i2, i3⟩
    dsimp only at i1 i2 i3 ⊢
    rw [Ve_removeLines_L4, l_24, if_pos (by rw [n3_le (by omega) (by omega)]; omega)]
    exact ⟨_, rfl, rfl, i1, i2, i3⟩
/-- the class's base with rows removed -/
theorem CB_rm {A : aS} {M M' : hyM} {v : Nat} (hC : CB A M) (h2 : M'.2 = M.2) (h3 : ∀ c k, c ≠ 10 → M'.1 c k = M.1 c k) (h4 : ∀ r, M'.1 10 r = if v * 24 ≤ r ∧ r < v * 24 + 24 then 0 else M.1 10 r) : CB (clA A (v * 24) (v * 24 + 24)) M' := by
  obtain ⟨⟨a1, a2, a3, a4, a5⟩, ⟨b1, b2⟩, ⟨c1, c2⟩, ⟨q1, q2⟩, vv, ⟨m1, m2⟩, ⟨i1, i2⟩⟩ := hC
  refine ⟨⟨by rw [h3 _ _ (by decide)]; exact a1, by rw [h3 _ _ (by decide)]; exact a2, by rw [h3 _ _ (by decide)]; exact a3, fun i => by rw [h3 _ _ (by decide)]; exact a4 i, fun i => by rw [h3 _ _ (by decide)]; exact a5 i⟩, ⟨by rw [h2]; exact b1, by rw [h2]; exact b2⟩, ⟨by rw [h3 _ _ (by decide)]; exact c1, by rw [h3 _ _ (by decide)]; exact c2⟩, ⟨by rw [h3 _ _ (by decide)]; exact q1, fun i => by rw [h3 _ _ (by decide)]; exact q2.1 i, fun i => by rw [h3 _ _ (by decide)]; exact q2.2.1 i, fun i => by rw [h3 _ _ (by decide)]; exact q2.2.2 i⟩, fun r hr => ?_, ⟨by rw [h3 _ _ (by decide)]; exact m1, fun m hm => ⟨by rw [h3 _ _ (by decide)]; exact (m2 m hm).1, fun j hj => by rw [h3 _ _ (by decide)]; exact (m2 m hm).2 j hj⟩⟩, ⟨by rw [h3 _ _ (by decide)]; exact i1, fun i => by rw [h3 _ _ (by decide)]; exact i2 i⟩⟩
  have e : (XA (clA A (v * 24) (v * 24 + 24))).2 r = if v * 24 ≤ r ∧ r < v * 24 + 24 then 0 else A 38 r := by
    show clA A (v * 24) (v * 24 + 24) 38 r = _
    unfold clA
    by_cases q : v * 24 ≤ r ∧ r < v * 24 + 24
    · rw [if_pos q, if_pos ⟨rfl, q⟩]
    · rw [if_neg q, if_neg (fun z => q z.2)]
  show VR ((XA A).1 r) ((XA (clA A (v * 24) (v * 24 + 24))).2 r) r M'
  rw [e]
  by_cases q : v * 24 ≤ r ∧ r < v * 24 + 24
  · rw [if_pos q]
    refine ⟨by rw [h4, if_pos q]; rfl, fun j hj => absurd hj (Nat.not_lt_zero _)⟩
  · rw [if_neg q]
    refine ⟨by rw [h4, if_neg q]; exact (vv r hr).1, fun j hj => by rw [h3 _ _ (by decide)]; exact (vv r hr).2 j hj⟩
theorem s_clearVerse {T : hyT} (h : INV T) (a : Int32) : okS (La_clearVerse a T) (Rf_clearVerse a) := by
  obtain ⟨A, hW, hC, hR⟩ := h
  have e1 : Hp_checkIndex a 4 T.1 = if ixB a 4 = true then .inr () else .inl 3 := ckI a 4 T.1
  have e3 := wi4 a T.2.1
  rcases Bool.eq_false_or_eq_true (ixB a 4) with c | c
  · rw [c, if_pos rfl] at e1
    rw [c] at e3
    obtain ⟨v, rfl, hv⟩ := ix_n3 c (by decide)
    have hW' := clA_WF hW (v * 24) (v * 24 + 24)
    obtain ⟨M1, r1, r2, r3, r4⟩ := removeLines_ok hW hC.1.2.2.2.2.1 hv
    obtain ⟨M', m1, m2, -, -, -, -⟩ := lay_same hW' (CB_rm hC.1 r2 r3 r4)
    have hL : ∀ r, (wI T.2.1 30 0 0).1 38 r = n3 (A 38 r) := fun r => by rw [rd_ne (by decide)]; exact hR 38 r rfl
    have k2 := lpI (σ := Int32 × Int32 × hyM) (fun f s => Rf_clearVerse_L34 (n3 v) f s.1 s.2.1 s.2.2) (fun j s => s.1 = n3 (cnt (fun k => decide (0 < A 38 (v * 24 + k))) j) ∧ s.2.1 = n3 (v * 24 + j) ∧ (∀ c k, c ≠ 38 → s.2.2.1 c k = (wI T.2.1 30 0 0).1 c k) ∧ ∀ r, s.2.2.1 38 r = n3 (if v * 24 ≤ r ∧ r < v * 24 + j then 0 else A 38 r)) 24 (fun s => s.1 = n3 (cnt (fun k => decide (0 < A 38 (v * 24 + k))) 24) ∧ (∀ c k, c ≠ 38 → s.2.2.1 c k = (wI T.2.1 30 0 0).1 c k) ∧ ∀ r, s.2.2.1 38 r = n3 (if v * 24 ≤ r ∧ r < v * 24 + 24 then 0 else A 38 r)) ?_ ?_ hyFu 0 (n3 0, n3 (v * 24), wI T.2.1 30 0 0) (Nat.zero_le _) (hyFu_big (by omega)) ⟨rfl, rfl, fun _ _ _ => rfl, fun r => by rw [if_neg (by omega)]; exact hL r⟩
    · obtain ⟨⟨x, y, N⟩, n1, n2, n3', n4⟩ := k2
      dsimp only at n1 n2 n3' n4
      have hR' : RI (clA A (v * 24) (v * 24 + 24)) N := by
        intro c k hc
        by_cases q : c = 38
        · subst q
          rw [n4]
          unfold clA
          by_cases q2 : v * 24 ≤ k ∧ k < v * 24 + 24
          · rw [if_pos q2, if_pos ⟨rfl, q2⟩]
          · rw [if_neg q2, if_neg (fun z => q2 z.2)]
        · rw [n3' c k q]
          unfold clA
          rw [if_neg (fun z => q z.1)]
          exact RI.w hR rfl c k hc
      refine fin_v (T := T) (v := n3 (cnt (fun k => decide (0 < A 38 (v * 24 + k))) 24)) hW' m2 hR' (by rw [n3' _ _ (by decide), rd_eq]) ?_ ?_
      · rw [La_clearVerse, Hp_clearVerse, e1]
        dsimp only
        rw [r1, Option.bind_some]
        dsimp only
        rw [m1]
        rfl
      · rw [Rf_clearVerse, e3, show bI (!true) = 0 from rfl, Option.bind_some, rd_eq, if_pos gt0.2.2.2, show 24 * n3 v = n3 (v * 24) from by rw [l_24, n3_mul, Nat.mul_comm]]
        rw [show (0 : Int32) = n3 0 from rfl] at n1 ⊢
        rw [n1, Option.bind_some, n2]
    · rintro f j ⟨x1, x2, P⟩ hj ⟨rfl, rfl, i2, i3⟩
      refine Or.inl ?_
      dsimp only at i2 i3 ⊢
      have hb := (hW.2.2.2.1 (v * 24 + j)).1
      have hb2 : A 38 (v * 24 + j) ≤ 60 := hb
      have p1 : P.1 38 (v * 24 + j) = n3 (A 38 (v * 24 + j)) := by rw [i3, if_neg (by omega)]
      have hc : bI (!decide (n3 (A 38 (v * 24 + j)) ≤ 0)) = n3 (decide (0 < A 38 (v * 24 + j))).toNat := by
        rw [bI_n3, l_0, dec_le (by omega) (by omega)]
        congr 2
        exact nn0 _
      rw [Rf_clearVerse_L34, if_neg (by rw [l_24, l_1, n3_add, n3_mul, n3_le (by omega) (by omega)]; omega), ldE_in _ (by omega) (by decide), p1, Option.bind_some, stE_in _ _ _ (by omega) (by decide), Option.bind_some, hc, n3_s, n3_add]
      refine ⟨(n3 (cnt (fun k => decide (0 < A 38 (v * 24 + k))) (j + 1)), n3 (v * 24 + j + 1), wI P 38 (v * 24 + j) 0), rfl, rfl, rfl, fun c k hc2 => ?_, fun r => ?_⟩
      · rw [rd_ne hc2]; exact i2 c k hc2
      · dsimp only
        by_cases e : r = v * 24 + j
        · subst e; rw [rd_eq, if_pos (by omega)]; rfl
        · rw [rd_nk e, i3]
          by_cases q : v * 24 ≤ r ∧ r < v * 24 + j
          · rw [if_pos q, if_pos (by omega)]
          · rw [if_neg q, if_neg (by omega)]
    · rintro f ⟨x1, x2, P⟩ ⟨rfl, rfl, i2, i3⟩
      dsimp only at i2 i3 ⊢
      rw [Rf_clearVerse_L34, if_pos (by rw [l_24, l_1, n3_add, n3_mul, n3_le (by omega) (by omega)]; omega)]
      exact ⟨_, rfl, rfl, i2, i3⟩
  · rw [c, if_neg (by decide)] at e1
    rw [c] at e3
    refine fin_t (T := T) (k := 1) (b := 0) (N := wI T.2.1 30 0 1) (by decide) hW hC (RI.w hR rfl) ?_ ?_ (rd_eq _ _ _ _)
    · rw [La_clearVerse, Hp_clearVerse, e1]
      rfl
    · rw [Rf_clearVerse, e3, show bI (!false) = 1 from rfl, Option.bind_some, rd_eq, if_neg gt0.1]
/-! beginning anew -/
theorem hbt_0 : ∀ i : Fin 40, hbt 0 i.val = false := by decide +kernel
/-- a beginning, before the rows are emptied -/
def beA (A : aS) (t : Nat) : aS := uA (uA (uA (uA (uA (uA A 30 1 t) 30 2 0) 30 7 0) 30 11 4) 30 12 0) 30 13 80
theorem beA_WF {A : aS} (hW : WFA A) {t : Nat} (ht : t ≤ 11) : WFA (beA A t) := by
  refine ⟨⟨Nat.zero_le _, Nat.lt_succ_of_le ht, fun i hi => absurd hi (Nat.not_lt_zero _), fun i hi => absurd hi (Nat.not_lt_zero _), hW.1.2.2.2.2⟩, ⟨WR_0 _ _, hW.2.1.2⟩, ⟨(by decide : 2 ≤ 4), (by decide : 4 ≤ 24), (by decide : 0 < 4), (by decide : 20 ≤ 80), (by decide : 80 ≤ 200)⟩, hW.2.2.2.1, hW.2.2.2.2.1, hW.2.2.2.2.2⟩
def bgA (A : aS) (t : Nat) : Nat → aS
  | 0 => beA A t
  | v + 1 => clA (bgA A t v) (v * 24) (v * 24 + 24)
theorem bgA_WF {A : aS} (hW : WFA A) {t : Nat} (ht : t ≤ 11) (v : Nat) : WFA (bgA A t v) := by
  induction v with
  | zero => exact beA_WF hW ht
  | succ v ih => exact clA_WF ih _ _
theorem bgA_rd (A : aS) (t v c k : Nat) : bgA A t v c k = if c = 38 ∧ k < v * 24 then 0 else beA A t c k := by
  induction v with
  | zero => rw [if_neg (by omega)]; rfl
  | succ v ih =>
    show (if c = 38 ∧ v * 24 ≤ k ∧ k < v * 24 + 24 then 0 else bgA A t v c k) = _
    rw [ih]
    by_cases q : c = 38 ∧ v * 24 ≤ k ∧ k < v * 24 + 24
    · rw [if_pos q, if_pos (by omega)]
    · rw [if_neg q]
      by_cases q2 : c = 38 ∧ k < v * 24
      · rw [if_pos q2, if_pos (by omega)]
      · rw [if_neg q2, if_neg (by omega)]
theorem s_begin {T : hyT} (h : INV T) (a : Int32) : okS (La_begin a T) (Rf_begin a) := by
  obtain ⟨A, hW, hC, hR⟩ := h
  have hn := hW.1.1
  have e1 := ckR a 0 11 T.1 T.2.1
  rcases Bool.eq_false_or_eq_true (Rf_within a 0 11 T.2.1) with c | c
  · rw [c, if_pos rfl] at e1
    obtain ⟨t, rfl, -, ht⟩ := wi_n3 (lo := 0) (hi := 11) c (by decide) (by decide)
    -- the class's base, but the width of the page
    have hB0 : ∃ w, w = A 30 13 ∧ CB (uA (bgA A t 0) 30 13 w) (wI (Ba_change 4 0 (Tu_restart (n3 t) T.1)) 5 3 0) := by
      obtain ⟨⟨a1, a2, a3, a4, a5⟩, bb, cc, qq, v, mm, ii⟩ := hC.1
      refine ⟨_, rfl, ⟨a1, rfl, rfl, a4, a5⟩, ⟨fun i hi => ?_, fun i hi => ?_⟩, ⟨rfl, rfl⟩, ⟨rfl, qq.2⟩, v, mm, ii⟩
      · have e : (decide (i < (uA (bgA A t 0) 30 13 (A 30 13)) 30 2) && sA (uA (bgA A t 0) 30 13 (A 30 13)) i) = false := by
          have : ¬ i < (uA (bgA A t 0) 30 13 (A 30 13)) 30 2 := Nat.not_lt_zero _
          simp [this]
        rw [e]
        exact hbt_0 ⟨i, hi⟩
      · have e : (decide (i < (uA (bgA A t 0) 30 13 (A 30 13)) 30 2) && eA (uA (bgA A t 0) 30 13 (A 30 13)) i) = false := by
          have : ¬ i < (uA (bgA A t 0) 30 13 (A 30 13)) 30 2 := Nat.not_lt_zero _
          simp [this]
        rw [e]
        exact hbt_0 ⟨i, hi⟩
    obtain ⟨w, hw, hB0⟩ := hB0
    have hwb : 20 ≤ w ∧ w ≤ 200 := by rw [hw]; exact hW.2.2.1.2.2.2
    have hWv : ∀ v, WFA (uA (bgA A t v) 30 13 w) := fun v => by
      have g := bgA_WF hW ht v
      exact ⟨g.1, g.2.1, ⟨g.2.2.1.1, g.2.2.1.2.1, g.2.2.1.2.2.1, hwb⟩, g.2.2.2.1, g.2.2.2.2.1, g.2.2.2.2.2⟩
    have k1 := lpI (σ := Int32 × hyM) (fun f s => Hp_begin_L42 f s.1 s.2) (fun v s => s.1 = n3 v ∧ CB (uA (bgA A t v) 30 13 w) s.2) 4 (fun r => CB (uA (bgA A t 4) 30 13 w) r.2) ?_ ?_ hyFu 0 (n3 0, wI (Ba_change 4 0 (Tu_restart (n3 t) T.1)) 5 3 0) (Nat.zero_le _) (hyFu_big (by omega)) ⟨rfl, hB0⟩
    · obtain ⟨⟨y, M1⟩, m1, m2⟩ := k1
      dsimp only at m1 m2
      have hW' := bgA_WF hW ht 4
      have hB : CB (bgA A t 4) (wI M1 0 9 80) := by
        obtain ⟨⟨a1, a2, a3, a4, a5⟩, bb, cc, qq, v, mm, ii⟩ := m2
        exact ⟨⟨rfl, a2, a3, a4, a5⟩, bb, cc, qq, v, mm, ii⟩
      obtain ⟨M', n1, n2, -, -, -, -⟩ := lay_same hW' hB
      have hRb : RI (beA A t) (wI (wI (wI (wI (wI (wI (wI T.2.1 30 0 0) 30 1 (n3 t)) 30 2 (n3 0)) 30 7 (n3 0)) 30 11 (n3 4)) 30 12 (n3 0)) 30 13 (n3 80)) := RI.u (RI.u (RI.u (RI.u (RI.u (RI.u (RI.w hR rfl) 30 1 t) 30 2 0) 30 7 0) 30 11 4) 30 12 0) 30 13 80
      generalize hN0 : wI (wI (wI (wI (wI (wI (wI T.2.1 30 0 0) 30 1 (n3 t)) 30 2 (n3 0)) 30 7 (n3 0)) 30 11 (n3 4)) 30 12 (n3 0)) 30 13 (n3 80) = N0 at hRb
      have t0 : N0.1 30 0 = 0 := by rw [← hN0]; rfl
      have k2 := lpI (σ := Int32 × hyM) (fun f s => Rf_begin_L66 f s.1 s.2) (fun j s => s.1 = n3 j ∧ (∀ c k, c ≠ 38 → s.2.1 c k = N0.1 c k) ∧ ∀ r, s.2.1 38 r = n3 (if r < j then 0 else A 38 r)) 96 (fun r => (∀ c k, c ≠ 38 → r.2.1 c k = N0.1 c k) ∧ ∀ q, r.2.1 38 q = n3 (if q < 96 then 0 else A 38 q)) ?_ ?_ hyFu 0 (n3 0, N0) (Nat.zero_le _) (hyFu_big (by omega)) ⟨rfl, fun _ _ _ => rfl, fun r => by rw [if_neg (Nat.not_lt_zero _)]; exact hRb 38 r rfl⟩
      · obtain ⟨⟨z, N⟩, p1, p2, p3⟩ := k2
        dsimp only at p1 p2 p3
        have hR' : RI (bgA A t 4) N := by
          intro c k hc
          rw [bgA_rd]
          by_cases q : c = 38
          · subst q
            rw [p3]
            by_cases q2 : k < 96
            · rw [if_pos q2, if_pos ⟨rfl, q2⟩]
            · rw [if_neg q2, if_neg (fun z => q2 z.2)]; rfl
          · rw [p2 c k q, if_neg (fun z => q z.1)]
            exact hRb c k hc
        refine fin_v (T := T) (v := n3 (A 30 2)) hW' n2 hR' (by rw [p2 _ _ (by decide)]; exact t0) ?_ ?_
        · rw [La_begin, Hp_begin, e1]
          dsimp only
          simp only [Option.bind_some]
          rw [show (0 : Int32) = n3 0 from rfl] at m1 ⊢
          rw [m1, Option.bind_some]
          dsimp only
          rw [n1, Option.bind_some, CA_n hC]
          rfl
        · rw [Rf_begin, c, show bI (!true) = 0 from rfl, Option.bind_some, rd_eq, if_pos gt0.2.2.2]
          simp only [Option.bind_some]
          rw [show wI (wI (wI (wI (wI (wI (wI T.2.1 30 0 0) 30 1 (n3 t)) 30 2 0) 30 7 0) 30 11 4) 30 12 0) 30 13 80 = N0 from hN0]
          rw [show (0 : Int32) = n3 0 from rfl, p1, Option.bind_some]
          dsimp only
          rw [rd_nk (by decide), hR 30 2 rfl]
      · rintro f j ⟨x1, P⟩ hj ⟨rfl, i2, i3⟩
        refine Or.inl ?_
        dsimp only at i2 i3 ⊢
        rw [Rf_begin_L66, l_96, if_neg (by rw [n3_le (by omega) (by omega)]; omega), stE_in _ _ _ (by omega) (by decide), Option.bind_some, n3_s]
        refine ⟨(n3 (j + 1), wI P 38 j 0), rfl, rfl, fun c k hc2 => ?_, fun r => ?_⟩
        · rw [rd_ne hc2]; exact i2 c k hc2
        · dsimp only
          by_cases e : r = j
          · subst e; rw [rd_eq, if_pos (by omega)]; rfl
          · rw [rd_nk e, i3]
            by_cases q : r < j
            · rw [if_pos q, if_pos (by omega)]
            · rw [if_neg q, if_neg (by omega)]
      · rintro f ⟨x1, P⟩ ⟨rfl, i2, i3⟩
        dsimp only at i2 i3 ⊢
        rw [Rf_begin_L66, l_96, if_pos (by rw [n3_le (by omega) (by omega)]; omega)]
        exact ⟨_, rfl, i2, i3⟩
    · rintro f v ⟨x1, P⟩ hv ⟨rfl, hP⟩
      refine Or.inl ?_
      dsimp only at hP ⊢
      obtain ⟨M1, r1, r2, r3, r4⟩ := removeLines_ok (hWv v) hP.2.2.2.2.1 hv
      rw [Hp_begin_L42, l_4, if_neg (by rw [n3_le (by omega) (by omega)]; omega), r1, Option.bind_some]
      dsimp only
      rw [n3_s]
      exact ⟨(n3 (v + 1), M1), rfl, rfl, CB_rm hP r2 r3 r4⟩
    · rintro f ⟨x1, P⟩ ⟨rfl, hP⟩
      dsimp only at hP ⊢
      rw [Hp_begin_L42, l_4, if_pos (by rw [n3_le (by omega) (by omega)]; omega)]
      exact ⟨_, rfl, hP⟩
  · rw [c, if_neg (by decide)] at e1
    refine fin_t (T := T) (k := 1) (b := 0) (N := wI T.2.1 30 0 1) (by decide) hW hC (RI.w hR rfl) ?_ ?_ (rd_eq _ _ _ _)
    · rw [La_begin, Hp_begin, e1]
      rfl
    · rw [Rf_begin, c, show bI (!false) = 1 from rfl, Option.bind_some, rd_eq, if_neg gt0.1]
