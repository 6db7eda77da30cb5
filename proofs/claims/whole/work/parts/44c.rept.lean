/-! A repeat. -/
theorem rp_ng : ∀ f l : Fin 41, l.val < f.val → ¬ (0 : Int32) ≤ n3 l.val - n3 f.val := by decide +kernel
/-- one of the first k repeats is touched -/
def tcB (q : rpT) (f l : Nat) : Nat → Bool
  | 0 => false
  | k + 1 => tcB q f l k || (decide (f ≤ q.2.2.1 k) && decide (q.2.1 k ≤ l))
theorem tcB_f {q : rpT} {f l : Nat} : ∀ k, tcB q f l k = false → ∀ i, i < k → ¬ (f ≤ q.2.2.1 i ∧ q.2.1 i ≤ l) := by
  intro k
  induction k with
  | zero => intro _ i hi; omega
  | succ k ih =>
    intro h i hi
    rw [tcB, Bool.or_eq_false_iff] at h
    by_cases e : i = k
    · subst e
      rintro ⟨z1, z2⟩
      have := h.2
      simp [z1, z2] at this
    · exact ih h.1 i (by omega)
theorem tcB_mono {q : rpT} {f l : Nat} {k : Nat} (h : tcB q f l k = true) : ∀ d, tcB q f l (k + d) = true := by
  intro d
  induction d with
  | zero => exact h
  | succ d ih => rw [← Nat.add_assoc, tcB, ih]; rfl
theorem Re_touch_ok {m : Nat} {q : rpT} {M : hyM} (hw : WR m q) (hm : m ≤ 40) (h3 : M.1 5 3 = n3 q.1) (hq : RQ q M) {f l : Nat} (hf : f < 40) (hl : l < 40) : Re_touch (n3 f) (n3 l) M = some (tcB q f l q.1) := by
  have hq1 := hw.1
  have key := lpI (σ := Int32) (fun F s => Re_touch_L2 (n3 f) (n3 l) M F s) (fun k s => s = n3 k ∧ tcB q f l k = false) q.1 (fun r => (r = .inl true ∧ tcB q f l q.1 = true) ∨ (tcB q f l q.1 = false ∧ ∃ y, r = .inr y)) ?_ ?_ hyFu 0 (n3 0) (Nat.zero_le _) (hyFu_big (by omega)) ⟨rfl, rfl⟩
  · obtain ⟨r, e1, e2⟩ := key
    have e1 : Re_touch_L2 (n3 f) (n3 l) M hyFu (n3 0) = some r := e1
    rw [Re_touch, show (0 : Int32) = n3 0 from rfl, e1, Option.bind_some]
    rcases e2 with ⟨rfl, g⟩ | ⟨g, y, rfl⟩
    · rw [g]
    · rw [g]
  · rintro F k s hk ⟨rfl, hi⟩
    have hv := hw.2.1 k hk
    have b1 := hv.1
    have b2 := hv.2.1
    show (∃ s', Re_touch_L2 (n3 f) (n3 l) M (F + 1) (n3 k) = Re_touch_L2 (n3 f) (n3 l) M F s' ∧ _) ∨ ∃ r, Re_touch_L2 (n3 f) (n3 l) M (F + 1) (n3 k) = some r ∧ _
    have hc : (if atf 3 (M.1 7) (n3 k) < n3 f then false else !decide (n3 l < atf 3 (M.1 6) (n3 k))) = (decide (f ≤ q.2.2.1 k) && decide (q.2.1 k ≤ l)) := by
      rw [atf_in _ (by omega) (by decide), atf_in _ (by omega) (by decide), hq.1, hq.2.1, ite_lt (by omega) (by omega), dec_lt (by omega) (by omega)]
      by_cases c1 : q.2.2.1 k < f
      · rw [if_pos c1, show decide (f ≤ q.2.2.1 k) = false from decide_eq_false (by omega)]; rfl
      · rw [if_neg c1, show decide (f ≤ q.2.2.1 k) = true from decide_eq_true (by omega)]
        by_cases c2 : l < q.2.1 k
        · rw [decide_eq_true c2, show decide (q.2.1 k ≤ l) = false from decide_eq_false (by omega)]; rfl
        · rw [decide_eq_false c2, show decide (q.2.1 k ≤ l) = true from decide_eq_true (by omega)]; rfl
    rw [Re_touch_L2, h3, if_neg (by rw [n3_le (by omega) (by omega)]; omega), hc]
    cases z : (decide (f ≤ q.2.2.1 k) && decide (q.2.1 k ≤ l)) with
    | false =>
      rw [if_neg (by decide), n3_s]
      refine Or.inl ⟨_, rfl, rfl, ?_⟩
      rw [tcB, hi, z]; rfl
    | true =>
      rw [if_pos rfl]
      refine Or.inr ⟨_, rfl, Or.inl ⟨rfl, ?_⟩⟩
      have := tcB_mono (q := q) (f := f) (l := l) (k := k + 1) (by rw [tcB, z, Bool.or_true]) (q.1 - (k + 1))
      rw [show k + 1 + (q.1 - (k + 1)) = q.1 from by omega] at this
      exact this
  · rintro F s ⟨rfl, hi⟩
    show ∃ r, Re_touch_L2 (n3 f) (n3 l) M (F + 1) (n3 q.1) = some r ∧ _
    rw [Re_touch_L2, h3, if_pos (by rw [n3_le (by omega) (by omega)]; omega)]
    exact ⟨_, rfl, Or.inr ⟨hi, _, rfl⟩⟩
theorem Rf_isApart_ok {m : Nat} {q : rpT} {M : hyM} (hw : WR m q) (hm : m ≤ 40) (h3 : M.1 30 7 = n3 q.1) (hq : RR q M) {f l : Nat} (hf : f < 40) (hl : l < 40) : Rf_isApart (n3 f) (n3 l) M = some (!tcB q f l q.1) := by
  have hq1 := hw.1
  have key := lpI (σ := Bool × Int32) (fun F s => Rf_isApart_L5 (n3 f) (n3 l) M F s.1 s.2) (fun k s => s.1 = (!tcB q f l k) ∧ s.2 = n3 k) q.1 (fun r => r.1 = !tcB q f l q.1) ?_ ?_ hyFu 0 (true, n3 0) (Nat.zero_le _) (hyFu_big (by omega)) ⟨rfl, rfl⟩
  · obtain ⟨⟨x, y⟩, e1, e2⟩ := key
    dsimp only at e1 e2
    rw [Rf_isApart, show (0 : Int32) = n3 0 from rfl, e1, Option.bind_some, ← e2]
  · rintro F k ⟨x, y⟩ hk ⟨rfl, rfl⟩
    refine Or.inl ?_
    have hv := hw.2.1 k hk
    have b1 := hv.1
    have b2 := hv.2.1
    dsimp only
    rw [Rf_isApart_L5, h3, if_neg (by rw [n3_le (by omega) (by omega)]; omega)]
    cases z : tcB q f l k with
    | true =>
      rw [if_neg (by decide), n3_s]
      refine ⟨(false, n3 (k + 1)), rfl, ?_, rfl⟩
      rw [tcB, z]; rfl
    | false =>
      rw [if_pos (by rfl), ldE_in _ (by omega) (by decide), Option.bind_some, hq.1, ite_lt (by omega) (by omega)]
      by_cases c2 : l < q.2.1 k
      · rw [if_pos c2, n3_s]
        refine ⟨(true, n3 (k + 1)), rfl, ?_, rfl⟩
        rw [tcB, z, show decide (q.2.1 k ≤ l) = false from decide_eq_false (by omega), Bool.and_false]; rfl
      · rw [if_neg c2, ldE_in _ (by omega) (by decide), Option.bind_some, hq.2.1, dec_le (by omega) (by omega), n3_s]
        refine ⟨(_, n3 (k + 1)), rfl, ?_, rfl⟩
        rw [tcB, z, show decide (q.2.1 k ≤ l) = true from decide_eq_true (by omega), Bool.and_true, Bool.false_or]
        rfl
  · rintro F ⟨x, y⟩ ⟨rfl, rfl⟩
    dsimp only
    rw [Rf_isApart_L5, h3, if_pos (by rw [n3_le (by omega) (by omega)]; omega)]
    exact ⟨_, rfl, rfl⟩
def reA (A : aS) (f l s : Nat) : aS := uA (uA (uA (uA A 35 (A 30 7) f) 36 (A 30 7) l) 37 (A 30 7) s) 30 7 (A 30 7 + 1)
theorem reA_WF {A : aS} (hW : WFA A) {f l s : Nat} (h3 : A 30 7 < 3) (hf : f ≤ l) (hl : l < mA A) (hs : s ≤ l - f) (ht : tcB (rpA A) f l (rpA A).1 = false) : WFA (reA A f l s) := by
  have hm := mA_le A
  have hn := hW.1.1
  have r5 : ∀ i, reA A f l s 35 i = if i = A 30 7 then f else A 35 i := fun i => by
    show uA A 35 (A 30 7) f 35 i = _
    by_cases q : i = A 30 7
    · rw [if_pos q, q, uA_eq]
    · rw [if_neg q, uA_nk q]
  have r6 : ∀ i, reA A f l s 36 i = if i = A 30 7 then l else A 36 i := fun i => by
    show uA A 36 (A 30 7) l 36 i = _
    by_cases q : i = A 30 7
    · rw [if_pos q, q, uA_eq]
    · rw [if_neg q, uA_nk q]
  have r7 : ∀ i, reA A f l s 37 i = if i = A 30 7 then s else A 37 i := fun i => by
    show uA A 37 (A 30 7) s 37 i = _
    by_cases q : i = A 30 7
    · rw [if_pos q, q, uA_eq]
    · rw [if_neg q, uA_nk q]
  have ha := tcB_f _ ht
  refine ⟨hW.1, ⟨⟨show A 30 7 + 1 ≤ 3 from h3, fun i hi => ?_, fun i j hi hj hij => ?_⟩, fun i => ?_⟩, hW.2.2.1, hW.2.2.2.1, hW.2.2.2.2.1, hW.2.2.2.2.2⟩
  · have hi : i < A 30 7 + 1 := hi
    show reA A f l s 35 i ≤ reA A f l s 36 i ∧ reA A f l s 36 i < mA A ∧ reA A f l s 37 i ≤ reA A f l s 36 i - reA A f l s 35 i
    rw [r5, r6, r7]
    by_cases q : i = A 30 7
    · rw [if_pos q, if_pos q, if_pos q]; exact ⟨hf, hl, hs⟩
    · rw [if_neg q, if_neg q, if_neg q]; exact hW.2.1.1.2.1 i (show i < A 30 7 by omega)
  · have hi : i < A 30 7 + 1 := hi
    have hj : j < A 30 7 + 1 := hj
    show reA A f l s 36 i < reA A f l s 35 j ∨ reA A f l s 36 j < reA A f l s 35 i
    rw [r5, r6, r5, r6]
    by_cases q : i = A 30 7
    · rw [if_pos q, if_pos q, if_neg (by omega), if_neg (by omega)]
      have := ha j (show j < A 30 7 by omega)
      have : ¬ (f ≤ A 36 j ∧ A 35 j ≤ l) := this
      omega
    · rw [if_neg q, if_neg q]
      by_cases q2 : j = A 30 7
      · rw [if_pos q2, if_pos q2]
        have := ha i (show i < A 30 7 by omega)
        have : ¬ (f ≤ A 36 i ∧ A 35 i ≤ l) := this
        omega
      · rw [if_neg q2, if_neg q2]
        exact hW.2.1.1.2.2 i j (show i < A 30 7 by omega) (show j < A 30 7 by omega) hij
  · rw [r5, r6, r7]
    by_cases q : i = A 30 7
    · rw [if_pos q, if_pos q, if_pos q]; omega
    · rw [if_neg q, if_neg q, if_neg q]; exact hW.2.1.2 i
theorem s_repeat {T : hyT} (h : INV T) (a b c : Int32) : okS (La_repeat a b c T) (Rf_repeat a b c) := by
  obtain ⟨A, hW, hC, hR⟩ := h
  have hn := hW.1.1
  have hm := mA_le A
  have h125 : T.1.1 12 5 = n3 (mA A) := hC.2.1.1
  have h53 : T.1.1 5 3 = n3 (A 30 7) := hC.1.2.2.2.1.1
  have hRQ : RQ (rpA A) T.1 := hC.1.2.2.2.1.2
  obtain ⟨N1, f1, f2, f3⟩ := Rf_layPh_ok hW hR
  have hR1 := hR.fr f2
  have h21 : N1.1 30 21 = n3 (mA A) := f3.2.2.2.2.1
  have h7 : N1.1 30 7 = n3 (A 30 7) := hR1 30 7 rfl
  have e1 : Hp_checkIndex a (T.1.1 12 5) T.1 = if ixB a (mA A) = true then .inr () else .inl 3 := by rw [h125]; exact ckI a _ _
  have e2 : Hp_checkIndex b (T.1.1 12 5) T.1 = if ixB b (mA A) = true then .inr () else .inl 3 := by rw [h125]; exact ckI b _ _
  have e3 := ckR c 0 (b - a) T.1 N1
  have w1 : Rf_within a 0 (N1.1 30 21 - 1) N1 = ixB a (mA A) := by rw [h21, wiI _ (by omega)]
  have w2 : Rf_within b 0 (N1.1 30 21 - 1) N1 = ixB b (mA A) := by rw [h21, wiI _ (by omega)]
  have bad1 : (if ixB a (mA A) = true then ixB b (mA A) else false) = false → La_repeat a b c T = some (1, T) → okS (La_repeat a b c T) (Rf_repeat a b c) := by
    intro q1 q2
    refine fin_t (T := T) (k := 1) (b := 0) (N := wI N1 30 0 1) (by decide) hW hC (RI.w hR1 rfl) q2 ?_ (rd_eq _ _ _ _)
    rw [Rf_repeat, f1, Option.bind_some, w1, w2, q1, if_neg (by decide), Option.bind_some, rd_eq, if_neg gt0.1]
  rcases Bool.eq_false_or_eq_true (ixB a (mA A)) with c1 | c1
  · rw [c1, if_pos rfl] at e1
    rcases Bool.eq_false_or_eq_true (ixB b (mA A)) with c2 | c2
    · rw [c2, if_pos rfl] at e2
      obtain ⟨f, rfl, hf⟩ := ix_n3 c1 (by omega)
      obtain ⟨l, rfl, hl⟩ := ix_n3 c2 (by omega)
      have hcond : (if Rf_within (n3 f) 0 (N1.1 30 21 - 1) N1 = true then Rf_within (n3 l) 0 (N1.1 30 21 - 1) N1 else false) = true := by rw [w1, w2, c1, c2]; rfl
      have bad2 : (if n3 l < n3 f then false else Rf_within c 0 (n3 l - n3 f) N1) = false → La_repeat (n3 f) (n3 l) c T = some (2, T) → okS (La_repeat (n3 f) (n3 l) c T) (Rf_repeat (n3 f) (n3 l) c) := by
        intro q1 q2
        refine fin_t (T := T) (k := 2) (b := 0) (N := wI N1 30 0 2) (by decide) hW hC (RI.w hR1 rfl) q2 ?_ (rd_eq _ _ _ _)
        rw [Rf_repeat, f1, Option.bind_some, hcond, if_pos rfl, q1, if_neg (by decide), Option.bind_some, rd_eq, if_neg gt0.2.1]
      rcases Bool.eq_false_or_eq_true (Rf_within c 0 (n3 l - n3 f) N1) with c3 | c3
      · rw [c3, if_pos rfl] at e3
        have hfl : f ≤ l := by
          rcases Nat.lt_or_ge l f with z | z
          · have z2 := c3
            rw [wi_eq, Bool.and_eq_true, decide_eq_true_eq, decide_eq_true_eq] at z2
            exact absurd (Int32.le_trans z2.1 z2.2) (rp_ng ⟨f, by omega⟩ ⟨l, by omega⟩ z)
          · exact z
        have c3b := c3
        rw [n3_sub hfl] at c3b
        obtain ⟨s, rfl, -, hs⟩ := wi_n3 (lo := 0) (hi := l - f) c3b (by decide) (by omega)
        have hc2 : (if n3 l < n3 f then false else Rf_within (n3 s) 0 (n3 l - n3 f) N1) = true := by
          rw [if_neg (by rw [n3_lt (by omega) (by omega)]; omega), c3]
        have hw := hW.2.1.1
        have hw1 : A 30 7 ≤ 3 := hw.1
        by_cases h3 : A 30 7 < 3
        · have t1 := Re_touch_ok hw (by omega) h53 hRQ (f := f) (l := l) (by omega) (by omega)
          have hRR : RR (rpA A) N1 := ⟨fun i => hR1 35 i rfl, fun i => hR1 36 i rfl, fun i => hR1 37 i rfl⟩
          have t2 := Rf_isApart_ok hw (by omega) h7 hRR (f := f) (l := l) (by omega) (by omega)
          cases z : tcB (rpA A) f l (rpA A).1 with
          | true =>
            rw [z] at t1 t2
            refine fin_t (T := T) (k := 3) (b := 0) (N := wI N1 30 0 3) (by decide) hW hC (RI.w hR1 rfl) ?_ ?_ (rd_eq _ _ _ _)
            · rw [La_repeat, Hp_repeat, e1]
              dsimp only
              rw [e2]
              dsimp only
              rw [e3]
              dsimp only
              rw [h53, if_pos (by rw [show (3 : Int32) = n3 3 from rfl, n3_lt (by omega) (by omega)]; exact h3), t1]
              rfl
            · rw [Rf_repeat, f1, Option.bind_some, hcond, if_pos rfl, hc2, if_pos rfl, h7, if_neg (by rw [show (3 : Int32) = n3 3 from rfl, n3_le (by omega) (by omega)]; omega), t2, Option.bind_some, show (if (!true) = true then 0 else 3 : Int32) = 3 from rfl, Option.bind_some, rd_eq, if_neg gt0.2.2.1]
          | false =>
            rw [z] at t1 t2
            have hW' := reA_WF hW h3 hfl hl hs z
            have ep := Re_push_eq (M := T.1) (a := n3 f) (b := n3 l) (c := n3 s) h53 h3
            have hB : CB (reA A f l s) (wI (wI (wI (wI T.1 6 (A 30 7) (n3 f)) 7 (A 30 7) (n3 l)) 8 (A 30 7) (n3 s)) 5 3 (n3 (A 30 7 + 1))) := by
              obtain ⟨aa, bb, cc, qq, v, mm, ii⟩ := hC.1
              exact ⟨aa, bb, cc, ⟨rfl, uw (M := T.1) (B := A) (c := 6) (c' := 35) _ _ hRQ.1, uw (M := T.1) (B := A) (c := 7) (c' := 36) _ _ hRQ.2.1, uw (M := T.1) (B := A) (c := 8) (c' := 37) _ _ hRQ.2.2⟩, v, mm, ii⟩
            obtain ⟨M', m1, m2, -, m4, -, -⟩ := lay_same hW' hB
            have hR' : RI (reA A f l s) (wI (wI (wI (wI (wI N1 30 0 0) 35 (A 30 7) (n3 f)) 36 (A 30 7) (n3 l)) 37 (A 30 7) (n3 s)) 30 7 (n3 (A 30 7 + 1))) :=
              RI.u (RI.u (RI.u (RI.u (RI.w hR1 rfl) 35 (A 30 7) f) 36 (A 30 7) l) 37 (A 30 7) s) 30 7 (A 30 7 + 1)
            obtain ⟨N', d1, d2, d3⟩ := Rf_laySung_ok hW' hR'
            refine fin_v (T := T) (v := n3 (LA (reA A f l s)).length) hW' m2 d3.1 (by rw [d2.2 _ _ rfl]; rfl) ?_ ?_
            · rw [La_repeat, Hp_repeat, e1]
              dsimp only
              rw [e2]
              dsimp only
              rw [e3]
              dsimp only
              rw [h53, if_pos (by rw [show (3 : Int32) = n3 3 from rfl, n3_lt (by omega) (by omega)]; exact h3), t1, Option.bind_some, if_neg (by decide), ep, Option.bind_some, m1, Option.bind_some, m4]
              rfl
            · rw [Rf_repeat, f1, Option.bind_some, hcond, if_pos rfl, hc2, if_pos rfl, h7, if_neg (by rw [show (3 : Int32) = n3 3 from rfl, n3_le (by omega) (by omega)]; omega), t2, Option.bind_some, show (if (!false) = true then 0 else 3 : Int32) = 0 from rfl, Option.bind_some, rd_eq, if_pos gt0.2.2.2, rd_nk (by decide), h7, stE_in _ _ _ h3 (by decide), Option.bind_some, rd_ne (by decide), rd_nk (by decide), h7, stE_in _ _ _ h3 (by decide), Option.bind_some, rd_ne (by decide), rd_ne (by decide), rd_nk (by decide), h7, stE_in _ _ _ h3 (by decide), Option.bind_some, rd_ne (by decide), rd_ne (by decide), rd_ne (by decide), rd_nk (by decide), h7, n3_s, Option.bind_some, d1, Option.bind_some, d3.2.2.2.2.1.1]
        · refine fin_t (T := T) (k := 3) (b := 0) (N := wI N1 30 0 3) (by decide) hW hC (RI.w hR1 rfl) ?_ ?_ (rd_eq _ _ _ _)
          · rw [La_repeat, Hp_repeat, e1]
            dsimp only
            rw [e2]
            dsimp only
            rw [e3]
            dsimp only
            rw [h53, if_neg (by rw [show (3 : Int32) = n3 3 from rfl, n3_lt (by omega) (by omega)]; exact h3)]
            rfl
          · rw [Rf_repeat, f1, Option.bind_some, hcond, if_pos rfl, hc2, if_pos rfl, h7, if_pos (by rw [show (3 : Int32) = n3 3 from rfl, n3_le (by omega) (by omega)]; omega), Option.bind_some, rd_eq, if_neg gt0.2.2.1]
      · rw [c3, if_neg (by decide)] at e3
        refine bad2 (by rw [c3]; split <;> rfl) ?_
        rw [La_repeat, Hp_repeat, e1]
        dsimp only
        rw [e2]
        dsimp only
        rw [e3]
        rfl
    · rw [c2, if_neg (by decide)] at e2
      refine bad1 (by rw [c1, c2]; rfl) ?_
      rw [La_repeat, Hp_repeat, e1]
      dsimp only
      rw [e2]
      rfl
  · rw [c1, if_neg (by decide)] at e1
    refine bad1 (by rw [c1]; rfl) ?_
    rw [La_repeat, Hp_repeat, e1]
    rfl
