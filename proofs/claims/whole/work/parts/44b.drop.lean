/-! Notes dropped and marked: repeats beyond the phrases go. -/
theorem kst_bd3 {m : Nat} {q : rpT} (h : ∀ i, q.2.1 i < 1000 ∧ q.2.2.1 i < 1000 ∧ q.2.2.2 i < 1000) : ∀ k i, (kst m q k).2.1 i < 1000 ∧ (kst m q k).2.2.1 i < 1000 ∧ (kst m q k).2.2.2 i < 1000 := by
  intro k
  induction k with
  | zero => exact h
  | succ k ih =>
    intro i
    by_cases c : (kst m q k).2.2.1 k < m
    · rw [kst_t c]
      dsimp only
      by_cases d : i = (kst m q k).1
      · rw [d, updN_eq, updN_eq, updN_eq]; exact ih _
      · rw [updN_ne d, updN_ne d, updN_ne d]; exact ih _
    · rw [kst_f c]; exact ih _
def kpA (B : aS) : aS := fun c k => if c = 35 then (kept (mA B) (rpA B)).2.1 k else if c = 36 then (kept (mA B) (rpA B)).2.2.1 k else if c = 37 then (kept (mA B) (rpA B)).2.2.2 k else if c = 30 ∧ k = 7 then (kept (mA B) (rpA B)).1 else B c k
theorem kpA_rp (B : aS) : rpA (kpA B) = kept (mA B) (rpA B) := rfl
theorem kpA_m (B : aS) : mA (kpA B) = mA B := rfl
theorem kpA_WF {B : aS} {m0 : Nat} (hn : WFn B) (hr : WR m0 (rpA B)) (hb : ∀ i, B 35 i < 1000 ∧ B 36 i < 1000 ∧ B 37 i < 1000) (h3 : WFb B) (h4 : PV (XA B)) (h5 : WFm B) (h6 : WFi B) : WFA (kpA B) := by
  refine ⟨hn, ⟨?_, fun i => kst_bd3 (m := mA B) (q := rpA B) hb _ i⟩, h3, h4, h5, h6⟩
  show WR (mA B) (kept (mA B) (rpA B))
  exact kept_ok hr
theorem kpA_CB {B : aS} {q : rpT} {M : hyM} (h : CBq B q M) : CBq (kpA B) q M := by
  obtain ⟨aa, bb, cc, qq, v, mm, ii⟩ := h
  exact ⟨aa, bb, cc, qq, v, mm, ii⟩
theorem Rf_drop_ok {B : aS} {N : hyM} (hn : WFn B) (hr : (rpA B).1 ≤ 3) (hb : ∀ i, B 36 i < 1000) (h : RI B N) : ∃ N', Rf_dropRepeats N = some N' ∧ RI (kpA B) N' ∧ N'.1 30 21 = n3 (mA B) ∧ N'.1 30 0 = N.1 30 0 := by
  obtain ⟨M1, e1, f1, r1⟩ := Rf_layPhrases_ok (e := eA B) (M := N) hn.1 (h 30 2 rfl) (fun i _ => by rw [h 34 i rfl]; exact bI_of (hn.2.2.2.2 i).2)
  have h1 := h.fr f1
  have hm := mA_le B
  have hn1 := hn.1
  have hR : RR (rpA B) M1 := ⟨fun i => h1 35 i rfl, fun i => h1 36 i rfl, fun i => h1 37 i rfl⟩
  obtain ⟨⟨y, y2, M2⟩, e2, s1, f2, s2, s3, -⟩ := Rf_dropRepeats_L8_ok (m := mA B) (q := rpA B) (M := M1) (by omega) hr r1.1 (h1 30 7 rfl) hR (fun k i _ => kst_bd (m := mA B) (q := rpA B) hb k i)
  dsimp only at e2 s1 f2 s2 s3
  refine ⟨wI M2 30 7 y, ?_, ?_, ?_, ?_⟩
  · rw [Rf_dropRepeats, e1, Option.bind_some, show (0 : Int32) = n3 0 from rfl, e2]
    rfl
  · intro c k hc
    by_cases q5 : c = 35
    · subst q5; rw [rd_ne (by decide)]; exact s2.1 k
    by_cases q6 : c = 36
    · subst q6; rw [rd_ne (by decide)]; exact s2.2.1 k
    by_cases q7 : c = 37
    · subst q7; rw [rd_ne (by decide)]; exact s2.2.2 k
    by_cases q : c = 30 ∧ k = 7
    · obtain ⟨rfl, rfl⟩ := q; rw [rd_eq]; exact s1
    · rw [rd_wI, if_neg q, f2.2 c k ?_]
      · unfold kpA
        rw [if_neg q5, if_neg q6, if_neg q7, if_neg q]
        exact h1 c k hc
      · unfold dcel
        rw [rI_scr hc]
        have a1 : (Nat.ble 35 c && Nat.ble c 37) = false := by
          cases z : (Nat.ble 35 c && Nat.ble c 37) with
          | false => rfl
          | true =>
            rw [Bool.and_eq_true] at z
            have z1 := Nat.le_of_ble_eq_true z.1
            have z2 := Nat.le_of_ble_eq_true z.2
            omega
        have a2 : (Nat.beq c 30 && Nat.beq k 7) = false := by
          cases z : (Nat.beq c 30 && Nat.beq k 7) with
          | false => rfl
          | true =>
            rw [Bool.and_eq_true] at z
            exact absurd ⟨Nat.eq_of_beq_eq_true z.1, Nat.eq_of_beq_eq_true z.2⟩ q
        rw [a1, a2]; rfl
  · rw [rd_nk (by decide)]; exact s3
  · rw [rd_nk (by decide), f2.2 _ _ rfl, f1.2 _ _ rfl]
theorem uA_self (B : aS) (c k : Nat) : uA B c k (B c k) = B := by
  funext c' k'
  unfold uA
  by_cases q : c' = c ∧ k' = k
  · rw [if_pos q, q.1, q.2]
  · rw [if_neg q]
theorem s_dropNote {T : hyT} (h : INV T) : okS (La_dropNote T) Rf_dropNote := by
  obtain ⟨A, hW, hC, hR⟩ := h
  have hn := hW.1.1
  have h30 : T.2.1.1 30 2 = n3 (A 30 2) := hR 30 2 rfl
  have h14 : T.1.1 1 4 = n3 (A 30 2) := CA_n hC
  have hd : bI (decide (T.2.1.1 30 2 ≤ 0)) = if A 30 2 = 0 then 1 else 0 := by
    rw [h30, l_0, dec_le (by omega) (by omega)]
    by_cases q : A 30 2 = 0
    · rw [if_pos q, q]; rfl
    · rw [if_neg q, show decide (A 30 2 ≤ 0) = false from decide_eq_false (by omega)]; rfl
  by_cases hz : A 30 2 = 0
  · rw [if_pos hz] at hd
    refine fin_t (T := T) (k := 1) (b := 0) (N := wI T.2.1 30 0 1) (by decide) hW hC (RI.w hR rfl) ?_ ?_ (rd_eq _ _ _ _)
    · rw [La_dropNote, Hp_dropNote, h14, if_neg (by rw [hz]; decide)]
      rfl
    · rw [Rf_dropNote, hd, Option.bind_some, rd_eq, if_neg gt0.1]
  · rw [if_neg hz] at hd
    have hWn : WFn (uA A 30 2 (A 30 2 - 1)) := ⟨show A 30 2 - 1 ≤ 40 by omega, hW.1.2.1, fun i hi => hW.1.2.2.1 i (by have : i < A 30 2 - 1 := hi; omega), fun i hi => hW.1.2.2.2.1 i (by have : i < 4 * (A 30 2 - 1) := hi; omega), hW.1.2.2.2.2⟩
    have hW' : WFA (kpA (uA A 30 2 (A 30 2 - 1))) := kpA_WF (m0 := mA A) hWn hW.2.1.1 hW.2.1.2 hW.2.2.1 hW.2.2.2.1 hW.2.2.2.2.1 hW.2.2.2.2.2
    have ep : Tu_pop T.1 = wL (wL (wI T.1 1 4 (n3 (A 30 2 - 1))) 1 2 (Hp_withBit (T.1.2 1 2) (n3 (A 30 2 - 1)) false T.1)) 1 3 (Hp_withBit (T.1.2 1 3) (n3 (A 30 2 - 1)) false T.1) := by
      unfold Tu_pop
      rw [h14, l_1, n3_sub (by omega)]
      rfl
    have hB : CBq (uA A 30 2 (A 30 2 - 1)) (rpA (uA A 30 2 (A 30 2 - 1))) (wL (wL (wI T.1 1 4 (n3 (A 30 2 - 1))) 1 2 (Hp_withBit (T.1.2 1 2) (n3 (A 30 2 - 1)) false T.1)) 1 3 (Hp_withBit (T.1.2 1 3) (n3 (A 30 2 - 1)) false T.1)) := by
      obtain ⟨⟨a1, a2, a3, a4, a5⟩, ⟨b1, b2⟩, cc, qq, v, mm, ii⟩ := hC.1
      refine ⟨⟨a1, rfl, a3, a4, a5⟩, ⟨fun i hi => ?_, fun i hi => ?_⟩, cc, qq, v, mm, ii⟩
      · show hbt (Hp_withBit (T.1.2 1 2) (n3 (A 30 2 - 1)) false T.1) i = (decide (i < A 30 2 - 1) && sA A i)
        rw [hbt_with _ _ _ (by omega) hi, b1 i hi]
        by_cases q : i = A 30 2 - 1
        · rw [if_pos q, show decide (i < A 30 2 - 1) = false from decide_eq_false (by omega)]; rfl
        · rw [if_neg q]
          congr 1
          apply decide_eq_decide.mpr
          omega
      · show hbt (Hp_withBit (T.1.2 1 3) (n3 (A 30 2 - 1)) false T.1) i = (decide (i < A 30 2 - 1) && eA A i)
        rw [hbt_with _ _ _ (by omega) hi, b2 i hi]
        by_cases q : i = A 30 2 - 1
        · rw [if_pos q, show decide (i < A 30 2 - 1) = false from decide_eq_false (by omega)]; rfl
        · rw [if_neg q]
          congr 1
          apply decide_eq_decide.mpr
          omega
    obtain ⟨M', m1, m2, -, -, -, -⟩ := lay_go hW' (kpA_CB hB) hW.2.1.1.1 (fun i => (hW.2.1.2 i).2.1) rfl
    have hR0 : RI (uA A 30 2 (A 30 2 - 1)) (wI (wI T.2.1 30 0 0) 30 2 (n3 (A 30 2 - 1))) := RI.u (RI.w hR rfl) 30 2 (A 30 2 - 1)
    obtain ⟨N', d1, d2, d3, d4⟩ := Rf_drop_ok hWn hW.2.1.1.1 (fun i => (hW.2.1.2 i).2.1) hR0
    refine fin_v (T := T) (v := n3 (A 30 2 - 1)) hW' m2 d2 (by rw [d4]; rfl) ?_ ?_
    · rw [La_dropNote, Hp_dropNote, h14, if_pos (by rw [l_0, n3_lt (by omega) (by omega)]; omega), ep, Option.bind_some, m1, Option.bind_some, CA_n m2]
      rfl
    · rw [Rf_dropNote, hd, Option.bind_some, rd_eq, if_pos gt0.2.2.2, rd_nk (by decide), h30, l_1, n3_sub (by omega), Option.bind_some, d1, Option.bind_some, d2 30 2 rfl]
      rfl
theorem bI_tn (b : Bool) : bI b = n3 b.toNat := by cases b <;> rfl
theorem nar_b {v : Nat} (h : v ≤ 1) : vp_nar .boolean (n3 v) = n3 v := by
  have : v = 0 ∨ v = 1 := by omega
  rcases this with rfl | rfl <;> decide
theorem tn_beq (b : Bool) : Nat.beq b.toNat 1 = b := by cases b <;> rfl
theorem s_mark {T : hyT} (h : INV T) (a : Int32) (b c : Bool) : okS (La_mark a b c T) (Rf_mark a b c) := by
  obtain ⟨A, hW, hC, hR⟩ := h
  have hn := hW.1.1
  have h14 : T.1.1 1 4 = n3 (A 30 2) := CA_n hC
  have e1 : Hp_checkIndex a (T.1.1 1 4) T.1 = if ixB a (A 30 2) = true then .inr () else .inl 3 := by rw [h14]; exact ckI a _ _
  have e3 := isNote_eq hW hR a
  rcases Bool.eq_false_or_eq_true (ixB a (A 30 2)) with g | g
  · rw [g, if_pos rfl] at e1
    rw [g] at e3
    obtain ⟨i, rfl, hi⟩ := ix_n3 g (by omega)
    have hct : c.toNat ≤ 1 := by cases c <;> decide
    have b33 := (hW.1.2.2.2.2 i).1
    have b34 := (hW.1.2.2.2.2 i).2
    cases b
    · -- the slur
      have hWn : WFn (uA A 33 i c.toNat) := by
        refine ⟨hW.1.1, hW.1.2.1, hW.1.2.2.1, hW.1.2.2.2.1, fun j => ?_⟩
        show uA A 33 i c.toNat 33 j ≤ 1 ∧ A 34 j ≤ 1
        refine ⟨?_, (hW.1.2.2.2.2 j).2⟩
        by_cases q : j = i
        · subst q; rw [uA_eq]; exact hct
        · rw [uA_nk q]; exact (hW.1.2.2.2.2 j).1
      have hW' : WFA (kpA (uA A 33 i c.toNat)) := kpA_WF (m0 := mA A) hWn hW.2.1.1 hW.2.1.2 hW.2.2.1 hW.2.2.2.1 hW.2.2.2.2.1 hW.2.2.2.2.2
      have hB : CBq (uA A 33 i c.toNat) (rpA (uA A 33 i c.toNat)) (wL T.1 1 2 (Hp_withBit (T.1.2 1 2) (n3 i) c T.1)) := by
        obtain ⟨aa, ⟨b1, b2⟩, cc, qq, v, mm, ii⟩ := hC.1
        refine ⟨aa, ⟨fun j hj => ?_, b2⟩, cc, qq, v, mm, ii⟩
        show hbt (Hp_withBit (T.1.2 1 2) (n3 i) c T.1) j = (decide (j < A 30 2) && Nat.beq (uA A 33 i c.toNat 33 j) 1)
        rw [hbt_with _ _ _ (by omega) hj, b1 j hj]
        by_cases q : j = i
        · subst q; rw [if_pos rfl, uA_eq, tn_beq, show decide (j < A 30 2) = true from decide_eq_true hi]; rfl
        · rw [if_neg q, uA_nk q]; rfl
      obtain ⟨M', m1, m2, m3, -, -, -⟩ := lay_go hW' (kpA_CB hB) hW.2.1.1.1 (fun i => (hW.2.1.2 i).2.1) rfl
      have hR0 : RI (uA A 33 i c.toNat) (wI (wI (wI T.2.1 30 0 0) 34 i (n3 (A 34 i))) 33 i (n3 c.toNat)) := by
        have z := RI.u (RI.u (RI.w hR (c := 30) (k := 0) (x := 0) rfl) 34 i (A 34 i)) 33 i c.toNat
        rw [uA_self] at z
        exact z
      obtain ⟨N', d1, d2, d3, d4⟩ := Rf_drop_ok hWn hW.2.1.1.1 (fun i => (hW.2.1.2 i).2.1) hR0
      refine fin_v (T := T) (v := n3 (mA (uA A 33 i c.toNat))) hW' m2 d2 (by rw [d4]; rfl) ?_ ?_
      · rw [La_mark, Hp_mark, e1]
        dsimp only
        rw [if_neg (by decide), Option.bind_some, m1, Option.bind_some, m3]
        rfl
      · rw [Rf_mark, e3, show bI (!true) = 0 from rfl, Option.bind_some, rd_eq, if_pos gt0.2.2.2, if_neg (by decide), ldE_in _ (by omega) (by decide), Option.bind_some, rd_ne (by decide), hR 34 i rfl, nar_b b34, stE_in _ _ _ (by omega) (by decide), Option.bind_some, if_neg (by decide), stE_in _ _ _ (by omega) (by decide), Option.bind_some, bI_tn, d1, Option.bind_some, d3]
    · -- the end of a phrase
      have hWn : WFn (uA A 34 i c.toNat) := by
        refine ⟨hW.1.1, hW.1.2.1, hW.1.2.2.1, hW.1.2.2.2.1, fun j => ?_⟩
        show A 33 j ≤ 1 ∧ uA A 34 i c.toNat 34 j ≤ 1
        refine ⟨(hW.1.2.2.2.2 j).1, ?_⟩
        by_cases q : j = i
        · subst q; rw [uA_eq]; exact hct
        · rw [uA_nk q]; exact (hW.1.2.2.2.2 j).2
      have hW' : WFA (kpA (uA A 34 i c.toNat)) := kpA_WF (m0 := mA A) hWn hW.2.1.1 hW.2.1.2 hW.2.2.1 hW.2.2.2.1 hW.2.2.2.2.1 hW.2.2.2.2.2
      have hB : CBq (uA A 34 i c.toNat) (rpA (uA A 34 i c.toNat)) (wL T.1 1 3 (Hp_withBit (T.1.2 1 3) (n3 i) c T.1)) := by
        obtain ⟨aa, ⟨b1, b2⟩, cc, qq, v, mm, ii⟩ := hC.1
        refine ⟨aa, ⟨b1, fun j hj => ?_⟩, cc, qq, v, mm, ii⟩
        show hbt (Hp_withBit (T.1.2 1 3) (n3 i) c T.1) j = (decide (j < A 30 2) && Nat.beq (uA A 34 i c.toNat 34 j) 1)
        rw [hbt_with _ _ _ (by omega) hj, b2 j hj]
        by_cases q : j = i
        · subst q; rw [if_pos rfl, uA_eq, tn_beq, show decide (j < A 30 2) = true from decide_eq_true hi]; rfl
        · rw [if_neg q, uA_nk q]; rfl
      obtain ⟨M', m1, m2, m3, -, -, -⟩ := lay_go hW' (kpA_CB hB) hW.2.1.1.1 (fun i => (hW.2.1.2 i).2.1) rfl
      have hR0 : RI (uA A 34 i c.toNat) (wI (wI (wI T.2.1 30 0 0) 34 i (n3 c.toNat)) 33 i (n3 (A 33 i))) := by
        have z := RI.u (RI.u (RI.w hR (c := 30) (k := 0) (x := 0) rfl) 34 i c.toNat) 33 i (A 33 i)
        have w := uA_self (uA A 34 i c.toNat) 33 i
        rw [show uA A 34 i c.toNat 33 i = A 33 i from rfl] at w
        rw [w] at z
        exact z
      obtain ⟨N', d1, d2, d3, d4⟩ := Rf_drop_ok hWn hW.2.1.1.1 (fun i => (hW.2.1.2 i).2.1) hR0
      refine fin_v (T := T) (v := n3 (mA (uA A 34 i c.toNat))) hW' m2 d2 (by rw [d4]; rfl) ?_ ?_
      · rw [La_mark, Hp_mark, e1]
        dsimp only
        rw [if_pos (by decide), Option.bind_some, m1, Option.bind_some, m3]
        rfl
      · rw [Rf_mark, e3, show bI (!true) = 0 from rfl, Option.bind_some, rd_eq, if_pos gt0.2.2.2, if_pos (by decide), stE_in _ _ _ (by omega) (by decide), Option.bind_some, if_pos (by decide), ldE_in _ (by omega) (by decide), Option.bind_some, rd_ne (by decide), rd_ne (by decide), hR 33 i rfl, nar_b b33, stE_in _ _ _ (by omega) (by decide), Option.bind_some, bI_tn, d1, Option.bind_some, d3]
  · rw [g, if_neg (by decide)] at e1
    rw [g] at e3
    refine fin_t (T := T) (k := 1) (b := 0) (N := wI T.2.1 30 0 1) (by decide) hW hC (RI.w hR rfl) ?_ ?_ (rd_eq _ _ _ _)
    · rw [La_mark, Hp_mark, e1]
      rfl
    · rw [Rf_mark, e3, show bI (!false) = 1 from rfl, Option.bind_some, rd_eq, if_neg gt0.1]
