/-! A line that is set; the first error of a line. -/
theorem lgo_2 (t : Nat → Nat) (d : Nat) : ∀ k s, s ≤ 12 → (lgo t d k s).2 ≤ 12 := by
  induction d with
  | zero => intro k s h; exact h
  | succ d ih =>
    intro k s h
    rw [lgo]
    cases e : stp (t k) s with
    | none => exact h
    | some s' =>
      dsimp only
      apply ih
      unfold stp at e
      split at e
      · split at e
        · cases e; omega
        · cases e
      · split at e
        · cases e; omega
        · cases e
theorem sep_cg {t t' : Nat → Nat} {L : Nat} (h : ∀ i, i < L → t i = t' i) {i : Nat} (hi : i < L) : sep t i = sep t' i := by unfold sep; rw [h i hi]
theorem cse_cg {t t' : Nat → Nat} {L : Nat} (h : ∀ i, i < L → t i = t' i) {k : Nat} (hk : k ≤ L) : cse t k = cse t' k := cnt_congr (fun i hi => sep_cg h (by omega))
theorem bc_cg {t t' : Nat → Nat} {L : Nat} (h : ∀ i, i < L → t i = t' i) {k : Nat} (hk : k ≤ L) : bc t k = bc t' k := by
  induction k with
  | zero => rfl
  | succ k ih => rw [bc, bc, sep_cg h (by omega), ih (by omega)]
theorem VT_cg {t t' : Nat → Nat} {L : Nat} (h : ∀ i, i < L → t i = t' i) (hv : VT t L) : VT t' L := by
  refine ⟨fun j hj => ?_, by rw [← bc_cg h (Nat.le_refl _)]; exact hv.2⟩
  have := hv.1 j hj
  unfold oks at this ⊢
  rw [← h j hj, ← bc_cg h (by omega)]
  exact this
theorem VL_cg {t t' : Nat → Nat} {L : Nat} (h : ∀ i, i < L → t i = t' i) (hv : VL t L) (hb : ∀ i, t' i < 128) : VL t' L := ⟨hv.1, hv.2.1.elim Or.inl (fun q => Or.inr (VT_cg h q)), hb⟩
theorem ns_cg {t t' : Nat → Nat} {L : Nat} (h : ∀ i, i < L → t i = t' i) : nsS t L = nsS t' L := by unfold nsS; rw [cse_cg h (Nat.le_refl _)]
theorem sepE_cg {t t' : Nat → Nat} {L : Nat} (h : ∀ i, i < L → t i = t' i) {i : Nat} (hi : i ≤ L) : sepE t L i = sepE t' L i := by
  unfold sepE
  by_cases e : i = L
  · subst e; rw [show Nat.beq i i = true from Nat.beq_refl i, Bool.true_or, Bool.true_or]
  · rw [sep_cg h (by omega)]
theorem ep_cg {t t' : Nat → Nat} {L : Nat} (h : ∀ i, i < L → t i = t' i) {j : Nat} (hj : j ≤ cse t L) : ep t L j = ep t' L j := by
  obtain ⟨a, b, c⟩ := ep_spec hj
  have := ep_of (t := t') (L := L) (i := ep t L j) a (by rw [← sepE_cg h a]; exact b)
  rw [← cse_cg h a, c] at this
  exact this.symm
theorem pk_cg {t t' : Nat → Nat} {L : Nat} (h : ∀ i, i < L → t i = t' i) (hv : VT t L) {j : Nat} (hj : j ≤ cse t L) : pkS t L j = pkS t' L j := by
  have e := ep_cg h hj
  obtain ⟨a, b, c⟩ := ep_spec hj
  obtain ⟨d, -, -⟩ := VT_sep hv a b
  unfold pkS sgS szS lkS
  rw [← e, ← bc_cg h a, h (bc t (ep t L j)) (by omega)]
  by_cases q : ep t L j < L
  · rw [h _ q]
  · rw [decide_eq_false q]; rfl
theorem VR_cg {t t' : Nat → Nat} {L : Nat} (h : ∀ i, i < L → t i = t' i) (hv : VL t L) {r : Nat} {M : hyM} (g : VR t L r M) : VR t' L r M := by
  refine ⟨by rw [← ns_cg h]; exact g.1, fun j hj => ?_⟩
  rw [← ns_cg h] at hj
  obtain ⟨a, b, -, -⟩ := VL_ns hv hj
  rw [← pk_cg h a b]
  exact g.2 j hj/-- the state behind a line that is set -/
def slA (A : aS) (r : Nat) : aS := fun c k => if c = 39 ∧ 60 * r ≤ k ∧ k < 60 * r + A 30 19 then A 42 (k - 60 * r) else if c = 38 ∧ k = r then A 30 19 else if c = 30 ∧ k = 19 then 0 else A c k
theorem slA_39 (A : aS) (r k : Nat) : slA A r 39 k = if 60 * r ≤ k ∧ k < 60 * r + A 30 19 then A 42 (k - 60 * r) else A 39 k := by
  unfold slA
  by_cases q : 60 * r ≤ k ∧ k < 60 * r + A 30 19
  · rw [if_pos ⟨rfl, q⟩, if_pos q]
  · rw [if_neg (fun z => q z.2), if_neg q]; rfl
theorem slA_38 (A : aS) (r k : Nat) : slA A r 38 k = if k = r then A 30 19 else A 38 k := by
  unfold slA
  by_cases q : k = r
  · rw [if_neg (fun z => absurd z.1 (by decide)), if_pos ⟨rfl, q⟩, if_pos q]
  · rw [if_neg (fun z => absurd z.1 (by decide)), if_neg (fun z => q z.2), if_neg q]; rfl
theorem slA_o (A : aS) (r : Nat) {c k : Nat} (h1 : c ≠ 39) (h2 : c ≠ 38) (h3 : ¬ (c = 30 ∧ k = 19)) : slA A r c k = A c k := by
  unfold slA
  rw [if_neg (fun z => h1 z.1), if_neg (fun z => h2 z.1), if_neg h3]
/-- the row itself -/
theorem sl_row (A : aS) (r : Nat) : ∀ i, i < A 30 19 → A 42 i = (XA (slA A r)).1 r i := fun i hi => by
  show _ = slA A r 39 (60 * r + i)
  rw [slA_39, if_pos (by omega)]
  congr 1
  omega
/-- the others -/
theorem sl_oth {A : aS} (hW : WFA A) {r q : Nat} (h : q ≠ r) : ∀ i, i < A 38 q → (XA A).1 q i = (XA (slA A r)).1 q i := fun i hi => by
  show A 39 (60 * q + i) = slA A r 39 (60 * q + i)
  have hb : A 38 q ≤ 60 := (hW.2.2.2.1 q).1
  have hL := hW.2.2.2.2.2.1
  rw [slA_39, if_neg (by omega)]
theorem slA_b {A : aS} (hW : WFA A) (r k : Nat) : slA A r 39 k < 128 := by
  rw [slA_39]
  split
  · exact hW.2.2.2.2.2.2 _
  · have := (hW.2.2.2.1 0).2.2 k
    have e : (XA A).1 0 k = A 39 (60 * 0 + k) := rfl
    rw [e, Nat.mul_zero, Nat.zero_add] at this
    exact this
theorem slA_PV {A : aS} (hW : WFA A) (r : Nat) (hc : VT (A 42) (A 30 19)) : PV (XA (slA A r)) := by
  intro q
  have hb : ∀ i, (XA (slA A r)).1 q i < 128 := fun i => slA_b hW r _
  have e2 : (XA (slA A r)).2 q = if q = r then A 30 19 else A 38 q := slA_38 A r q
  rw [e2]
  by_cases c : q = r
  · rw [if_pos c]
    subst c
    exact VL_cg (sl_row A q) ⟨hW.2.2.2.2.2.1, Or.inr hc, hW.2.2.2.2.2.2⟩ hb
  · rw [if_neg c]
    exact VL_cg (sl_oth hW c) (hW.2.2.2.1 q) hb
theorem slA_WF {A : aS} (hW : WFA A) (r : Nat) (hc : VT (A 42) (A 30 19)) : WFA (slA A r) :=
  ⟨hW.1, hW.2.1, hW.2.2.1, slA_PV hW r hc, hW.2.2.2.2.1, Nat.zero_le _, hW.2.2.2.2.2.2⟩
theorem CA_inb {A : aS} {M : hyM} (hW : WFA A) (hC : CA A M) : inb_ (A 42) (A 30 19) M := ⟨hW.2.2.2.2.2.1, hC.1.2.2.2.2.2.2.1, hC.1.2.2.2.2.2.2.2, hW.2.2.2.2.2.2⟩
theorem RI_rbuf {A : aS} {N : hyM} (hW : WFA A) (hR : RI A N) : rbuf (A 42) (A 30 19) N := ⟨hW.2.2.2.2.2.1, hR 30 19 rfl, fun i => hR 42 i rfl, hW.2.2.2.2.2.2⟩
theorem s_setLine {T : hyT} (h : INV T) (a b : Int32) : okS (La_setLine a b T) (Rf_setLine a b) := by
  obtain ⟨A, hW, hC, hR⟩ := h
  have hL := hW.2.2.2.2.2.1
  have e1 : Hp_checkIndex a 4 T.1 = if ixB a 4 = true then .inr () else .inl 3 := ckI a 4 T.1
  have e2 : Hp_checkIndex b 24 T.1 = if ixB b 24 = true then .inr () else .inl 3 := ckI b 24 T.1
  obtain ⟨N1, f1, f2, f3⟩ := Rf_rightLine_ok (RI_rbuf hW hR)
  have hR1 := hR.fr f2
  have h19 : N1.1 30 19 = n3 (A 30 19) := hR1 30 19 rfl
  have hle := lgo_le (A 42) (A 30 19) 0 0
  have hle2 := lgo_2 (A 42) (A 30 19) 0 0 (by decide)
  have hcp : (if n3 (lgo (A 42) (A 30 19) 0 0).1 = N1.1 30 19 then !decide (N1.1 30 31 ≤ 0) else false) = cpl (A 42) (A 30 19) := by
    rw [h19, f3, ite_eq (by omega) (by omega), l_0, dec_le (by omega) (by omega)]
    unfold cpl
    by_cases q : (lgo (A 42) (A 30 19) 0 0).1 = A 30 19
    · rw [if_pos q, decide_eq_true q, Bool.true_and, nn0]
    · rw [if_neg q, decide_eq_false q]; rfl
  have w1 := isLine_eq a b N1
  have bad1 : (ixB a 4 && ixB b 24) = false → La_setLine a b T = some (1, T) → okS (La_setLine a b T) (Rf_setLine a b) := by
    intro q1 q2
    refine fin_t (T := T) (k := 1) (b := 0) (N := wI N1 30 0 1) (by decide) hW hC (RI.w hR1 rfl) q2 ?_ (rd_eq _ _ _ _)
    rw [Rf_setLine, f1, Option.bind_some]
    dsimp only
    rw [w1, q1, if_neg (by decide), Option.bind_some, rd_eq, if_neg gt0.1]
  rcases Bool.eq_false_or_eq_true (ixB a 4) with c1 | c1
  · rw [c1, if_pos rfl] at e1
    rcases Bool.eq_false_or_eq_true (ixB b 24) with c2 | c2
    · rw [c2, if_pos rfl] at e2
      have hw1 : Rf_isLine a b N1 = true := by rw [w1, c1, c2]; rfl
      obtain ⟨v, rfl, hv⟩ := ix_n3 c1 (by decide)
      obtain ⟨l, rfl, hl⟩ := ix_n3 c2 (by decide)
      have il := In_isLine_ok (CA_inb hW hC)
      cases z : cpl (A 42) (A 30 19) with
      | true =>
        rw [z] at hcp il
        have hVT := cpl_VT z
        have hW' := slA_WF hW (v * 24 + l) hVT
        obtain ⟨M1, m1, m2, m3, m4⟩ := Ve_take_ok (CA_inb hW hC) hVT hv hl
        have hB : CB (slA A (v * 24 + l)) (wI M1 28 1 0) := by
          obtain ⟨⟨a1, a2, a3, a4, a5⟩, ⟨b1, b2⟩, ⟨c1, c2⟩, ⟨q1, q2⟩, vv, ⟨x1, x2⟩, ⟨i1, i2⟩⟩ := hC.1
          have g : ∀ c k, vcel c k = false → c ≠ 28 → (wI M1 28 1 0).1 c k = T.1.1 c k := fun c k h1 h2 => by rw [rd_ne h2]; exact m2.2 c k h1
          refine ⟨⟨by rw [g _ _ rfl (by decide)]; exact a1, by rw [g _ _ rfl (by decide)]; exact a2, by rw [g _ _ rfl (by decide)]; exact a3, fun i => by rw [g _ _ rfl (by decide)]; exact a4 i, fun i => by rw [g _ _ rfl (by decide)]; exact a5 i⟩, ⟨by show ∀ i, i < 40 → hbt (M1.2 1 2) i = _; rw [m2.1]; exact b1, by show ∀ i, i < 40 → hbt (M1.2 1 3) i = _; rw [m2.1]; exact b2⟩, ⟨by rw [g _ _ rfl (by decide)]; exact c1, by rw [g _ _ rfl (by decide)]; exact c2⟩, ⟨by rw [g _ _ rfl (by decide)]; exact q1, fun i => by rw [g _ _ rfl (by decide)]; exact q2.1 i, fun i => by rw [g _ _ rfl (by decide)]; exact q2.2.1 i, fun i => by rw [g _ _ rfl (by decide)]; exact q2.2.2 i⟩, ?_, ⟨by rw [g _ _ rfl (by decide)]; exact x1, fun m hm => ⟨by rw [g _ _ rfl (by decide)]; exact (x2 m hm).1, fun j hj => by rw [g _ _ rfl (by decide)]; exact (x2 m hm).2 j hj⟩⟩, ⟨rd_eq _ _ _ _, fun i => by rw [rd_ne (by decide), m2.2 _ _ rfl]; exact i2 i⟩⟩
          intro q hq
          have e2 : (XA (slA A (v * 24 + l))).2 q = if q = v * 24 + l then A 30 19 else A 38 q := slA_38 A _ q
          rw [e2]
          have hfr : ∀ t L, VR t L q M1 → VR t L q (wI M1 28 1 0) := fun t L x => ⟨by rw [rd_ne (by decide)]; exact x.1, fun j hj => by rw [rd_ne (by decide)]; exact x.2 j hj⟩
          apply hfr
          by_cases c : q = v * 24 + l
          · rw [if_pos c, c]
            exact VR_cg (sl_row A _) ⟨hL, Or.inr hVT, hW.2.2.2.2.2.2⟩ m3
          · rw [if_neg c]
            obtain ⟨p1, p2⟩ := m4 q c
            have hV := hW.2.2.2.1 q
            refine VR_cg (sl_oth hW c) hV ⟨by rw [p1]; exact (vv q hq).1, fun j hj => ?_⟩
            have hns : nsS ((XA A).1 q) (A 38 q) ≤ 30 := ns_le hV
            have hj2 : j < nsS ((XA A).1 q) (A 38 q) := hj
            rw [p2 j (by omega)]
            exact (vv q hq).2 j hj
        obtain ⟨M', n1, n2, -, -, -, -⟩ := lay_same hW' hB
        have hbase : RI A (wI N1 30 0 0) := RI.w hR1 rfl
        have k2 := lpI (σ := Int32 × hyM) (fun f s => Rf_setLine_L69 (n3 v) (n3 l) f s.1 s.2) (fun j s => s.1 = n3 j ∧ (∀ c k, c ≠ 39 → s.2.1 c k = (wI N1 30 0 0).1 c k) ∧ ∀ k, s.2.1 39 k = n3 (if 60 * (v * 24 + l) ≤ k ∧ k < 60 * (v * 24 + l) + j then A 42 (k - 60 * (v * 24 + l)) else A 39 k)) (A 30 19) (fun s => (∀ c k, c ≠ 39 → s.2.1 c k = (wI N1 30 0 0).1 c k) ∧ ∀ k, s.2.1 39 k = n3 (slA A (v * 24 + l) 39 k)) ?_ ?_ hyFu 0 (n3 0, wI N1 30 0 0) (Nat.zero_le _) (hyFu_big (by omega)) ⟨rfl, fun _ _ _ => rfl, fun k => by rw [if_neg (by omega)]; exact hbase 39 k rfl⟩
        · obtain ⟨⟨y, N2⟩, p1, p2, p3⟩ := k2
          dsimp only at p1 p2 p3
          have hR' : RI (slA A (v * 24 + l)) (wI (wI N2 38 (v * 24 + l) (n3 (A 30 19))) 30 19 0) := by
            intro c k hc
            by_cases q9 : c = 39
            · subst q9; rw [rd_ne (by decide), rd_ne (by decide)]; exact p3 k
            by_cases q8 : c = 38
            · subst q8
              rw [rd_ne (by decide), slA_38, rd_wI]
              by_cases q : k = v * 24 + l
              · rw [if_pos ⟨rfl, q⟩, if_pos q]
              · rw [if_neg (fun z => q z.2), if_neg q, p2 _ _ (by decide)]; exact hbase 38 k rfl
            by_cases q30 : c = 30 ∧ k = 19
            · obtain ⟨rfl, rfl⟩ := q30; rw [rd_eq]; rfl
            · rw [slA_o A _ q9 q8 q30, rd_wI, if_neg q30, rd_ne q8, p2 _ _ q9]
              exact hbase c k hc
          have hRT : RT ((XA (slA A (v * 24 + l))).1 (v * 24 + l)) ((XA (slA A (v * 24 + l))).2 (v * 24 + l)) (v * 24 + l) (wI (wI N2 38 (v * 24 + l) (n3 (A 30 19))) 30 19 0) := ⟨hR' 38 _ rfl, fun i => hR' 39 _ rfl⟩
          have hcnt := Rf_counts0_ok hRT (hW'.2.2.2.1 (v * 24 + l)) (by omega)
          have hsyl : Ve_syllablesOf (n3 v) (n3 l) M' = n3 (nsS ((XA (slA A (v * 24 + l))).1 (v * 24 + l)) ((XA (slA A (v * 24 + l))).2 (v * 24 + l))) := Ve_syl_ok (n2.1.2.2.2.2.1 (v * 24 + l) (by omega)) hv hl
          refine fin_v (T := T) (v := n3 (nsS ((XA (slA A (v * 24 + l))).1 (v * 24 + l)) ((XA (slA A (v * 24 + l))).2 (v * 24 + l)))) hW' n2 hR' ?_ ?_ ?_
          · rw [rd_nk (by decide), rd_ne (by decide), p2 _ _ (by decide)]; rfl
          · rw [La_setLine, Hp_setLine, e1]
            dsimp only
            rw [e2]
            dsimp only
            rw [il, Option.bind_some, if_pos rfl, m1, Option.bind_some, Option.bind_some, n1, Option.bind_some, hsyl]
            rfl
          · have hrow : 24 * n3 v + n3 l = n3 (v * 24 + l) := by rw [l_24, n3_mul, n3_add, Nat.mul_comm]
            rw [Rf_setLine, f1, Option.bind_some]
            dsimp only
            rw [hw1, if_pos rfl, hcp, if_pos rfl, Option.bind_some, rd_eq, if_pos gt0.2.2.2]
            rw [show (0 : Int32) = n3 0 from rfl] at p1 ⊢
            rw [p1, Option.bind_some]
            dsimp only
            rw [hrow, p2 _ _ (by decide), rd_nk (by decide), h19, stE_in _ _ _ (by omega) (by decide), Option.bind_some, Option.bind_some]
            rw [show (n3 0 : Int32) = 0 from rfl, hcnt]
            rfl
        · rintro f j ⟨x1, P⟩ hj ⟨rfl, i2, i3⟩
          refine Or.inl ?_
          dsimp only at i2 i3 ⊢
          have g19 : P.1 30 19 = n3 (A 30 19) := by rw [i2 _ _ (by decide), rd_nk (by decide)]; exact h19
          have g42 : P.1 42 j = n3 (A 42 j) := by rw [i2 _ _ (by decide)]; exact hbase 42 j rfl
          have hix : 60 * (24 * n3 v + n3 l) + n3 j = n3 (60 * (v * 24 + l) + j) := by rw [l_60, l_24, n3_mul, n3_add, n3_mul, n3_add, Nat.mul_comm 24 v]
          rw [Rf_setLine_L69, g19, if_neg (by rw [n3_le (by omega) (by omega)]; omega), ldE_in _ (by omega) (by decide), Option.bind_some, g42, hix, stE_in _ _ _ (by omega) (by decide), Option.bind_some, n3_s]
          refine ⟨(n3 (j + 1), wI P 39 (60 * (v * 24 + l) + j) (n3 (A 42 j))), rfl, rfl, fun c k hc => by rw [rd_ne hc]; exact i2 c k hc, fun k => ?_⟩
          dsimp only
          by_cases e : k = 60 * (v * 24 + l) + j
          · subst e; rw [rd_eq, if_pos (by omega)]; congr 2; omega
          · rw [rd_nk e, i3]
            by_cases q : 60 * (v * 24 + l) ≤ k ∧ k < 60 * (v * 24 + l) + j
            · rw [if_pos q, if_pos (by omega)]
            · rw [if_neg q, if_neg (by omega)]
        · rintro f ⟨x1, P⟩ ⟨rfl, i2, i3⟩
          dsimp only at i2 i3 ⊢
          have g19 : P.1 30 19 = n3 (A 30 19) := by rw [i2 _ _ (by decide), rd_nk (by decide)]; exact h19
          rw [Rf_setLine_L69, g19, if_pos (by rw [n3_le (by omega) (by omega)]; omega)]
          exact ⟨_, rfl, i2, fun k => by rw [slA_39]; exact i3 k⟩
      | false =>
        rw [z] at hcp il
        refine fin_t (T := T) (k := 2) (b := 0) (N := wI N1 30 0 2) (by decide) hW hC (RI.w hR1 rfl) ?_ ?_ (rd_eq _ _ _ _)
        · rw [La_setLine, Hp_setLine, e1]
          dsimp only
          rw [e2]
          dsimp only
          rw [il]
          rfl
        · rw [Rf_setLine, f1, Option.bind_some]
          dsimp only
          rw [hw1, if_pos rfl, hcp, if_neg (by decide), Option.bind_some, rd_eq, if_neg gt0.2.1]
    · rw [c2, if_neg (by decide)] at e2
      refine bad1 (by rw [c1, c2]; rfl) ?_
      rw [La_setLine, Hp_setLine, e1]
      dsimp only
      rw [e2]
      rfl
  · rw [c1, if_neg (by decide)] at e1
    refine bad1 (by rw [c1]; rfl) ?_
    rw [La_setLine, Hp_setLine, e1]
    rfl
theorem s_errLine {T : hyT} (h : INV T) : ∃ v N, Hp_firstError false T.1 = some v ∧ Rf_firstError false T.2.1 = some (v, N) ∧ INV (T.1, N, T.2.2) := by
  obtain ⟨A, hW, hC, hR⟩ := h
  have e1 := In_errorAsLine_ok (CA_inb hW hC)
  have hR0 : RI A (wI T.2.1 30 0 0) := RI.w hR rfl
  obtain ⟨N1, f1, f2, f3⟩ := Rf_rightLine_ok (RI_rbuf hW hR0)
  refine ⟨n3 (lgo (A 42) (A 30 19) 0 0).1, N1, ?_, ?_, A, hW, hC, hR0.fr f2⟩
  · rw [Hp_firstError, if_neg (by decide), e1]; rfl
  · rw [Rf_firstError, Option.bind_some, if_neg (by decide), f1]; rfl
