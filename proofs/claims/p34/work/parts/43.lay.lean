/-! Calls behind which the class lays out anew: width, repeats that are cleared, verses, beginning. -/
theorem lay_go {A : aS} {q : rpT} {M : hyM} (hW : WFA A) (hB : CBq A q M) (hq1 : q.1 ≤ 3) (hq2 : ∀ i, q.2.2.1 i < 1000) (hk : kept (mA A) q = rpA A) :
    ∃ M', Hp_layOut M = some M' ∧ CA A M' ∧ M'.1 12 5 = n3 (mA A) ∧ M'.1 18 2 = n3 (LA A).length ∧ M'.1 21 3 = n3 (nsA A) ∧ frm yce M M' := by
  obtain ⟨M', e, b, d, f⟩ := Hp_layOut_ok hW hB hq1 hq2 hk
  exact ⟨M', e, ⟨b, d⟩, d.1.1, d.2.1.1, d.2.2.2.2.1, f⟩
theorem kept_same {A : aS} (hW : WFA A) : kept (mA A) (rpA A) = rpA A := kept_id (fun i hi => (hW.2.1.1.2.1 i hi).2.1)
theorem lay_same {A : aS} {M : hyM} (hW : WFA A) (hB : CB A M) :
    ∃ M', Hp_layOut M = some M' ∧ CA A M' ∧ M'.1 12 5 = n3 (mA A) ∧ M'.1 18 2 = n3 (LA A).length ∧ M'.1 21 3 = n3 (nsA A) ∧ frm yce M M' :=
  lay_go hW hB hW.2.1.1.1 (fun i => (hW.2.1.2 i).2.1) (kept_same hW)
theorem WR_0 (m : Nat) (f : (Nat → Nat) × (Nat → Nat) × (Nat → Nat)) : WR m (0, f) := ⟨Nat.zero_le _, fun i hi => absurd hi (Nat.not_lt_zero _), fun i j hi => absurd hi (Nat.not_lt_zero _)⟩
theorem nn0 (L : Nat) : (!decide (L ≤ 0)) = decide (0 < L) := by
  by_cases q : L = 0
  · subst q; rfl
  · have h1 : ¬ L ≤ 0 := by omega
    have h2 : 0 < L := by omega
    simp [h1, h2]
theorem ns0 (t : Nat → Nat) (L : Nat) : (!decide (nsS t L ≤ 0)) = decide (0 < L) := by
  rw [nn0]
  unfold nsS
  apply decide_eq_decide.mpr
  split <;> omega
/-! lines that are removed -/
/-- the rows from lo on, hi of them, empty -/
def clA (A : aS) (lo hi : Nat) : aS := fun c k => if c = 38 ∧ lo ≤ k ∧ k < hi then 0 else A c k
theorem clA_WF {A : aS} (hW : WFA A) (lo hi : Nat) : WFA (clA A lo hi) := by
  refine ⟨hW.1, hW.2.1, hW.2.2.1, fun r => ?_, hW.2.2.2.2.1, hW.2.2.2.2.2⟩
  have h := hW.2.2.2.1 r
  show VL ((XA A).1 r) (clA A lo hi 38 r)
  unfold clA
  by_cases q : lo ≤ r ∧ r < hi
  · rw [if_pos ⟨rfl, q⟩]; exact ⟨Nat.zero_le _, Or.inl rfl, h.2.2⟩
  · rw [if_neg (fun z => q z.2)]; exact h
theorem removeLines_ok {A : aS} {M : hyM} (hW : WFA A) (hV : VA (XA A) M) {v : Nat} (hv : v < 4) :
    ∃ M', Ve_removeLines (n3 v) M = some (n3 (cnt (fun k => decide (0 < A 38 (v * 24 + k))) 24), M') ∧ M'.2 = M.2 ∧ (∀ c k, c ≠ 10 → M'.1 c k = M.1 c k) ∧ ∀ r, M'.1 10 r = if v * 24 ≤ r ∧ r < v * 24 + 24 then 0 else M.1 10 r := by
  have key := lpI (σ := Int32 × Int32 × hyM) (fun f s => Ve_removeLines_L4 (n3 v) f s.1 s.2.1 s.2.2) (fun j s => s.1 = n3 (cnt (fun k => decide (0 < A 38 (v * 24 + k))) j) ∧ s.2.1 = n3 j ∧ s.2.2.2 = M.2 ∧ (∀ c k, c ≠ 10 → s.2.2.1 c k = M.1 c k) ∧ ∀ r, s.2.2.1 10 r = if v * 24 ≤ r ∧ r < v * 24 + j then 0 else M.1 10 r) 24 (fun s => s.1 = n3 (cnt (fun k => decide (0 < A 38 (v * 24 + k))) 24) ∧ s.2.2.2 = M.2 ∧ (∀ c k, c ≠ 10 → s.2.2.1 c k = M.1 c k) ∧ ∀ r, s.2.2.1 10 r = if v * 24 ≤ r ∧ r < v * 24 + 24 then 0 else M.1 10 r) ?_ ?_ hyFu 0 (n3 0, n3 0, M) (Nat.zero_le _) (hyFu_big (by omega)) ⟨rfl, rfl, rfl, fun _ _ _ => rfl, fun r => by rw [if_neg (by omega)]⟩
  · obtain ⟨⟨a, b, M'⟩, e1, e2, e3, e4, e5⟩ := key
    dsimp only at e1 e2 e3 e4 e5
    refine ⟨M', ?_, e3, e4, e5⟩
    rw [Ve_removeLines, show (0 : Int32) = n3 0 from rfl, e1, Option.bind_some, e2]
  · rintro f j ⟨x1, x2, P⟩ hj ⟨rfl, rfl, i1, i2, i3⟩
    refine Or.inl ?_
    dsimp only at i1 i2 i3 ⊢
    have hVr := hV (v * 24 + j) (by omega)
    have hns := ns_le (hW.2.2.2.1 (v * 24 + j))
    have hs : Ve_syllablesOf (n3 v) (n3 j) P = n3 (nsS ((XA A).1 (v * 24 + j)) ((XA A).2 (v * 24 + j))) := by
      unfold Ve_syllablesOf
      rw [rowOf_n3, atf_in _ (by omega) (by decide), i3, if_neg (by omega), hVr.1]
    have hc : Hp_flag (!decide (Ve_syllablesOf (n3 v) (n3 j) P ≤ 0)) P = n3 (decide (0 < A 38 (v * 24 + j))).toNat := by
      unfold Hp_flag
      rw [hs, bI_n3, l_0, dec_le (by omega) (by omega)]
      congr 2
      exact ns0 _ _
    rw [Ve_removeLines_L4, l_24, if_neg (by rw [n3_le (by omega) (by omega)]; omega), hc, rowOf_n3, putf_in _ _ _ (by omega) (by decide), Option.bind_some, n3_s, n3_add]
    refine ⟨(n3 (cnt (fun k => decide (0 < A 38 (v * 24 + k))) (j + 1)), n3 (j + 1), wI P 10 (v * 24 + j) 0), rfl, rfl, rfl, i1, fun c k hc2 => ?_, fun r => ?_⟩
    · rw [rd_ne hc2]; exact i2 c k hc2
    · dsimp only
      by_cases e : r = v * 24 + j
      · subst e; rw [rd_eq, if_pos (by omega)]
      · rw [rd_nk e, i3]
        by_cases q : v * 24 ≤ r ∧ r < v * 24 + j
        · rw [if_pos q, if_pos (by omega)]
        · rw [if_neg q, if_neg (by omega)]
  · rintro f ⟨x1, x2, P⟩ ⟨rfl, rfl, i1, i2, i3⟩
    dsimp only at i1 i2 i3 ⊢
    rw [Ve_removeLines_L4, l_24, if_pos (by rw [n3_le (by omega) (by omega)]; omega)]
    exact ⟨_, rfl, rfl, i1, i2, i3⟩
/-- the class's base with rows removed -/
theorem CB_rm {A : aS} {M M' : hyM} {v : Nat} (hC : CB A M) (h2 : M'.2 = M.2) (h3 : ∀ c k, c ≠ 10 → M'.1 c k = M.1 c k) (h4 : ∀ r, M'.1 10 r = if v * 24 ≤ r ∧ r < v * 24 + 24 then 0 else M.1 10 r) : CB (clA A (v * 24) (v * 24 + 24)) M' := by
  obtain ⟨⟨a1, a2, a3, a4, a5⟩, ⟨b1, b2⟩, ⟨c1, c2⟩, ⟨q1, q2⟩, vv, ⟨m1, m2⟩, ⟨i1, i2⟩⟩ := hC
  refine ⟨⟨by rw [h3 _ _ (by decide)]; exact a1, by rw [h3 _ _ (by decide)]; exact a2, by rw [h3 _ _ (by decide)]; exact a3, fun i => by rw [h3 _ _ (by decide)]; exact a4 i, fun i => by rw [h3 _ _ (by decide)]; exact a5 i⟩, ⟨by rw [h2]; exact b1, by rw [h2]; exact b2⟩, ⟨by rw [h3 _ _ (by decide)]; exact c1, by rw [h3 _ _ (by decide)]; exact c2⟩, ⟨by rw [h3 _ _ (by decide)]; exact q1, fun i => by rw [h3 _ _ (by decide)]; exact q2.1 i, fun i => by rw [h3 _ _ (by decide)]; exact q2.2.1 i, fun i => by rw [h3 _ _ (by decide)]; exact q2.2.2 i⟩, fun r hr => ?_, ⟨by rw [h3 _ _ (by decide)]; exact m1, fun m hm => ⟨by rw [h3 _ _ (by decide)]; exact (m2 m hm).1, fun j hj => by rw [h3 _ _ (by decide)]; exact (m2 m hm).2 j hj⟩⟩, ⟨by rw [h3 _ _ (by decide)]; exact i1, fun i => by rw [h3 _ _ (by decide)]; exact i2 i⟩⟩
  have e : (XA (clA A (v * 24) (v * 24 + 24))).2 r = if v * 24 ≤ r ∧ r < v * 24 + 24 then 0 else A 38 r := by
    show clA A (v * 24) (v * 24 + 24) 38 r = _
    unfold clA
    by_cases q : v * 24 ≤ r ∧ r < v * 24 + 24
    · rw [if_pos q, if_pos ⟨rfl, q⟩]
    · rw [if_neg q, if_neg (fun z => q z.2)]
  show VR ((XA A).1 r) ((XA (clA A (v * 24) (v * 24 + 24))).2 r) r M'
  rw [e]
  by_cases q : v * 24 ≤ r ∧ r < v * 24 + 24
  · rw [if_pos q]
    refine ⟨by rw [h4, if_pos q]; rfl, fun j hj => absurd hj (Nat.not_lt_zero _)⟩
  · rw [if_neg q]
    refine ⟨by rw [h4, if_neg q]; exact (vv r hr).1, fun j hj => by rw [h3 _ _ (by decide)]; exact (vv r hr).2 j hj⟩
/-! beginning anew -/
theorem hbt_0 : ∀ i : Fin 40, hbt 0 i.val = false := by decide +kernel
/-- a beginning, before the rows are emptied -/
def beA (A : aS) (t : Nat) : aS := uA (uA (uA (uA (uA (uA A 30 1 t) 30 2 0) 30 7 0) 30 11 4) 30 12 0) 30 13 80
theorem beA_WF {A : aS} (hW : WFA A) {t : Nat} (ht : t ≤ 11) : WFA (beA A t) := by
  refine ⟨⟨Nat.zero_le _, Nat.lt_succ_of_le ht, fun i hi => absurd hi (Nat.not_lt_zero _), fun i hi => absurd hi (Nat.not_lt_zero _), hW.1.2.2.2.2⟩, ⟨WR_0 _ _, hW.2.1.2⟩, ⟨(by decide : 2 ≤ 4), (by decide : 4 ≤ 24), (by decide : 0 < 4), (by decide : 20 ≤ 80), (by decide : 80 ≤ 200)⟩, hW.2.2.2.1, hW.2.2.2.2.1, hW.2.2.2.2.2⟩
def bgA (A : aS) (t : Nat) : Nat → aS
  | 0 => beA A t
  | v + 1 => clA (bgA A t v) (v * 24) (v * 24 + 24)
theorem bgA_WF {A : aS} (hW : WFA A) {t : Nat} (ht : t ≤ 11) (v : Nat) : WFA (bgA A t v) := by
  induction v with
  | zero => exact beA_WF hW ht
  | succ v ih => exact clA_WF ih _ _
theorem bgA_rd (A : aS) (t v c k : Nat) : bgA A t v c k = if c = 38 ∧ k < v * 24 then 0 else beA A t c k := by
  induction v with
  | zero => rw [if_neg (by omega)]; rfl
  | succ v ih =>
    show (if c = 38 ∧ v * 24 ≤ k ∧ k < v * 24 + 24 then 0 else bgA A t v c k) = _
    rw [ih]
    by_cases q : c = 38 ∧ v * 24 ≤ k ∧ k < v * 24 + 24
    · rw [if_pos q, if_pos (by omega)]
    · rw [if_neg q]
      by_cases q2 : c = 38 ∧ k < v * 24
      · rw [if_pos q2, if_pos (by omega)]
      · rw [if_neg q2, if_neg (by omega)]
