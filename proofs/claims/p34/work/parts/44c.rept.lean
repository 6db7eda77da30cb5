/-! A repeat. -/
theorem rp_ng : ∀ f l : Fin 41, l.val < f.val → ¬ (0 : Int32) ≤ n3 l.val - n3 f.val := by decide +kernel
/-- one of the first k repeats is touched -/
def tcB (q : rpT) (f l : Nat) : Nat → Bool
  | 0 => false
  | k + 1 => tcB q f l k || (decide (f ≤ q.2.2.1 k) && decide (q.2.1 k ≤ l))
theorem tcB_f {q : rpT} {f l : Nat} : ∀ k, tcB q f l k = false → ∀ i, i < k → ¬ (f ≤ q.2.2.1 i ∧ q.2.1 i ≤ l) := by
  intro k
  induction k with
  | zero => intro _ i hi; omega
  | succ k ih =>
    intro h i hi
    rw [tcB, Bool.or_eq_false_iff] at h
    by_cases e : i = k
    · subst e
      rintro ⟨z1, z2⟩
      have := h.2
      simp [z1, z2] at this
    · exact ih h.1 i (by omega)
theorem tcB_mono {q : rpT} {f l : Nat} {k : Nat} (h : tcB q f l k = true) : ∀ d, tcB q f l (k + d) = true := by
  intro d
  induction d with
  | zero => exact h
  | succ d ih => rw [← Nat.add_assoc, tcB, ih]; rfl
theorem Re_touch_ok {m : Nat} {q : rpT} {M : hyM} (hw : WR m q) (hm : m ≤ 40) (h3 : M.1 5 3 = n3 q.1) (hq : RQ q M) {f l : Nat} (hf : f < 40) (hl : l < 40) : Re_touch (n3 f) (n3 l) M = some (tcB q f l q.1) := by
  have hq1 := hw.1
  have key := lpI (σ := Int32) (fun F s => Re_touch_L2 (n3 f) (n3 l) M F s) (fun k s => s = n3 k ∧ tcB q f l k = false) q.1 (fun r => (r = .inl true ∧ tcB q f l q.1 = true) ∨ (tcB q f l q.1 = false ∧ ∃ y, r = .inr y)) ?_ ?_ hyFu 0 (n3 0) (Nat.zero_le _) (hyFu_big (by omega)) ⟨rfl, rfl⟩
  · obtain ⟨r, e1, e2⟩ := key
    have e1 : Re_touch_L2 (n3 f) (n3 l) M hyFu (n3 0) = some r := e1
    rw [Re_touch, show (0 : Int32) = n3 0 from rfl, e1, Option.bind_some]
    rcases e2 with ⟨rfl, g⟩ | ⟨g, y, rfl⟩
    · rw [g]
    · rw [g]
  · rintro F k s hk ⟨rfl, hi⟩
    have hv := hw.2.1 k hk
    have b1 := hv.1
    have b2 := hv.2.1
    show (∃ s', Re_touch_L2 (n3 f) (n3 l) M (F + 1) (n3 k) = Re_touch_L2 (n3 f) (n3 l) M F s' ∧ _) ∨ ∃ r, Re_touch_L2 (n3 f) (n3 l) M (F + 1) (n3 k) = some r ∧ _
    have hc : (if atf 3 (M.1 7) (n3 k) < n3 f then false else !decide (n3 l < atf 3 (M.1 6) (n3 k))) = (decide (f ≤ q.2.2.1 k) && decide (q.2.1 k ≤ l)) := by
      rw [atf_in _ (by omega) (by decide), atf_in _ (by omega) (by decide), hq.1, hq.2.1, ite_lt (by omega) (by omega), dec_lt (by omega) (by omega)]
      by_cases c1 : q.2.2.1 k < f
      · rw [if_pos c1, show decide (f ≤ q.2.2.1 k) = false from decide_eq_false (by omega)]; rfl
      · rw [if_neg c1, show decide (f ≤ q.2.2.1 k) = true from decide_eq_true (by omega)]
        by_cases c2 : l < q.2.1 k
        · rw [decide_eq_true c2, show decide (q.2.1 k ≤ l) = false from decide_eq_false (by omega)]; rfl
        · rw [decide_eq_false c2, show decide (q.2.1 k ≤ l) = true from decide_eq_true (by omega)]; rfl
    rw [Re_touch_L2, h3, if_neg (by rw [n3_le (by omega) (by omega)]; omega), hc]
    cases z : (decide (f ≤ q.2.2.1 k) && decide (q.2.1 k ≤ l)) with
    | false =>
      rw [if_neg (by decide), n3_s]
      refine Or.inl ⟨_, rfl, rfl, ?_⟩
      rw [tcB, hi, z]; rfl
    | true =>
      rw [if_pos rfl]
      refine Or.inr ⟨_, rfl, Or.inl ⟨rfl, ?_⟩⟩
      have := tcB_mono (q := q) (f := f) (l := l) (k := k + 1) (by rw [tcB, z, Bool.or_true]) (q.1 - (k + 1))
      rw [show k + 1 + (q.1 - (k + 1)) = q.1 from by omega] at this
      exact this
  · rintro F s ⟨rfl, hi⟩
    show ∃ r, Re_touch_L2 (n3 f) (n3 l) M (F + 1) (n3 q.1) = some r ∧ _
    rw [Re_touch_L2, h3, if_pos (by rw [n3_le (by omega) (by omega)]; omega)]
    exact ⟨_, rfl, Or.inr ⟨hi, _, rfl⟩⟩
def reA (A : aS) (f l s : Nat) : aS := uA (uA (uA (uA A 35 (A 30 7) f) 36 (A 30 7) l) 37 (A 30 7) s) 30 7 (A 30 7 + 1)
theorem reA_WF {A : aS} (hW : WFA A) {f l s : Nat} (h3 : A 30 7 < 3) (hf : f ≤ l) (hl : l < mA A) (hs : s ≤ l - f) (ht : tcB (rpA A) f l (rpA A).1 = false) : WFA (reA A f l s) := by
  have hm := mA_le A
  have hn := hW.1.1
  have r5 : ∀ i, reA A f l s 35 i = if i = A 30 7 then f else A 35 i := fun i => by
    show uA A 35 (A 30 7) f 35 i = _
    by_cases q : i = A 30 7
    · rw [if_pos q, q, uA_eq]
    · rw [if_neg q, uA_nk q]
  have r6 : ∀ i, reA A f l s 36 i = if i = A 30 7 then l else A 36 i := fun i => by
    show uA A 36 (A 30 7) l 36 i = _
    by_cases q : i = A 30 7
    · rw [if_pos q, q, uA_eq]
    · rw [if_neg q, uA_nk q]
  have r7 : ∀ i, reA A f l s 37 i = if i = A 30 7 then s else A 37 i := fun i => by
    show uA A 37 (A 30 7) s 37 i = _
    by_cases q : i = A 30 7
    · rw [if_pos q, q, uA_eq]
    · rw [if_neg q, uA_nk q]
  have ha := tcB_f _ ht
  refine ⟨hW.1, ⟨⟨show A 30 7 + 1 ≤ 3 from h3, fun i hi => ?_, fun i j hi hj hij => ?_⟩, fun i => ?_⟩, hW.2.2.1, hW.2.2.2.1, hW.2.2.2.2.1, hW.2.2.2.2.2⟩
  · have hi : i < A 30 7 + 1 := hi
    show reA A f l s 35 i ≤ reA A f l s 36 i ∧ reA A f l s 36 i < mA A ∧ reA A f l s 37 i ≤ reA A f l s 36 i - reA A f l s 35 i
    rw [r5, r6, r7]
    by_cases q : i = A 30 7
    · rw [if_pos q, if_pos q, if_pos q]; exact ⟨hf, hl, hs⟩
    · rw [if_neg q, if_neg q, if_neg q]; exact hW.2.1.1.2.1 i (show i < A 30 7 by omega)
  · have hi : i < A 30 7 + 1 := hi
    have hj : j < A 30 7 + 1 := hj
    show reA A f l s 36 i < reA A f l s 35 j ∨ reA A f l s 36 j < reA A f l s 35 i
    rw [r5, r6, r5, r6]
    by_cases q : i = A 30 7
    · rw [if_pos q, if_pos q, if_neg (by omega), if_neg (by omega)]
      have := ha j (show j < A 30 7 by omega)
      have : ¬ (f ≤ A 36 j ∧ A 35 j ≤ l) := this
      omega
    · rw [if_neg q, if_neg q]
      by_cases q2 : j = A 30 7
      · rw [if_pos q2, if_pos q2]
        have := ha i (show i < A 30 7 by omega)
        have : ¬ (f ≤ A 36 i ∧ A 35 i ≤ l) := this
        omega
      · rw [if_neg q2, if_neg q2]
        exact hW.2.1.1.2.2 i j (show i < A 30 7 by omega) (show j < A 30 7 by omega) hij
  · rw [r5, r6, r7]
    by_cases q : i = A 30 7
    · rw [if_pos q, if_pos q, if_pos q]; omega
    · rw [if_neg q, if_neg q, if_neg q]; exact hW.2.1.2 i
