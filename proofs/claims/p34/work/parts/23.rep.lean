/-! Repeats that are kept; the order in which phrases are sung. -/
def updN (f : Nat → Nat) (i v : Nat) : Nat → Nat := fun j => if j = i then v else f j
theorem updN_eq (f : Nat → Nat) (i v : Nat) : updN f i v i = v := if_pos rfl
theorem updN_ne {f : Nat → Nat} {i v j : Nat} (h : j ≠ i) : updN f i v j = f j := if_neg h
theorem updN_id (f : Nat → Nat) (i : Nat) : updN f i (f i) = f := by
  funext j; unfold updN; by_cases h : j = i
  · rw [if_pos h, h]
  · rw [if_neg h]
theorem lpM {σ ρ : Type} (g : Nat → σ → Option ρ) (I : σ → Prop) (μ : σ → Nat) (R : ρ → Prop)
    (hs : ∀ f s, I s → (∃ s', g (f + 1) s = g f s' ∧ I s' ∧ μ s' < μ s) ∨ ∃ r, g (f + 1) s = some r ∧ R r) : ∀ f s, μ s < f → I s → ∃ r, g f s = some r ∧ R r := by
  intro f
  induction f with
  | zero => intro s h; omega
  | succ f ih =>
    intro s h1 h2
    rcases hs f s h2 with ⟨s', e, h3, h4⟩ | h4
    · rw [e]; exact ih s' (by omega) h3
    · exact h4
/-- repeats: their number, first and last phrases, skips -/
abbrev rpT : Type := Nat × (Nat → Nat) × (Nat → Nat) × (Nat → Nat)
def kst (m : Nat) (q : rpT) : Nat → rpT
  | 0 => (0, q.2)
  | k + 1 => if (kst m q k).2.2.1 k < m then ((kst m q k).1 + 1, updN (kst m q k).2.1 (kst m q k).1 ((kst m q k).2.1 k), updN (kst m q k).2.2.1 (kst m q k).1 ((kst m q k).2.2.1 k), updN (kst m q k).2.2.2 (kst m q k).1 ((kst m q k).2.2.2 k)) else kst m q k
theorem kst_t {m : Nat} {q : rpT} {k : Nat} (h : (kst m q k).2.2.1 k < m) : kst m q (k + 1) = ((kst m q k).1 + 1, updN (kst m q k).2.1 (kst m q k).1 ((kst m q k).2.1 k), updN (kst m q k).2.2.1 (kst m q k).1 ((kst m q k).2.2.1 k), updN (kst m q k).2.2.2 (kst m q k).1 ((kst m q k).2.2.2 k)) := if_pos h
theorem kst_f {m : Nat} {q : rpT} {k : Nat} (h : ¬ (kst m q k).2.2.1 k < m) : kst m q (k + 1) = kst m q k := if_neg h
def kept (m : Nat) (q : rpT) : rpT := kst m q q.1
def rv1 (m f l s : Nat) : Prop := f ≤ l ∧ l < m ∧ s ≤ l - f
def rdj (f l f2 l2 : Nat) : Prop := l < f2 ∨ l2 < f
def WR (m : Nat) (q : rpT) : Prop := q.1 ≤ 3 ∧ (∀ i, i < q.1 → rv1 m (q.2.1 i) (q.2.2.1 i) (q.2.2.2 i)) ∧ ∀ i j, i < q.1 → j < q.1 → i ≠ j → rdj (q.2.1 i) (q.2.2.1 i) (q.2.1 j) (q.2.2.1 j)
theorem kst_le (m : Nat) (q : rpT) (k : Nat) : (kst m q k).1 ≤ k := by
  induction k with
  | zero => exact Nat.le_refl 0
  | succ k ih =>
    by_cases c : (kst m q k).2.2.1 k < m
    · rw [kst_t c]; dsimp only; omega
    · rw [kst_f c]; omega
theorem kst_hi (m : Nat) (q : rpT) (k : Nat) : ∀ j, k ≤ j → (kst m q k).2.1 j = q.2.1 j ∧ (kst m q k).2.2.1 j = q.2.2.1 j ∧ (kst m q k).2.2.2 j = q.2.2.2 j := by
  induction k with
  | zero => intro j _; exact ⟨rfl, rfl, rfl⟩
  | succ k ih =>
    intro j hj
    have h := ih j (by omega)
    have hl := kst_le m q k
    by_cases c : (kst m q k).2.2.1 k < m
    · rw [kst_t c]
      dsimp only
      rw [updN_ne (by omega), updN_ne (by omega), updN_ne (by omega)]
      exact h
    · rw [kst_f c]; exact h
/-- the repeats that are kept are valid again -/
theorem kept_ok {m0 m : Nat} {q : rpT} (h : WR m0 q) : WR m (kept m q) := by
  obtain ⟨h1, h2, h3⟩ := h
  have key : ∀ k, k ≤ q.1 → (∀ i, i < (kst m q k).1 → rv1 m ((kst m q k).2.1 i) ((kst m q k).2.2.1 i) ((kst m q k).2.2.2 i)) ∧
      (∀ i j, i < (kst m q k).1 → j < (kst m q k).1 → i ≠ j → rdj ((kst m q k).2.1 i) ((kst m q k).2.2.1 i) ((kst m q k).2.1 j) ((kst m q k).2.2.1 j)) ∧
      (∀ i j, i < (kst m q k).1 → k ≤ j → j < q.1 → rdj ((kst m q k).2.1 i) ((kst m q k).2.2.1 i) (q.2.1 j) (q.2.2.1 j)) := by
    intro k
    induction k with
    | zero => intro _; exact ⟨fun i hi => absurd hi (Nat.not_lt_zero _), fun i j hi => absurd hi (Nat.not_lt_zero _), fun i j hi => absurd hi (Nat.not_lt_zero _)⟩
    | succ k ih =>
      intro hk
      obtain ⟨a, b, c⟩ := ih (by omega)
      obtain ⟨e1, e2, e3⟩ := kst_hi m q k k (Nat.le_refl k)
      have hl := kst_le m q k
      have v := h2 k (by omega)
      by_cases hm : (kst m q k).2.2.1 k < m
      · rw [kst_t hm]
        dsimp only
        rw [e2] at hm
        rw [e1, e2, e3]
        generalize hs : kst m q k = s at *
        refine ⟨fun i hi => ?_, fun i j hi hj hij => ?_, fun i j hi hj hjq => ?_⟩
        · by_cases d : i = s.1
          · subst d; rw [updN_eq, updN_eq, updN_eq]; exact ⟨v.1, hm, v.2.2⟩
          · rw [updN_ne d, updN_ne d, updN_ne d]; exact a i (by omega)
        · by_cases d : i = s.1
          · subst d
            rw [updN_eq, updN_eq, updN_ne (Ne.symm hij), updN_ne (Ne.symm hij)]
            rcases c j k (by omega) (Nat.le_refl k) (by omega) with g | g
            · exact Or.inr g
            · exact Or.inl g
          · by_cases d2 : j = s.1
            · subst d2
              rw [updN_eq, updN_eq, updN_ne d, updN_ne d]
              exact c i k (by omega) (Nat.le_refl k) (by omega)
            · rw [updN_ne d, updN_ne d, updN_ne d2, updN_ne d2]
              exact b i j (by omega) (by omega) hij
        · by_cases d : i = s.1
          · subst d; rw [updN_eq, updN_eq]
            exact h3 k j (by omega) hjq (by omega)
          · rw [updN_ne d, updN_ne d]
            exact c i j (by omega) (by omega) hjq
      · rw [kst_f hm]; exact ⟨a, b, fun i j hi hj hjq => c i j hi (by omega) hjq⟩
  obtain ⟨a, b, -⟩ := key q.1 (Nat.le_refl _)
  exact ⟨Nat.le_trans (kst_le m q q.1) h1, a, b⟩
theorem kept_id {m : Nat} {q : rpT} (h : ∀ i, i < q.1 → q.2.2.1 i < m) : kept m q = q := by
  have key : ∀ k, k ≤ q.1 → kst m q k = (k, q.2) := by
    intro k
    induction k with
    | zero => intro _; rfl
    | succ k ih =>
      intro hk
      have e := ih (by omega)
      rw [kst_t (by rw [e]; exact h k (by omega)), e]
      dsimp only
      rw [updN_id, updN_id, updN_id]
  rw [kept, key q.1 (Nat.le_refl _)]
/-! the class keeps -/
def RQ (q : rpT) (M : hyM) : Prop := (∀ i, M.1 6 i = n3 (q.2.1 i)) ∧ (∀ i, M.1 7 i = n3 (q.2.2.1 i)) ∧ ∀ i, M.1 8 i = n3 (q.2.2.2 i)
def kcel (c _ : Nat) : Bool := Nat.ble 5 c && Nat.ble c 8
def rsm (q : rpT) : Prop := ∀ i, i < 3 → q.2.1 i < 1000 ∧ q.2.2.1 i < 1000 ∧ q.2.2.2 i < 1000
theorem Re_push_eq {M : hyM} {p : Nat} {a b c : Int32} (h : M.1 5 3 = n3 p) (hp : p < 3) : Re_push a b c M = wI (wI (wI (wI M 6 p a) 7 p b) 8 p c) 5 3 (n3 (p + 1)) := by
  unfold Re_push
  rw [h, putf_in _ _ _ hp (by decide)]
  have h2 : (wI M 6 p a).1 5 3 = n3 p := by rw [rd_ne (by decide), h]
  rw [h2, putf_in _ _ _ hp (by decide)]
  have h3 : (wI (wI M 6 p a) 7 p b).1 5 3 = n3 p := by rw [rd_ne (by decide), h2]
  rw [h3, putf_in _ _ _ hp (by decide)]
  have h4 : (wI (wI (wI M 6 p a) 7 p b) 8 p c).1 5 3 = n3 p := by rw [rd_ne (by decide), h3]
  rw [h4, l_1, n3_add]
theorem updN_rd {M : hyM} {c : Nat} {f : Nat → Nat} (h : ∀ i, M.1 c i = n3 (f i)) (p v : Nat) : ∀ i, (wI M c p (n3 v)).1 c i = n3 (updN f p v i) := by
  intro i
  by_cases e : i = p
  · subst e; rw [rd_eq, updN_eq]
  · rw [rd_nk e, updN_ne e, h]
theorem RQ_push {q : rpT} {M : hyM} (h : RQ q M) (p x y z n : Nat) (d : Int32) : RQ (n, updN q.2.1 p x, updN q.2.2.1 p y, updN q.2.2.2 p z) (wI (wI (wI (wI M 6 p (n3 x)) 7 p (n3 y)) 8 p (n3 z)) 5 3 d) := by
  obtain ⟨g6, g7, g8⟩ := h
  refine ⟨fun i => ?_, fun i => ?_, fun i => ?_⟩
  · rw [rd_ne (by decide), rd_ne (by decide), rd_ne (by decide)]; exact updN_rd g6 _ _ i
  · rw [rd_ne (by decide), rd_ne (by decide)]; exact updN_rd (fun i => by rw [rd_ne (by decide)]; exact g7 i) _ _ i
  · rw [rd_ne (by decide)]; exact updN_rd (fun i => by rw [rd_ne (by decide), rd_ne (by decide)]; exact g8 i) _ _ i
theorem Re_keepWithin_ok {m : Nat} {q : rpT} {M : hyM} (hm : m < 1000) (hr : q.1 ≤ 3) (h3 : M.1 5 3 = n3 q.1) (hq : RQ q M) (hsm : ∀ k i, i < 3 → (kst m q k).2.2.1 i < 1000) :
    ∃ M', Re_keepWithin (n3 m) M = some M' ∧ frm kcel M M' ∧ M'.1 5 3 = n3 (kept m q).1 ∧ RQ (kept m q) M' := by
  have key := lpI (σ := Int32 × hyM) (fun f s => Re_keepWithin_L12 (n3 m) M f s.1 s.2) (fun k s => s.1 = n3 k ∧ frm kcel M s.2 ∧ s.2.1 5 3 = n3 (kst m q k).1 ∧ RQ (kst m q k) s.2) q.1 (fun r => frm kcel M r.2 ∧ r.2.1 5 3 = n3 (kept m q).1 ∧ RQ (kept m q) r.2) ?_ ?_ hyFu 0 (n3 0, wI M 5 3 0) (Nat.zero_le _) (hyFu_big (by omega)) ⟨rfl, (frm.rf _ _).w rfl, ?_, ?_⟩
  · obtain ⟨⟨y, N⟩, e1, e2, e3, e4⟩ := key
    refine ⟨N, ?_, e2, e3, e4⟩
    dsimp only at e1
    rw [Re_keepWithin]
    simp only [Option.bind_some]
    rw [show (0 : Int32) = n3 0 from rfl] at e1 ⊢
    rw [e1]
    rfl
  · rintro f k ⟨x2, M3⟩ hk ⟨rfl, hF, h5, g6, g7, g8⟩
    refine Or.inl ?_
    dsimp only at hF h5 g6 g7 g8 ⊢
    have hl := kst_le m q k
    have hs := hsm k k (by omega)
    rw [Re_keepWithin_L12, h3, if_neg (by rw [n3_le (by omega) (by omega)]; omega), atf_in _ (by omega) (by decide), g7, ite_le (by omega) (by omega)]
    by_cases c : m ≤ (kst m q k).2.2.1 k
    · rw [if_pos c, l_1, n3_add]
      refine ⟨(_, _), rfl, rfl, hF, ?_⟩
      rw [kst_f (by omega)]
      exact ⟨h5, g6, g7, g8⟩
    · rw [if_neg c, atf_in _ (by omega) (by decide), atf_in _ (by omega) (by decide), g6, g8, Re_push_eq h5 (by omega), Option.bind_some, l_1, n3_add]
      refine ⟨(_, _), rfl, rfl, (((hF.w rfl).w rfl).w rfl).w rfl, ?_⟩
      rw [kst_t (by omega)]
      exact ⟨rd_eq _ _ _ _, RQ_push ⟨g6, g7, g8⟩ _ _ _ _ _ _⟩
  · rintro f ⟨x2, M3⟩ ⟨rfl, hF, h5, g⟩
    dsimp only at hF h5 g ⊢
    rw [Re_keepWithin_L12, h3, if_pos (by rw [n3_le (by omega) (by omega)]; omega)]
    exact ⟨_, rfl, hF, h5, g⟩
  · rw [rd_eq]; rfl
  · exact ⟨fun i => by rw [rd_ne (by decide)]; exact hq.1 i, fun i => by rw [rd_ne (by decide)]; exact hq.2.1 i, fun i => by rw [rd_ne (by decide)]; exact hq.2.2 i⟩
