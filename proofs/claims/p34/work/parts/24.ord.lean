/-! The order in which phrases are sung. -/
def rgN (a : Nat) : Nat → List Nat
  | 0 => []
  | d + 1 => rgN a d ++ [a + d]
theorem rgN_len (a d : Nat) : (rgN a d).length = d := by
  induction d with
  | zero => rfl
  | succ d ih => rw [rgN, List.length_append, ih]; rfl
theorem rgN_mem {a d x : Nat} (h : x ∈ rgN a d) : a ≤ x ∧ x < a + d := by
  induction d with
  | zero => cases h
  | succ d ih =>
    rw [rgN, List.mem_append] at h
    rcases h with h | h
    · have := ih h; omega
    · have := List.mem_singleton.mp h; omega
/-- which repeat ends with phrase k, if one does -/
def hasE (q : rpT) (k : Nat) : Bool := (List.range q.1).any (fun i => q.2.2.1 i == k)
def edi (q : rpT) (k : Nat) : Nat := laN (fun i => q.2.2.1 i == k) q.1
def aga (q : rpT) (i : Nat) : List Nat := rgN (q.2.1 i) (q.2.2.1 i - q.2.2.2 i + 1 - q.2.1 i)
def orl (q : rpT) : Nat → List Nat
  | 0 => []
  | k + 1 => orl q k ++ [k] ++ (if hasE q k = true then aga q (edi q k) else [])
theorem hasE_iff {q : rpT} {k : Nat} : hasE q k = true ↔ ∃ i, i < q.1 ∧ q.2.2.1 i = k := by
  unfold hasE
  rw [List.any_eq_true]
  constructor
  · rintro ⟨i, h1, h2⟩; exact ⟨i, List.mem_range.mp h1, by simpa using h2⟩
  · rintro ⟨i, h1, h2⟩; exact ⟨i, List.mem_range.mpr h1, by simpa using h2⟩
theorem edi_of {m : Nat} {q : rpT} (h : WR m q) {i k : Nat} (hi : i < q.1) (hk : q.2.2.1 i = k) : edi q k = i := by
  refine laN_eq hi (by simpa using hk) (fun j h1 h2 => ?_)
  have g := h.2.2 i j hi h2 (by omega)
  have a := h.2.1 i hi
  have b := h.2.1 j h2
  unfold rdj at g
  unfold rv1 at a b
  simp only [beq_eq_false_iff_ne]
  omega
theorem orl_t {m : Nat} {q : rpT} (h : WR m q) {i : Nat} (hi : i < q.1) : orl q (q.2.2.1 i + 1) = orl q (q.2.2.1 i) ++ [q.2.2.1 i] ++ aga q i := by
  rw [orl, if_pos (hasE_iff.mpr ⟨i, hi, rfl⟩), edi_of h hi rfl]
theorem orl_f {q : rpT} {k : Nat} (h : ∀ i, i < q.1 → q.2.2.1 i ≠ k) : orl q (k + 1) = orl q k ++ [k] := by
  rw [orl, if_neg (fun c => by obtain ⟨i, a, b⟩ := hasE_iff.mp c; exact h i a b), List.append_nil]
theorem orl_seg {m : Nat} {q : rpT} (h : WR m q) {i : Nat} (hi : i < q.1) (d : Nat) (hd : q.2.1 i + d ≤ q.2.2.1 i) : orl q (q.2.1 i + d) = orl q (q.2.1 i) ++ rgN (q.2.1 i) d := by
  induction d with
  | zero => rw [Nat.add_zero, rgN, List.append_nil]
  | succ d ih =>
    rw [← Nat.add_assoc, orl_f (fun j hj hk => ?_), ih (by omega), rgN, List.append_assoc]
    by_cases e : j = i
    · subst e; omega
    · have g := h.2.2 i j hi hj (by omega)
      have a := h.2.1 i hi
      have b := h.2.1 j hj
      unfold rdj at g
      unfold rv1 at a b
      omega
theorem aga_len {m : Nat} {q : rpT} (h : WR m q) {i : Nat} (hi : i < q.1) : (aga q i).length + q.2.1 i ≤ q.2.2.1 i + 1 ∧ q.2.2.1 i - q.2.2.2 i + 1 - q.2.1 i ≤ q.2.2.1 i + 1 := by
  have a := h.2.1 i hi
  unfold rv1 at a
  unfold aga
  rw [rgN_len]
  omega
theorem orl_len {m : Nat} {q : rpT} (h : WR m q) (k : Nat) : (orl q k).length ≤ 2 * k := by
  induction k using Nat.strongRecOn with
  | _ k ih =>
    cases k with
    | zero => exact Nat.le_refl 0
    | succ k =>
      by_cases c : ∃ i, i < q.1 ∧ q.2.2.1 i = k
      · obtain ⟨i, hi, rfl⟩ := c
        have a := h.2.1 i hi
        unfold rv1 at a
        have h2 := orl_seg h hi (q.2.2.1 i - q.2.1 i) (by omega)
        rw [show q.2.1 i + (q.2.2.1 i - q.2.1 i) = q.2.2.1 i by omega] at h2
        have h3 := ih (q.2.1 i) (by omega)
        have h4 := (aga_len h hi).1
        rw [orl_t h hi, h2]
        simp only [List.length_append, rgN_len, List.length_cons, List.length_nil]
        omega
      · rw [orl_f (fun i hi hk => c ⟨i, hi, hk⟩), List.length_append]
        have h3 := ih k (by omega)
        simp only [List.length_cons, List.length_nil]
        omega
theorem orl_mem {m : Nat} {q : rpT} (h : WR m q) {k x : Nat} (hx : x ∈ orl q k) : x < k := by
  induction k with
  | zero => cases hx
  | succ k ih =>
    by_cases c : ∃ i, i < q.1 ∧ q.2.2.1 i = k
    · obtain ⟨i, hi, rfl⟩ := c
      have a := h.2.1 i hi
      unfold rv1 at a
      rw [orl_t h hi, List.mem_append, List.mem_append] at hx
      rcases hx with (hx | hx) | hx
      · have := ih hx; omega
      · have := List.mem_singleton.mp hx; omega
      · have := rgN_mem hx; omega
    · rw [orl_f (fun i hi hk => c ⟨i, hi, hk⟩), List.mem_append] at hx
      rcases hx with hx | hx
      · have := ih hx; omega
      · have := List.mem_singleton.mp hx; omega
/-! the class's -/
def ocel (c _ : Nat) : Bool := Nat.ble 18 c && Nat.ble c 20
def OL (L : List Nat) (m : Nat) (M : hyM) : Prop := M.1 18 2 = n3 L.length ∧ (∀ i x, L[i]? = some x → M.1 19 i = n3 x) ∧ ∀ p, p < m → M.1 20 p = n3 (L.count p)
theorem OL_push {L : List Nat} {m x : Nat} {M : hyM} (h : OL L m M) (hL : L.length < 80) (hm : m ≤ 40) (hx : x < m) : OL (L ++ [x]) m (Or_push (n3 x) M) ∧ frm ocel M (Or_push (n3 x) M) := by
  obtain ⟨h1, h2, h3⟩ := h
  have e : Or_push (n3 x) M = wI (wI (wI M 19 L.length (n3 x)) 20 x (n3 (L.count x + 1))) 18 2 (n3 (L.length + 1)) := by
    unfold Or_push Or_timesOf
    rw [h1, putf_in _ _ _ hL (by decide), putf_in _ _ _ (by omega) (by decide), atf_in _ (by omega) (by decide), rd_ne (by decide), h3 x hx]
    rw [rd_ne (by decide), rd_ne (by decide), h1, l_1, n3_add, n3_add]
  rw [e]
  refine ⟨⟨?_, fun i y hy => ?_, fun p hp => ?_⟩, (((frm.rf _ _).w rfl).w rfl).w rfl⟩
  · rw [rd_eq, List.length_append]; rfl
  · rw [rd_ne (by decide), rd_ne (by decide)]
    rw [List.getElem?_append] at hy
    by_cases c : i < L.length
    · rw [if_pos c] at hy
      rw [rd_nk (by omega)]
      exact h2 i y hy
    · rw [if_neg c] at hy
      have hi : i - L.length = 0 := by
        by_cases d : i - L.length = 0
        · exact d
        · rw [List.getElem?_eq_none (by simp; omega)] at hy; cases hy
      have : i = L.length := by omega
      subst this
      rw [hi] at hy
      cases hy
      rw [rd_eq]
  · rw [rd_ne (by decide)]
    rw [List.count_append]
    by_cases c : p = x
    · subst c; rw [rd_eq]; simp
    · rw [rd_nk c, rd_ne (by decide), h3 p hp]
      rw [List.count_singleton]
      have : (x == p) = false := by simpa using fun q => c q.symm
      simp [this]
theorem Or_pushAgain_ok {L : List Nat} {m a b : Nat} {M : hyM} (h : OL L m M) (hm : m ≤ 40) (hb : b < m) (ha : a ≤ b + 1) (hL : L.length + (b + 1 - a) ≤ 80) :
    ∃ M', Or_pushAgain (n3 a) (n3 b) M = some M' ∧ OL (L ++ rgN a (b + 1 - a)) m M' ∧ frm ocel M M' := by
  have key := lpI (σ := Int32 × hyM) (fun f s => Or_pushAgain_L2 (n3 b) f s.1 s.2) (fun k s => s.1 = n3 (a + k) ∧ OL (L ++ rgN a k) m s.2 ∧ frm ocel M s.2) (b + 1 - a) (fun r => OL (L ++ rgN a (b + 1 - a)) m r.2 ∧ frm ocel M r.2) ?_ ?_ hyFu 0 (n3 a, M) (Nat.zero_le _) (hyFu_big (by omega)) ⟨rfl, by rw [rgN, List.append_nil]; exact h, frm.rf _ _⟩
  · obtain ⟨⟨y, N⟩, e1, e2, e3⟩ := key
    refine ⟨N, ?_, e2, e3⟩
    dsimp only at e1
    rw [Or_pushAgain, e1]
    rfl
  · rintro f k ⟨x1, M2⟩ hk ⟨rfl, hO, hF⟩
    refine Or.inl ?_
    dsimp only at hO hF ⊢
    obtain ⟨g1, g2⟩ := OL_push (x := a + k) hO (by rw [List.length_append, rgN_len]; omega) hm (by omega)
    rw [Or_pushAgain_L2, if_neg (by rw [n3_lt (by omega) (by omega)]; omega), Option.bind_some, l_1, n3_add]
    refine ⟨(_, _), rfl, rfl, ?_, hF.trans g2⟩
    rw [rgN, ← List.append_assoc]
    exact g1
  · rintro f ⟨x1, M2⟩ ⟨rfl, hO, hF⟩
    dsimp only at hO hF ⊢
    rw [Or_pushAgain_L2, if_pos (by rw [n3_lt (by omega) (by omega)]; omega)]
    exact ⟨_, rfl, hO, hF⟩
theorem Re_endingWith_ok {m : Nat} {q : rpT} {M : hyM} {k : Nat} (h : WR m q) (hm : m ≤ 40) (hk : k < m) (h3 : M.1 5 3 = n3 q.1) (h7 : ∀ i, M.1 7 i = n3 (q.2.2.1 i)) :
    (∃ i, i < q.1 ∧ q.2.2.1 i = k ∧ Re_endingWith (n3 k) M = some (n3 i)) ∨ ((∀ i, i < q.1 → q.2.2.1 i ≠ k) ∧ Re_endingWith (n3 k) M = some (-1)) := by
  have hr := h.1
  have key := lpI (σ := Int32) (fun f s => Re_endingWith_L2 (n3 k) M f s) (fun j s => s = n3 j ∧ ∀ i, i < j → q.2.2.1 i ≠ k) q.1 (fun r => (∃ i, i < q.1 ∧ q.2.2.1 i = k ∧ r = .inl (n3 i)) ∨ ((∀ i, i < q.1 → q.2.2.1 i ≠ k) ∧ ∃ y, r = .inr y)) ?_ ?_ hyFu 0 (n3 0) (Nat.zero_le _) (hyFu_big (by omega)) ⟨rfl, fun i hi => absurd hi (Nat.not_lt_zero _)⟩
  · obtain ⟨r, e1, e2⟩ := key
    rw [Re_endingWith]
    rw [show (0 : Int32) = n3 0 from rfl]
    have e1 : Re_endingWith_L2 (n3 k) M hyFu (n3 0) = some r := e1
    rw [e1]
    rcases e2 with ⟨i, a, b, rfl⟩ | ⟨a, y, rfl⟩
    · exact Or.inl ⟨i, a, b, rfl⟩
    · exact Or.inr ⟨a, rfl⟩
  · rintro f j s hj ⟨rfl, hn⟩
    have hv := (h.2.1 j hj)
    unfold rv1 at hv
    show (∃ s', Re_endingWith_L2 (n3 k) M (f + 1) (n3 j) = Re_endingWith_L2 (n3 k) M f s' ∧ _) ∨ ∃ r, Re_endingWith_L2 (n3 k) M (f + 1) (n3 j) = some r ∧ _
    rw [Re_endingWith_L2, h3, if_neg (by rw [n3_le (by omega) (by omega)]; omega), atf_in _ (by omega) (by decide), h7, ite_eq (by omega) (by omega)]
    by_cases c : q.2.2.1 j = k
    · rw [if_pos c]
      exact Or.inr ⟨_, rfl, Or.inl ⟨j, hj, c, rfl⟩⟩
    · rw [if_neg c, l_1, n3_add]
      refine Or.inl ⟨_, rfl, rfl, fun i hi => ?_⟩
      by_cases d : i = j
      · subst d; exact c
      · exact hn i (by omega)
  · rintro f s ⟨rfl, hn⟩
    show ∃ r, Re_endingWith_L2 (n3 k) M (f + 1) (n3 q.1) = some r ∧ _
    rw [Re_endingWith_L2, h3, if_pos (by rw [n3_le (by omega) (by omega)]; omega)]
    exact ⟨_, rfl, Or.inr ⟨hn, _, rfl⟩⟩
theorem Or_find_L7_ok {m : Nat} {M : hyM} (hm : m ≤ 40) : ∃ r, Or_find_L7 (n3 m) hyFu (n3 0) M = some r ∧ frm ocel M r.2 ∧ r.2.1 18 2 = M.1 18 2 ∧ ∀ p, p < m → r.2.1 20 p = n3 0 := by
  refine lpI (σ := Int32 × hyM) (fun f s => Or_find_L7 (n3 m) f s.1 s.2) (fun k s => s.1 = n3 k ∧ frm ocel M s.2 ∧ s.2.1 18 2 = M.1 18 2 ∧ ∀ p, p < k → s.2.1 20 p = n3 0) m _ ?_ ?_ hyFu 0 (n3 0, M) (Nat.zero_le _) (hyFu_big (by omega)) ⟨rfl, frm.rf _ _, rfl, fun p hp => absurd hp (Nat.not_lt_zero _)⟩
  · rintro f k ⟨x2, M3⟩ hk ⟨rfl, hF, h1, h2⟩
    refine Or.inl ?_
    dsimp only at hF h1 h2 ⊢
    rw [Or_find_L7, if_neg (by rw [n3_le (by omega) (by omega)]; omega), putf_in _ _ _ (by omega) (by decide), Option.bind_some, l_1, n3_add]
    refine ⟨(_, _), rfl, rfl, hF.w rfl, h1, fun p hp => ?_⟩
    show (wI M3 20 k 0).1 20 p = n3 0
    by_cases c : p = k
    · subst c; rw [rd_eq]; rfl
    · rw [rd_nk c]; exact h2 p (by omega)
  · rintro f ⟨x2, M3⟩ ⟨rfl, hF, h1, h2⟩
    dsimp only at hF h1 h2 ⊢
    rw [Or_find_L7, if_pos (by rw [n3_le (by omega) (by omega)]; omega)]
    exact ⟨_, rfl, hF, h1, h2⟩
theorem Or_find_ok {m : Nat} {q : rpT} {M : hyM} (h : WR m q) (hm : m ≤ 40) (h3 : M.1 5 3 = n3 q.1) (hq : RQ q M) :
    ∃ M', Or_find (n3 m) M = some M' ∧ OL (orl q m) m M' ∧ frm ocel M M' := by
  obtain ⟨⟨y0, N0⟩, a1, a2, a3, a4⟩ := Or_find_L7_ok (M := wI M 18 2 0) hm
  dsimp only at a2 a3 a4
  have hF0 : frm ocel M N0 := ((frm.rf ocel M).w rfl).trans a2
  have key := lpI (σ := Int32 × hyM) (fun f s => Or_find_L29 (n3 m) f s.1 s.2) (fun k s => s.1 = n3 k ∧ OL (orl q k) m s.2 ∧ frm ocel M s.2) m (fun r => OL (orl q m) m r.2 ∧ frm ocel M r.2) ?_ ?_ hyFu 0 (n3 0, N0) (Nat.zero_le _) (hyFu_big (by omega)) ⟨rfl, ⟨?_, fun i x hx => ?_, fun p hp => ?_⟩, hF0⟩
  · obtain ⟨⟨y, N⟩, e1, e2, e3⟩ := key
    refine ⟨N, ?_, e2, e3⟩
    dsimp only at e1
    rw [Or_find, Option.bind_some]
    rw [show (0 : Int32) = n3 0 from rfl] at a1 ⊢
    rw [a1, Option.bind_some]
    dsimp only
    rw [e1]
    rfl
  · rintro f k ⟨x7, M8⟩ hk ⟨rfl, hO, hF⟩
    refine Or.inl ?_
    dsimp only at hO hF ⊢
    have hlen := orl_len h k
    have hlen1 := orl_len h (k + 1)
    obtain ⟨g1, g2⟩ := OL_push (x := k) hO (by omega) hm hk
    have hF2 := hF.trans g2
    rw [Or_find_L29, if_neg (by rw [n3_le (by omega) (by omega)]; omega), Option.bind_some]
    have e3 : (Or_push (n3 k) M8).1 5 3 = n3 q.1 := by rw [hF2.2 _ _ rfl]; exact h3
    have e6 : ∀ i, (Or_push (n3 k) M8).1 6 i = n3 (q.2.1 i) := fun i => by rw [hF2.2 _ _ rfl]; exact hq.1 i
    have e7 : ∀ i, (Or_push (n3 k) M8).1 7 i = n3 (q.2.2.1 i) := fun i => by rw [hF2.2 _ _ rfl]; exact hq.2.1 i
    have e8 : ∀ i, (Or_push (n3 k) M8).1 8 i = n3 (q.2.2.2 i) := fun i => by rw [hF2.2 _ _ rfl]; exact hq.2.2 i
    rcases Re_endingWith_ok h hm hk e3 e7 with ⟨i, hi, hik, ee⟩ | ⟨hn, ee⟩
    · have hr := h.1
      have hv := h.2.1 i hi
      unfold rv1 at hv
      have h9 := orl_t h hi
      rw [hik] at h9
      rw [ee, Option.bind_some, if_neg (by rw [n3_m1 (by omega)]; exact id)]
      unfold Re_firstOf Re_lastAgainOf
      rw [atf_in _ (by omega) (by decide), atf_in _ (by omega) (by decide), atf_in _ (by omega) (by decide), e6, e7, e8, n3_sub (by omega)]
      have h10 : aga q i = rgN (q.2.1 i) (q.2.2.1 i - q.2.2.2 i + 1 - q.2.1 i) := rfl
      obtain ⟨M', b1, b2, b3⟩ := Or_pushAgain_ok (a := q.2.1 i) (b := q.2.2.1 i - q.2.2.2 i) g1 hm (by omega) (by omega) (by
        rw [h9, h10] at hlen1
        simp only [List.length_append, rgN_len, List.length_cons, List.length_nil] at hlen1 ⊢
        omega)
      rw [b1, Option.bind_some, l_1, n3_add]
      refine ⟨(_, _), rfl, rfl, ?_, hF2.trans b3⟩
      rw [h9, h10]
      exact b2
    · rw [ee, Option.bind_some, if_pos rfl, n3_s]
      refine ⟨(_, _), rfl, rfl, ?_, hF2⟩
      rw [orl_f hn]
      exact g1
  · rintro f ⟨x7, M8⟩ ⟨rfl, hO, hF⟩
    dsimp only at hO hF ⊢
    rw [Or_find_L29, if_pos (by rw [n3_le (by omega) (by omega)]; omega)]
    exact ⟨_, rfl, hO, hF⟩
  · rw [a3, rd_eq]; rfl
  · cases hx
  · rw [a4 p hp]; rfl
/-- phrase p stands in no repeat but as its first one -/
def bdy (q : rpT) (p : Nat) : Prop := ∀ i, i < q.1 → q.2.2.1 i < p ∨ p ≤ q.2.1 i
