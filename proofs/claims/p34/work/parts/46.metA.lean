/-! Metres that are read. -/
def dg (c : Nat) : Bool := Nat.ble 48 c && Nat.ble c 57
def pg (c v : Nat) : Bool := dg c && (decide (0 < 10 * v + (c - 48)) && decide (10 * v + (c - 48) ≤ 20))
/-- numbers begun, the number's value, doubled, the numbers -/
abbrev mS : Type := Nat × Nat × Bool × (Nat → Nat)
def q1 (c : Nat) (s : mS) : Bool := pg c s.2.1 && !s.2.2.1
def q2 (c : Nat) (s : mS) : Bool := Nat.beq c 46 && (decide (0 < s.2.1) && decide (s.1 < 24))
def q3 (c : Nat) (s : mS) : Bool := Nat.beq c 68 && (!s.2.2.1 && (Nat.beq s.2.1 0 && (decide (0 < s.1) && decide (2 * s.1 ≤ 24))))
def mst (c : Nat) (s : mS) : Option mS :=
  if q1 c s = true then some (if s.2.1 = 0 then s.1 + 1 else s.1, 10 * s.2.1 + (c - 48), false, updN s.2.2.2 (if s.2.1 = 0 then s.1 else s.1 - 1) (10 * s.2.1 + (c - 48)))
  else if q2 c s = true then some (s.1, 0, s.2.2.1, s.2.2.2)
  else if q3 c s = true then some (s.1, s.2.1, true, s.2.2.2)
  else none
def mrn (t : Nat → Nat) : Nat → Option mS
  | 0 => some (0, 0, false, fun _ => 0)
  | k + 1 => (mrn t k).bind (mst (t k))
def MI (s : mS) : Prop := s.1 ≤ 24 ∧ s.2.1 ≤ 20 ∧ (0 < s.2.1 → 1 ≤ s.1 ∧ s.2.2.2 (s.1 - 1) = s.2.1 ∧ s.2.2.1 = false) ∧ (s.2.1 = 0 → s.1 < 24) ∧ (∀ i, i < s.1 → 1 ≤ s.2.2.2 i ∧ s.2.2.2 i ≤ 20) ∧ (s.2.2.1 = true → 1 ≤ s.1 ∧ 2 * s.1 ≤ 24)
theorem nbq {a b : Nat} : Nat.beq a b = true ↔ a = b := ⟨Nat.eq_of_beq_eq_true, fun h => by subst h; exact Nat.beq_refl a⟩
theorem nbf {a b : Nat} (h : ¬ a = b) : Nat.beq a b = false := by
  cases z : Nat.beq a b with
  | false => rfl
  | true => exact absurd (nbq.mp z) h
theorem q1_iff {c : Nat} {s : mS} : q1 c s = true ↔ (48 ≤ c ∧ c ≤ 57) ∧ 0 < 10 * s.2.1 + (c - 48) ∧ 10 * s.2.1 + (c - 48) ≤ 20 ∧ s.2.2.1 = false := by
  unfold q1 pg dg
  simp only [Bool.and_eq_true, Nat.ble_eq, decide_eq_true_eq, Bool.not_eq_true']
  constructor
  · rintro ⟨⟨⟨a, b⟩, c, d⟩, e⟩; exact ⟨⟨a, b⟩, c, d, e⟩
  · rintro ⟨⟨a, b⟩, c, d, e⟩; exact ⟨⟨⟨a, b⟩, c, d⟩, e⟩
theorem q2_iff {c : Nat} {s : mS} : q2 c s = true ↔ c = 46 ∧ 0 < s.2.1 ∧ s.1 < 24 := by
  unfold q2
  simp only [Bool.and_eq_true, nbq, decide_eq_true_eq]
theorem q3_iff {c : Nat} {s : mS} : q3 c s = true ↔ c = 68 ∧ s.2.2.1 = false ∧ s.2.1 = 0 ∧ 0 < s.1 ∧ 2 * s.1 ≤ 24 := by
  unfold q3
  simp only [Bool.and_eq_true, nbq, decide_eq_true_eq, Bool.not_eq_true']
theorem mst_I {c : Nat} {s s' : mS} (h : MI s) (e : mst c s = some s') : MI s' ∧ dg c = decide (0 < s'.2.1) ∧ ((c = 68) ↔ s'.2.2.1 = true) := by
  obtain ⟨n, v, d, f⟩ := s
  obtain ⟨h1, h2, h3, h4, h5, h6⟩ := h
  dsimp only at h1 h2 h3 h4 h5 h6
  unfold mst at e
  by_cases c1 : q1 c (n, v, d, f) = true
  · rw [if_pos c1] at e
    obtain ⟨⟨a1, a2⟩, a3, a4, a5⟩ := q1_iff.mp c1
    dsimp only at a3 a4 a5 e
    cases e
    have hdg : dg c = true := by unfold dg; simp [a1, a2]
    refine ⟨?_, by rw [hdg]; exact (decide_eq_true a3).symm, ⟨fun z => by omega, fun z => by cases z⟩⟩
    by_cases z : v = 0
    · rw [if_pos z, if_pos z]
      have := h4 z
      refine ⟨by omega, a4, fun _ => ⟨by omega, updN_eq _ _ _, rfl⟩, fun q => absurd q (by dsimp only; omega), fun i hi => ?_, fun q => by cases q⟩
      dsimp only at hi ⊢
      by_cases w : i = n
      · subst w; rw [updN_eq]; omega
      · rw [updN_ne w]; exact h5 i (by omega)
    · rw [if_neg z, if_neg z]
      have := h3 (by omega)
      refine ⟨h1, a4, fun _ => ⟨this.1, updN_eq _ _ _, rfl⟩, fun q => absurd q (by dsimp only; omega), fun i hi => ?_, fun q => by cases q⟩
      dsimp only at hi ⊢
      by_cases w : i = n - 1
      · subst w; rw [updN_eq]; omega
      · rw [updN_ne w]; exact h5 i (by omega)
  · rw [if_neg c1] at e
    by_cases c2 : q2 c (n, v, d, f) = true
    · rw [if_pos c2] at e
      obtain ⟨rfl, a2, a3⟩ := q2_iff.mp c2
      dsimp only at a2 a3 e
      cases e
      have := h3 a2
      refine ⟨⟨h1, Nat.zero_le _, fun q => absurd q (Nat.not_lt_zero _), fun _ => a3, h5, h6⟩, rfl, ⟨fun z => by omega, fun z => ?_⟩⟩
      dsimp only at z
      rw [this.2.2] at z; cases z
    · rw [if_neg c2] at e
      by_cases c3 : q3 c (n, v, d, f) = true
      · rw [if_pos c3] at e
        obtain ⟨rfl, a2, a3, a4, a5⟩ := q3_iff.mp c3
        dsimp only at a2 a3 a4 a5 e
        cases e
        subst a3
        exact ⟨⟨h1, h2, fun q => absurd q (Nat.not_lt_zero _), h4, h5, fun _ => ⟨a4, a5⟩⟩, rfl, ⟨fun _ => rfl, fun _ => rfl⟩⟩
      · rw [if_neg c3] at e; cases e
theorem MI_0 : MI (0, 0, false, fun _ => 0) := ⟨by decide, by decide, fun q => absurd q (Nat.not_lt_zero _), fun _ => by decide, fun i hi => absurd hi (Nat.not_lt_zero _), fun q => by cases q⟩
theorem mrn_I {t : Nat → Nat} : ∀ k s, mrn t k = some s → MI s := by
  intro k
  induction k with
  | zero => intro s e; cases e; exact MI_0
  | succ k ih =>
    intro s e
    rw [mrn, Option.bind_eq_some_iff] at e
    obtain ⟨s0, e1, e2⟩ := e
    exact (mst_I (ih s0 e1) e2).1
theorem mrn_pre {t : Nat → Nat} {k : Nat} : ∀ d, mrn t k = none → mrn t (k + d) = none := by
  intro d
  induction d with
  | zero => exact id
  | succ d ih => intro e; rw [← Nat.add_assoc, mrn, ih e]; rfl
/-- where the reading ends, and in which state -/
def Fin_ (t : Nat → Nat) (L k : Nat) (s : mS) : Prop := mrn t k = some s ∧ k ≤ L ∧ (k = L ∨ mst (t k) s = none)
theorem Fin_u {t : Nat → Nat} {L k k' : Nat} {s s' : mS} (h : Fin_ t L k s) (h' : Fin_ t L k' s') : k = k' ∧ s = s' := by
  have key : ∀ k k' s s', Fin_ t L k s → Fin_ t L k' s' → ¬ k < k' := by
    intro k k' s s' h h' hk
    obtain ⟨a, b, c⟩ := h
    obtain ⟨a', b', c'⟩ := h'
    have e : mst (t k) s = none := by
      rcases c with c | c
      · omega
      · exact c
    have := mrn_pre (t := t) (k := k + 1) (k' - (k + 1)) (by rw [mrn, a]; exact e)
    rw [show k + 1 + (k' - (k + 1)) = k' from by omega, a'] at this
    cases this
  have e : k = k' := by
    have := key k k' s s' h h'
    have := key k' k s' s h' h
    omega
  subst e
  refine ⟨rfl, ?_⟩
  have := h.1.symm.trans h'.1
  exact Option.some.inj this
theorem Fin_ex (t : Nat → Nat) (L : Nat) : ∃ k s, Fin_ t L k s := by
  have key : ∀ d k s, k + d = L → mrn t k = some s → ∃ k s, Fin_ t L k s := by
    intro d
    induction d with
    | zero => intro k s h e; exact ⟨k, s, e, by omega, Or.inl (by omega)⟩
    | succ d ih =>
      intro k s h e
      cases z : mst (t k) s with
      | none => exact ⟨k, s, e, by omega, Or.inr z⟩
      | some s' => exact ih (k + 1) s' (by omega) (by rw [mrn, e]; exact z)
  exact key L 0 _ (by omega) rfl
/-! the class -/
theorem m_go : ∀ c : Fin 128, ∀ v : Fin 21, (if In_isDigit (n3 c.val) hM0 = true then In_goesOn (n3 v.val) (n3 c.val) hM0 else false) = pg c.val v.val := by decide +kernel
theorem m_cd : ∀ n : Fin 25, In_canDouble (n3 n.val) hM0 = (decide (0 < n.val) && decide (2 * n.val ≤ 24)) := by decide +kernel
theorem m_dg : ∀ c : Fin 128, In_isDigit (n3 c.val) hM0 = dg c.val := by decide +kernel
theorem In_errorAsMetre_ok {t : Nat → Nat} {L k0 : Nat} {s0 : mS} {M : hyM} (h : inb_ t L M) (hF : Fin_ t L k0 s0) : In_errorAsMetre M = some (n3 k0) := by
  obtain ⟨h1, h2, h3, h4⟩ := id h
  have key := lpI (σ := Int32 × Int32 × Bool × Int32) (fun f s => In_errorAsMetre_L9 M f s.1 s.2.1 s.2.2.1 s.2.2.2) (fun k s => ∃ q, mrn t k = some q ∧ s.1 = n3 q.1 ∧ s.2.1 = n3 q.2.1 ∧ s.2.2.1 = q.2.2.1 ∧ s.2.2.2 = n3 k) L (fun r => r = .inl (n3 k0) ∨ (k0 = L ∧ ∃ y, r = .inr y)) ?_ ?_ hyFu 0 (n3 0, n3 0, false, n3 0) (Nat.zero_le _) (hyFu_big (by omega)) ⟨_, rfl, rfl, rfl, rfl, rfl⟩
  · obtain ⟨r, e1, e2⟩ := key
    dsimp only at e1
    rw [In_errorAsMetre, show (0 : Int32) = n3 0 from rfl, e1, Option.bind_some]
    rcases e2 with rfl | ⟨rfl, ⟨y1, y2, y3, y4⟩, rfl⟩
    · rfl
    · dsimp only; rw [h2]
  · rintro f k ⟨x1, x2, x3, x4⟩ hk ⟨⟨n, v, d, g⟩, hq, rfl, rfl, e3, rfl⟩
    have e3 : d = x3 := e3.symm
    subst e3
    obtain ⟨i1, i2, i3, i4, i5, i6⟩ := mrn_I k _ hq
    have hc := h4 k
    dsimp only at i1 i2 i3 i4 i5 i6 ⊢
    have k1 : (if (if In_isDigit (n3 (t k)) M = true then (if d = true then false else In_goesOn (n3 v) (n3 (t k)) M) else false) = true then true else false) = q1 (t k) (n, v, d, g) := by
      have := m_go ⟨t k, hc⟩ ⟨v, by omega⟩
      show _ = (pg (t k) v && !d)
      rw [← this]
      cases d
      · show (if (if In_isDigit (n3 (t k)) hM0 = true then In_goesOn (n3 v) (n3 (t k)) hM0 else false) = true then true else false) = _
        cases (if In_isDigit (n3 (t k)) hM0 = true then In_goesOn (n3 v) (n3 (t k)) hM0 else false) <;> rfl
      · show (if (if In_isDigit (n3 (t k)) hM0 = true then false else false) = true then true else false) = _
        rw [Bool.not_true, Bool.and_false]
        cases In_isDigit (n3 (t k)) hM0 <;> rfl
    have k1' : (if In_isDigit (n3 (t k)) M = true then (if d = true then false else In_goesOn (n3 v) (n3 (t k)) M) else false) = q1 (t k) (n, v, d, g) := by
      rw [← k1]; cases (if In_isDigit (n3 (t k)) M = true then (if d = true then false else In_goesOn (n3 v) (n3 (t k)) M) else false) <;> rfl
    have k2 : (if n3 (t k) = 46 then (if n3 v ≤ 0 then false else (!decide (24 ≤ n3 n))) else false) = q2 (t k) (n, v, d, g) := by
      rw [show (46 : Int32) = n3 46 from rfl, l_0, l_24, ite_eq (by omega) (by omega), ite_le (by omega) (by omega), dec_le (by omega) (by omega)]
      unfold q2
      by_cases z : t k = 46
      · rw [if_pos z, show Nat.beq (t k) 46 = true from by rw [z]; rfl, Bool.true_and]
        by_cases z2 : v ≤ 0
        · rw [if_pos z2, show decide (0 < v) = false from decide_eq_false (by omega)]; rfl
        · rw [if_neg z2, show decide (0 < v) = true from decide_eq_true (by omega), Bool.true_and]
          by_cases z3 : 24 ≤ n
          · rw [decide_eq_true z3, show decide (n < 24) = false from decide_eq_false (by omega)]; rfl
          · rw [decide_eq_false z3, show decide (n < 24) = true from decide_eq_true (by omega)]; rfl
      · rw [if_neg z, show Nat.beq (t k) 46 = false from nbf z]; rfl
    have k3 : (if n3 (t k) = 68 then (if d = true then false else (if n3 v = 0 then (In_canDouble (n3 n) M) else false)) else false) = q3 (t k) (n, v, d, g) := by
      have := m_cd ⟨n, by omega⟩
      rw [show In_canDouble (n3 n) M = _ from this, show (68 : Int32) = n3 68 from rfl, l_0, ite_eq (by omega) (by omega), ite_eq (by omega) (by omega)]
      unfold q3
      by_cases z : t k = 68
      · rw [if_pos z, show Nat.beq (t k) 68 = true from by rw [z]; rfl, Bool.true_and]
        cases d
        · rw [if_neg (by decide)]
          by_cases z2 : v = 0
          · rw [if_pos z2, show Nat.beq v 0 = true from by rw [z2]; rfl]; rfl
          · rw [if_neg z2, show Nat.beq v 0 = false from nbf z2]; rfl
        · rw [if_pos rfl]; rfl
      · rw [if_neg z, show Nat.beq (t k) 68 = false from nbf z]; rfl
    rw [In_errorAsMetre_L9, h2, if_neg (by rw [n3_le (by omega) (by omega)]; omega), In_codeAt_eq h (by omega), k1', k2, k3]
    by_cases c1 : q1 (t k) (n, v, d, g) = true
    · rw [if_pos c1]
      have hm : mst (t k) (n, v, d, g) = _ := if_pos c1
      obtain ⟨⟨a1, a2⟩, a3, a4, a5⟩ := q1_iff.mp c1
      dsimp only at a3 a4 a5
      refine Or.inl ⟨(n3 n + Hp_flag (decide (n3 v = 0)) M, 10 * n3 v + (n3 (t k) - 48), d, n3 k + 1), rfl, _, by rw [mrn, hq]; exact hm, ?_, ?_, ?_, n3_s _⟩
      · dsimp only
        unfold Hp_flag
        rw [l_0, dec_eq (by omega) (by omega)]
        by_cases z : v = 0
        · rw [if_pos z, decide_eq_true z]; exact n3_s _
        · rw [if_neg z, decide_eq_false z]; show n3 n + n3 0 = n3 n; rw [n3_add]; rfl
      · dsimp only
        rw [l_10, show (48 : Int32) = n3 48 from rfl, n3_sub a1, n3_mul, n3_add]
      · exact a5
    · rw [if_neg c1]
      by_cases c2 : q2 (t k) (n, v, d, g) = true
      · rw [if_pos c2]
        have hm : mst (t k) (n, v, d, g) = _ := (if_neg c1).trans (if_pos c2)
        refine Or.inl ⟨(n3 n, 0, d, n3 k + 1), rfl, _, by rw [mrn, hq]; exact hm, rfl, rfl, rfl, n3_s _⟩
      · rw [if_neg c2]
        by_cases c3 : q3 (t k) (n, v, d, g) = true
        · rw [if_pos c3]
          have hm : mst (t k) (n, v, d, g) = _ := (if_neg c1).trans ((if_neg c2).trans (if_pos c3))
          refine Or.inl ⟨(n3 n, n3 v, true, n3 k + 1), rfl, _, by rw [mrn, hq]; exact hm, rfl, rfl, rfl, n3_s _⟩
        · rw [if_neg c3]
          have hm : mst (t k) (n, v, d, g) = none := (if_neg c1).trans ((if_neg c2).trans (if_neg c3))
          have := (Fin_u hF ⟨hq, by omega, Or.inr hm⟩).1
          subst this
          exact Or.inr ⟨_, rfl, Or.inl rfl⟩
  · rintro f ⟨x1, x2, x3, x4⟩ ⟨⟨n, v, d, g⟩, hq, rfl, rfl, e3, rfl⟩
    have e3 : d = x3 := e3.symm
    subst e3
    dsimp only
    rw [In_errorAsMetre_L9, h2, if_pos (by rw [n3_le (by omega) (by omega)]; omega)]
    exact ⟨_, rfl, Or.inr ⟨(Fin_u hF ⟨hq, Nat.le_refl _, Or.inl rfl⟩).1, _, rfl⟩⟩
