/-! The law's metre as a text; the nearest of the book. -/
/-- what the tune's metre has at k, as the law takes it -/
def ownM (A : aS) (k : Nat) : Nat := if k < (LA A).length then due A k else 1
/-- how many numbers the law writes -/
def nnM (A : aS) : Nat := if (LA A).length ≤ 0 then 2 else if 9 ≤ (LA A).length then 2 else (LA A).length
theorem nnM_le (A : aS) : 1 ≤ nnM A ∧ nnM A ≤ 8 := by
  unfold nnM
  split
  · omega
  · split <;> omega
theorem nnM_eq {A : aS} (h : (LA A).length ≤ 24) : (if n3 (LA A).length ≤ 0 then (2 : Int32) else (if 9 ≤ n3 (LA A).length then 2 else n3 (LA A).length)) = n3 (nnM A) := by
  unfold nnM
  rw [l_0, ite_le (by omega) (by omega)]
  by_cases c : (LA A).length ≤ 0
  · rw [if_pos c, if_pos c]; rfl
  · rw [if_neg c, if_neg c, show (9 : Int32) = n3 9 from rfl, ite_le (by omega) (by omega)]
    by_cases d : 9 ≤ (LA A).length
    · rw [if_pos d, if_pos d]; rfl
    · rw [if_neg d, if_neg d]
theorem ownM_bd {A : aS} (hW : WFA A) (hN : A 30 2 ≤ 12) (k : Nat) : 1 ≤ ownM A k ∧ ownM A k ≤ 12 := by
  unfold ownM
  split
  · rename_i h
    have h1 := due_pos hW h
    have hkp := List.getElem?_eq_getElem h
    have hpm : (LA A)[k] < mA A := LA_mem hW (List.getElem_mem h)
    have h2 := sly_le (eA A) (sA A) (n := A 30 2) hpm
    rw [due_some hkp] at h1 ⊢
    omega
  · omega
theorem M_text {A : aS} {C M : hyM} (hW : WFA A) (hC : CA A C) (hR : LR A M) (hs : LSu A M) (h0 : A 30 19 = 0) (x : Int32) :
    ∃ B C' M' far L sm, La_metres_L55 x (n3 (LA A).length) hyFu 0 0 0 C M = some (.inr (n3 far, n3 L, n3 (nnM A), C', M')) ∧ WFA B ∧ CA B C' ∧ sI A B ∧ B 30 19 = L ∧ L ≤ 24 ∧ mrn (B 42) L = some sm ∧ sm.1 = nnM A ∧ 0 < sm.2.1 ∧ sm.2.2.1 = false ∧ (∀ i, i < nnM A → M'.1 35 i = n3 (sm.2.2.2 i) ∧ ownM A i ≤ sm.2.2.2 i ∧ sm.2.2.2 i ≤ 14) ∧ far = smN (fun i => sm.2.2.2 i - ownM A i) (nnM A) ∧ ∀ c j, c ≠ 35 → M'.1 c j = M.1 c j := by
  have h24 := hs.1
  have hT := hR.1
  have hN := hT.1
  obtain ⟨hn1, hn8⟩ := nnM_le A
  have hnn := nnM_eq h24
  have key := lpI (σ := Int32 × Int32 × Int32 × hyM × hyM) (fun f s => La_metres_L55 x (n3 (LA A).length) f s.1 s.2.1 s.2.2.1 s.2.2.2.1 s.2.2.2.2)
    (fun k s => ∃ B far L sm, s.1 = n3 far ∧ s.2.1 = n3 L ∧ s.2.2.1 = n3 k ∧ WFA B ∧ CA B s.2.2.2.1 ∧ sI A B ∧ B 30 19 = L ∧ L ≤ 3 * k ∧ mrn (B 42) L = some sm ∧ sm.1 = k ∧ (sm.2.1 = 0 ↔ k = 0) ∧ sm.2.2.1 = false ∧ (∀ i, i < k → s.2.2.2.2.1 35 i = n3 (sm.2.2.2 i) ∧ ownM A i ≤ sm.2.2.2 i ∧ sm.2.2.2 i ≤ 14) ∧ far = smN (fun i => sm.2.2.2 i - ownM A i) k ∧ ∀ c j, c ≠ 35 → s.2.2.2.2.1 c j = M.1 c j) (nnM A)
    (fun r => ∃ B C' M' far L sm, r = .inr (n3 far, n3 L, n3 (nnM A), C', M') ∧ WFA B ∧ CA B C' ∧ sI A B ∧ B 30 19 = L ∧ L ≤ 24 ∧ mrn (B 42) L = some sm ∧ sm.1 = nnM A ∧ 0 < sm.2.1 ∧ sm.2.2.1 = false ∧ (∀ i, i < nnM A → M'.1 35 i = n3 (sm.2.2.2 i) ∧ ownM A i ≤ sm.2.2.2 i ∧ sm.2.2.2 i ≤ 14) ∧ far = smN (fun i => sm.2.2.2 i - ownM A i) (nnM A) ∧ ∀ c j, c ≠ 35 → M'.1 c j = M.1 c j)
    ?_ ?_ hyFu 0 (n3 0, n3 0, n3 0, C, M) (Nat.zero_le _) (hyFu_big (by omega)) ⟨A, 0, 0, (0, 0, false, fun _ => 0), rfl, rfl, rfl, hW, hC, sI.rf A, h0, Nat.zero_le _, rfl, rfl, ⟨fun _ => rfl, fun _ => rfl⟩, rfl, fun i hi => absurd hi (Nat.not_lt_zero _), rfl, fun _ _ _ => rfl⟩
  · obtain ⟨r, e, B, C', M', far, L, sm, rfl, q⟩ := key
    exact ⟨B, C', M', far, L, sm, e, q⟩
  · rintro f k ⟨x8, x9, x10, C2, M2⟩ hk ⟨B, far, L, sm, rfl, rfl, rfl, hW2, hC2, hI, hL, hL2, hm, m1, m2, m3, m4, m5, m6⟩
    refine Or.inl ?_
    dsimp only at hC2 hm m1 m2 m3 m4 m5 m6 ⊢
    have hT2 : LT A M2 := hT.fr (fun k => m6 _ _ (by decide)) (fun k => m6 _ _ (by decide))
    have hown := ownM_bd hW hN k
    obtain ⟨r, hr, er⟩ := at_ok (x >>> ((2 * n3 k) &&& 31)) (m := 3) (by decide) (by decide) M2
    have er : La_at (x >>> ((2 * n3 k) &&& 31)) 3 M2 = some (n3 r) := er
    have h35 : (wI M2 35 k (n3 (ownM A k + r))).1 35 k = n3 (ownM A k + r) := rd_eq _ _ _ _
    have hfar : far ≤ k * 14 := by
      rw [m5]
      exact smN_le (fun i hi => by have := m4 i hi; omega)
    obtain ⟨B', C', L', e1, w1, q1, g1, l1, l2, n1⟩ := mtl_ok (M := wI M2 35 k (n3 (ownM A k + r))) hW2 hC2 (fun y9 D => La_metres_L55 x (n3 (LA A).length) f (n3 (far + r)) y9 (n3 (k + 1)) D (wI M2 35 k (n3 (ownM A k + r)))) hL hL2 (show k < 9 by omega) hm m1 m2 m3 (w := ownM A k + r) (by omega) h35
    have goal : La_metres_L55 x (n3 (LA A).length) (f + 1) (n3 far) (n3 L) (n3 k) C2 M2 = La_metres_L55 x (n3 (LA A).length) f (n3 (far + r)) (n3 L') (n3 (k + 1)) C' (wI M2 35 k (n3 (ownM A k + r))) := by
      rw [La_metres_L55, hnn, if_neg (by rw [n3_le (by omega) (by omega)]; omega), ite_le (by omega) (by omega)]
      by_cases c : (LA A).length ≤ k
      · have ho : ownM A k = 1 := if_neg (by omega)
        rw [ho] at e1 h35 ⊢
        rw [if_pos c, er, Option.bind_some, show (1 : Int32) + n3 r = n3 (1 + r) by rw [l_1, n3_add], stE_in _ _ _ (by omega) (by decide), Option.bind_some, ldE_in _ (by omega) (by decide), h35, Option.bind_some, show n3 (1 + r) - 1 = n3 r by rw [l_1, n3_sub (by omega), Nat.add_sub_cancel_left], n3_add far r, n3_s k]
        rw [← e1]
        unfold mtl
        rw [ldE_in _ (by omega) (by decide), h35]
      · have ho : ownM A k = due A k := if_pos (by omega)
        have hk2 : k < (LA A).length := by omega
        have hkp := List.getElem?_eq_getElem hk2
        have hpm : (LA A)[k] < mA A := LA_mem hW (List.getElem_mem hk2)
        have hd2 := due_some hkp
        rw [ho] at e1 h35 ⊢
        rw [if_neg c, ldE_in _ (by omega) (by decide), m6 _ _ (by decide), hs.2 k _ hkp, Option.bind_some, La_first_ok hW hT2 hpm, Option.bind_some, Option.bind_some, La_last_ok hW hT2 hpm, Option.bind_some, La_syl_ok hW hT2 hpm, Option.bind_some, er, Option.bind_some, ← hd2, n3_add, stE_in _ _ _ (by omega) (by decide), Option.bind_some, ldE_in _ (by omega) (by decide), h35, Option.bind_some, n3_sub (by omega), Nat.add_sub_cancel_left, n3_add far r, n3_s k]
        rw [← e1]
        unfold mtl
        rw [ldE_in _ (by omega) (by decide), h35]
    refine ⟨(n3 (far + r), n3 L', n3 (k + 1), C', wI M2 35 k (n3 (ownM A k + r))), goal, B', far + r, L', (k + 1, ownM A k + r, false, updN sm.2.2.2 k (ownM A k + r)), rfl, rfl, rfl, w1, q1, hI.trans g1, l1, l2, n1, rfl, ?_, rfl, fun i hi => ?_, ?_, fun c j hc => ?_⟩
    · dsimp only
      omega
    · dsimp only
      by_cases e : i = k
      · subst e
        rw [updN_eq]
        exact ⟨h35, by omega, by omega⟩
      · rw [updN_ne e, rd_nk e]
        exact m4 i (by omega)
    · dsimp only
      rw [smN, updN_eq, Nat.add_sub_cancel_left, m5]
      congr 1
      exact smN_congr (fun i hi => by rw [updN_ne (by omega)])
    · dsimp only
      rw [rd_ne hc]
      exact m6 c j hc
  · rintro f ⟨x8, x9, x10, C2, M2⟩ ⟨B, far, L, sm, rfl, rfl, rfl, hW2, hC2, hI, hL, hL2, hm, m1, m2, m3, m4, m5, m6⟩
    dsimp only at hC2 hm m1 m2 m3 m4 m5 m6 ⊢
    rw [La_metres_L55, hnn, if_pos (by rw [n3_le (by omega) (by omega)]; omega)]
    refine ⟨_, rfl, B, C2, M2, far, L, sm, rfl, hW2, hC2, hI, hL, by omega, hm, m1, ?_, m3, m4, m5, m6⟩
    rcases Nat.eq_zero_or_pos sm.2.1 with z | z
    · have := m2.mp z; omega
    · exact z
/-! the nearest -/
def nbP (A : aS) (lo hi : Nat) (r : Option Nat) : Prop := match r with
  | none => ∀ m, lo ≤ m → m < hi → dsV A m = -1
  | some b => lo ≤ b ∧ b < hi ∧ dsV A b ≠ -1 ∧ ∀ m, lo ≤ m → m < hi → dsV A m ≠ -1 → dsV A b ≤ dsV A m ∧ (m < b → dsV A b < dsV A m)
theorem nbP_u {A : aS} {lo hi : Nat} : ∀ {r r' : Option Nat}, nbP A lo hi r → nbP A lo hi r' → r = r' := by
  intro r r' h h'
  cases r with
  | none =>
    cases r' with
    | none => rfl
    | some b => exact absurd (h b h'.1 h'.2.1) h'.2.2.1
  | some a =>
    cases r' with
    | none => exact absurd (h' a h.1 h.2.1) h.2.2.1
    | some b =>
      obtain ⟨a1, a2, a3, a4⟩ := h
      obtain ⟨b1, b2, b3, b4⟩ := h'
      have ha := a4 b b1 b2 b3
      have hb := b4 a a1 a2 a3
      rcases Nat.lt_trichotomy a b with c | c | c
      · exact absurd ha.1 (Int32.not_le.mpr (hb.2 c))
      · rw [c]
      · exact absurd hb.1 (Int32.not_le.mpr (ha.2 c))
theorem nbP_N (A : aS) : ∀ k, nbP A 0 k (nbN A k) := by
  intro k
  induction k with
  | zero => exact fun m _ h => absurd h (Nat.not_lt_zero _)
  | succ k ih =>
    rw [nbN]
    by_cases c : dsV A k = -1
    · rw [if_pos c]
      cases q : nbN A k with
      | none =>
        rw [q] at ih
        intro m _ h
        by_cases e : m = k
        · rw [e]; exact c
        · exact ih m (Nat.zero_le _) (by omega)
      | some b =>
        rw [q] at ih
        obtain ⟨a1, a2, a3, a4⟩ := ih
        refine ⟨a1, by omega, a3, fun m _ h hm => ?_⟩
        by_cases e : m = k
        · rw [e] at hm; exact absurd c hm
        · exact a4 m (Nat.zero_le _) (by omega) hm
    · rw [if_neg c]
      cases q : nbN A k with
      | none =>
        rw [q] at ih
        refine ⟨Nat.zero_le _, by omega, c, fun m _ h hm => ?_⟩
        by_cases e : m = k
        · rw [e]; exact ⟨Int32.le_refl _, fun z => absurd z (Nat.lt_irrefl _)⟩
        · exact absurd (ih m (Nat.zero_le _) (by omega)) hm
      | some b =>
        rw [q] at ih
        obtain ⟨a1, a2, a3, a4⟩ := ih
        dsimp only
        by_cases d : dsV A b ≤ dsV A k
        · rw [if_pos d]
          refine ⟨a1, by omega, a3, fun m _ h hm => ?_⟩
          by_cases e : m = k
          · rw [e]; exact ⟨d, fun z => by omega⟩
          · exact a4 m (Nat.zero_le _) (by omega) hm
        · rw [if_neg d]
          have d2 := Int32.not_le.mp d
          refine ⟨Nat.zero_le _, by omega, c, fun m _ h hm => ?_⟩
          by_cases e : m = k
          · rw [e]; exact ⟨Int32.le_refl _, fun z => absurd z (Nat.lt_irrefl _)⟩
          · have := (a4 m (Nat.zero_le _) (by omega) hm).1
            exact ⟨Int32.le_of_lt (Int32.lt_of_lt_of_le d2 this), fun _ => Int32.lt_of_lt_of_le d2 this⟩
theorem dsV_neg {A : aS} (hW : WFA A) {m : Nat} (hm : m < A 30 16) : (dsV A m < 0) ↔ dsV A m = -1 := by
  unfold dsV
  by_cases c : A 40 m = (LA A).length
  · have h1 := dsN_le hW hm c (LA A).length (Nat.le_refl _)
    have h2 := LA_len hW
    have h3 : dsN A m ≤ 80 * 60 := Nat.le_trans h1 (Nat.mul_le_mul_right 60 h2)
    rw [if_pos c, l_0, n3_lt (by omega) (by omega), n3_m1 (by omega)]
    simp
  · rw [if_neg c]
    exact ⟨fun _ => rfl, fun _ => by decide⟩
/-- where the law's search for the nearest stands -/
def dnI (j : Nat) : Int32 := if j = 0 then -1 else n3 (j - 1)
theorem oI_neg {b : Option Nat} (hb : ∀ i, b = some i → i < 1000) : (oI b < 0) ↔ b = none := by
  cases b with
  | none => exact ⟨fun _ => rfl, fun _ => (by decide : (-1 : Int32) < 0)⟩
  | some i =>
    have := hb i rfl
    show n3 i < 0 ↔ _
    rw [l_0, n3_lt (by omega) (by omega)]
    simp
theorem near_step {A : aS} (hW : WFA A) {j hi : Nat} (hh : hi ≤ A 30 16) (hj : j + 1 ≤ hi) {b : Option Nat} (h : nbP A (j + 1) hi b) :
    nbP A j hi (if dsV A j = -1 then b else match b with | none => some j | some i => if dsV A i < dsV A j then some i else some j) := by
  by_cases c : dsV A j = -1
  · rw [if_pos c]
    cases b with
    | none =>
      intro m h1 h2
      by_cases e : m = j
      · rw [e]; exact c
      · exact h m (by omega) h2
    | some i =>
      obtain ⟨a1, a2, a3, a4⟩ := h
      refine ⟨by omega, a2, a3, fun m h1 h2 hm => ?_⟩
      by_cases e : m = j
      · rw [e] at hm; exact absurd c hm
      · exact a4 m (by omega) h2 hm
  · rw [if_neg c]
    cases b with
    | none =>
      refine ⟨Nat.le_refl _, by omega, c, fun m h1 h2 hm => ?_⟩
      by_cases e : m = j
      · rw [e]; exact ⟨Int32.le_refl _, fun z => absurd z (Nat.lt_irrefl _)⟩
      · exact absurd (h m (by omega) h2) hm
    | some i =>
      obtain ⟨a1, a2, a3, a4⟩ := h
      dsimp only
      by_cases d : dsV A i < dsV A j
      · rw [if_pos d]
        refine ⟨by omega, a2, a3, fun m h1 h2 hm => ?_⟩
        by_cases e : m = j
        · rw [e]; exact ⟨Int32.le_of_lt d, fun _ => d⟩
        · exact a4 m (by omega) h2 hm
      · rw [if_neg d]
        have d2 := Int32.not_lt.mp d
        refine ⟨Nat.le_refl _, by omega, c, fun m h1 h2 hm => ?_⟩
        by_cases e : m = j
        · rw [e]; exact ⟨Int32.le_refl _, fun z => absurd z (Nat.lt_irrefl _)⟩
        · have := (a4 m (by omega) h2 hm).1
          exact ⟨Int32.le_trans d2 this, fun z => by omega⟩
theorem nbP_lt {A : aS} {lo hi : Nat} {b : Option Nat} (h : nbP A lo hi b) (hh : hi ≤ 8) : ∀ i, b = some i → i < 1000 := by
  intro i e
  subst e
  have := h.2.1
  omega
/-- both copies of the law's search -/
theorem near_loop {A : aS} {C : hyM} (hW : WFA A) (hC : CA A C) {st : Nat} (hst : st + 1 = A 30 16) (g : Nat → Int32 → Int32 → Option (Int32 × Int32))
    (hg : ∀ f a b, g (f + 1) a b = (if b < 0 then some (a, b) else ((Hp_distance b C).bind rt).bind fun v132 => (if v132 < 0 then g f a (b + (-1)) else (if a < 0 then g f b (b + (-1)) else ((Hp_distance b C).bind rt).bind fun v135 => ((Hp_distance a C).bind rt).bind fun v136 => g f (if v136 < v135 then a else b) (b + (-1)))))) :
    ∃ y, g hyFu (-1) (n3 st) = some (oI (nbN A (A 30 16)), y) := by
  have h8 := hW.2.2.2.2.1.1
  have key := lpI (σ := Int32 × Int32) (fun f s => g f s.1 s.2) (fun i s => s.2 = dnI (st + 1 - i) ∧ ∃ b, nbP A (st + 1 - i) (st + 1) b ∧ s.1 = oI b) (st + 1) (fun r => r.1 = oI (nbN A (A 30 16))) ?_ ?_ hyFu 0 (-1, n3 st) (Nat.zero_le _) (hyFu_big (by omega)) ⟨rfl, none, fun m h1 h2 => absurd h2 (by omega), rfl⟩
  · obtain ⟨⟨a, y⟩, e, rfl⟩ := key
    exact ⟨y, e⟩
  · rintro f i ⟨a, b⟩ hi ⟨rfl, bo, hb, rfl⟩
    refine Or.inl ?_
    dsimp only
    obtain ⟨j, hj⟩ : ∃ j, st + 1 - i = j + 1 := ⟨st - i, by omega⟩
    have hj2 : st + 1 - (i + 1) = j := by omega
    rw [hj] at hb ⊢
    rw [hj2]
    have hjm : j < A 30 16 := by omega
    have hd := g_distance hW hC hjm
    have hbo := nbP_lt hb (by omega)
    have hstep := near_step hW (show st + 1 ≤ A 30 16 by omega) (show j + 1 ≤ st + 1 by omega) hb
    have hdn : dnI (j + 1) = n3 j := rfl
    have hdn2 : n3 j + (-1) = dnI j := by
      unfold dnI
      by_cases c : j = 0
      · subst c; decide
      · rw [if_neg c, n3_dec (by omega)]
    rw [hdn, hg, if_neg (show ¬ n3 j < 0 by rw [l_0, n3_lt (by omega) (by omega)]; omega), hd, Option.bind_some, hdn2]
    by_cases c : dsV A j = -1
    · rw [if_pos c] at hstep
      rw [if_pos ((dsV_neg hW hjm).mpr c)]
      exact ⟨(oI bo, dnI j), rfl, rfl, bo, hstep, rfl⟩
    · rw [if_neg c] at hstep
      rw [if_neg (fun z => c ((dsV_neg hW hjm).mp z))]
      cases bo with
      | none =>
        rw [if_pos (show oI none < 0 by decide)]
        exact ⟨(n3 j, dnI j), rfl, rfl, some j, hstep, rfl⟩
      | some z =>
        have hz := hbo z rfl
        have hz2 : z < A 30 16 := by have := hb.2.1; omega
        rw [if_neg (fun q => by have := (oI_neg hbo).mp q; cases this), Option.bind_some, show oI (some z) = n3 z from rfl, g_distance hW hC hz2, Option.bind_some]
        refine ⟨((if dsV A z < dsV A j then n3 z else n3 j), dnI j), rfl, rfl, _, hstep, ?_⟩
        dsimp only
        by_cases d : dsV A z < dsV A j
        · rw [if_pos d, if_pos d]; rfl
        · rw [if_neg d, if_neg d]; rfl
  · rintro f ⟨a, b⟩ ⟨rfl, bo, hb, rfl⟩
    dsimp only
    rw [Nat.sub_self] at hb ⊢
    rw [hg, if_pos (show dnI 0 < 0 by decide)]
    refine ⟨_, rfl, ?_⟩
    dsimp only
    rw [hst] at hb
    rw [nbP_u hb (nbP_N A (A 30 16))]
