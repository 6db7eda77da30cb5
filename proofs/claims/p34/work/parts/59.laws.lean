/-! The law's sung phrases. -/
def sucel (c _ : Nat) : Bool := Nat.beq c 34
theorem LT.fr {A : aS} {M N : hyM} (h : LT A M) (g1 : ∀ k, N.1 30 k = M.1 30 k) (g2 : ∀ k, N.1 31 k = M.1 31 k) : LT A N := ⟨h.1, by rw [g1]; exact h.2.1, fun i hi => by rw [g2]; exact h.2.2 i hi⟩
/-- the law's repeats and the state's -/
def LRp (A : aS) (M : hyM) : Prop := M.1 30 5 = n3 (A 30 7) ∧ A 30 7 ≤ 2 ∧ ∀ k, k < A 30 7 → M.1 32 (3 * k) = n3 (A 35 k) ∧ M.1 32 (3 * k + 1) = n3 (A 36 k) ∧ M.1 32 (3 * k + 2) = n3 (A 37 k)
theorem LR.rp {A : aS} {M : hyM} (h : LR A M) : LRp A M := ⟨h.2.2.2.1.2.2.2.2, h.2.2.2.2⟩
theorem LRp.fr {A : aS} {M N : hyM} (h : LRp A M) (g1 : N.1 30 5 = M.1 30 5) (g2 : ∀ k, N.1 32 k = M.1 32 k) : LRp A N := ⟨by rw [g1]; exact h.1, h.2.1, fun k hk => by rw [g2, g2, g2]; exact h.2.2 k hk⟩
def SUl (L : List Nat) (M : hyM) : Prop := ∀ i x, L[i]? = some x → M.1 34 i = n3 x
theorem SUl_push {L : List Nat} {x : Nat} {M : hyM} (h : SUl L M) : SUl (L ++ [x]) (wI M 34 L.length (n3 x)) := by
  intro i y hy
  rw [List.getElem?_append] at hy
  by_cases c : i < L.length
  · rw [if_pos c] at hy
    rw [rd_nk (by omega)]
    exact h i y hy
  · rw [if_neg c] at hy
    have hi : i - L.length = 0 := by
      by_cases d : i - L.length = 0
      · exact d
      · rw [List.getElem?_eq_none (by simp; omega)] at hy; cases hy
    have : i = L.length := by omega
    subst this
    rw [hi] at hy
    cases hy
    rw [rd_eq]
theorem La_sing_ok {L : List Nat} {M : hyM} {r τ a b la sk : Nat} (hS : SUl L M) (hr : r < 3) (hτ : τ < 2) (h1 : M.1 32 (3 * r + 1) = n3 la) (h2 : M.1 32 (3 * r + 2) = n3 sk) (hsk : sk ≤ la) (hb : b = if τ = 0 then la else la - sk) (hla : la < 1000) (ha : a ≤ b + 1) (hL : L.length + (b + 1 - a) ≤ 30) :
    ∃ y M', La_sung_L88 (n3 r) (n3 τ) hyFu (n3 L.length) (n3 a) M = some (n3 (L.length + (b + 1 - a)), y, M') ∧ SUl (L ++ rgN a (b + 1 - a)) M' ∧ frm sucel M M' := by
  have hbl : b ≤ la := by subst hb; split <;> omega
  have key := lpI (σ := Int32 × Int32 × hyM) (fun f s => La_sung_L88 (n3 r) (n3 τ) f s.1 s.2.1 s.2.2) (fun k s => s.1 = n3 (L.length + k) ∧ s.2.1 = n3 (a + k) ∧ SUl (L ++ rgN a k) s.2.2 ∧ frm sucel M s.2.2) (b + 1 - a) (fun z => z.1 = n3 (L.length + (b + 1 - a)) ∧ SUl (L ++ rgN a (b + 1 - a)) z.2.2 ∧ frm sucel M z.2.2) ?_ ?_ hyFu 0 (n3 L.length, n3 a, M) (Nat.zero_le _) (hyFu_big (by omega)) ⟨rfl, rfl, by rw [rgN, List.append_nil]; exact hS, frm.rf _ _⟩
  · obtain ⟨⟨z, y, N⟩, e1, rfl, e2, e3⟩ := key
    exact ⟨y, N, e1, e2, e3⟩
  · rintro f k ⟨x1, x2, M2⟩ hk ⟨rfl, rfl, hO, hF⟩
    refine Or.inl ?_
    dsimp only at hO hF ⊢
    have e1 : M2.1 32 (3 * r + 1) = n3 la := by rw [hF.2 _ _ rfl]; exact h1
    have e2 : M2.1 32 (3 * r + 2) = n3 sk := by rw [hF.2 _ _ rfl]; exact h2
    have hlen : (L ++ rgN a k).length = L.length + k := by rw [List.length_append, rgN_len]
    have g1 := SUl_push (x := a + k) hO
    rw [hlen] at g1
    rw [La_sung_L88, show (3 : Int32) * n3 r = n3 (3 * r) from by rw [l_3, n3_mul], n3_s, show n3 (3 * r) + 2 = n3 (3 * r + 2) from by rw [l_2, n3_add], ldE_in _ (by omega) (by decide), ldE_in _ (by omega) (by decide), e1, e2, Option.bind_some, Option.bind_some, l_0, ite_eq (by omega) (by omega), n3_sub (Nat.zero_le _), n3_sub hsk, stE_in _ _ _ (by omega) (by decide), Option.bind_some]
    refine ⟨(n3 (L.length + (k + 1)), n3 (a + (k + 1)), wI M2 34 (L.length + k) (n3 (a + k))), ?_, rfl, rfl, ?_, hF.w rfl⟩
    · by_cases c : τ = 0
      · rw [if_pos c] at hb
        rw [if_pos c, if_neg (by rw [n3_lt (by omega) (by omega)]; omega), n3_s, n3_s]
        rfl
      · rw [if_neg c] at hb
        rw [if_neg c, if_neg (by rw [n3_lt (by omega) (by omega)]; omega), n3_s, n3_s]
        rfl
    · dsimp only
      rw [rgN, ← List.append_assoc]
      exact g1
  · rintro f ⟨x1, x2, M2⟩ ⟨rfl, rfl, hO, hF⟩
    dsimp only at hO hF ⊢
    have e1 : M2.1 32 (3 * r + 1) = n3 la := by rw [hF.2 _ _ rfl]; exact h1
    have e2 : M2.1 32 (3 * r + 2) = n3 sk := by rw [hF.2 _ _ rfl]; exact h2
    rw [La_sung_L88, show (3 : Int32) * n3 r = n3 (3 * r) from by rw [l_3, n3_mul], n3_s, show n3 (3 * r) + 2 = n3 (3 * r + 2) from by rw [l_2, n3_add], ldE_in _ (by omega) (by decide), ldE_in _ (by omega) (by decide), e1, e2, Option.bind_some, Option.bind_some, l_0, ite_eq (by omega) (by omega), n3_sub (Nat.zero_le _), n3_sub hsk]
    by_cases c : τ = 0
    · rw [if_pos c] at hb
      rw [if_pos c, if_pos (by rw [n3_lt (by omega) (by omega)]; omega)]
      exact ⟨_, rfl, rfl, hO, hF⟩
    · rw [if_neg c] at hb
      rw [if_neg c, if_pos (by rw [n3_lt (by omega) (by omega)]; omega)]
      exact ⟨_, rfl, rfl, hO, hF⟩
theorem La_which_ok {A : aS} {M : hyM} (hW : WFA A) (hq : LRp A M) {p : Nat} (hp : p < mA A) :
    ∃ y, (∃ i, i < A 30 7 ∧ A 35 i = p ∧ La_sung_L22 (n3 p) M hyFu (-1) (n3 0) = some (n3 i, y)) ∨ ((∀ i, i < A 30 7 → A 35 i ≠ p) ∧ La_sung_L22 (n3 p) M hyFu (-1) (n3 0) = some (-1, y)) := by
  have hm := mA_lt hW
  have h2 := hq.2.1
  have key := lpI (σ := Int32 × Int32) (fun f s => La_sung_L22 (n3 p) M f s.1 s.2) (fun j s => s.2 = n3 j ∧ ((∃ i, i < j ∧ A 35 i = p ∧ s.1 = n3 i) ∨ ((∀ i, i < j → A 35 i ≠ p) ∧ s.1 = -1))) (A 30 7) (fun r => (∃ i, i < A 30 7 ∧ A 35 i = p ∧ r.1 = n3 i) ∨ ((∀ i, i < A 30 7 → A 35 i ≠ p) ∧ r.1 = -1)) ?_ ?_ hyFu 0 (-1, n3 0) (Nat.zero_le _) (hyFu_big (by omega)) ⟨rfl, Or.inr ⟨fun i hi => absurd hi (Nat.not_lt_zero _), rfl⟩⟩
  · obtain ⟨⟨x, y⟩, e1, e2⟩ := key
    dsimp only at e1 e2
    refine ⟨y, ?_⟩
    rw [e1]
    rcases e2 with ⟨i, a, b, rfl⟩ | ⟨a, rfl⟩
    · exact Or.inl ⟨i, a, b, rfl⟩
    · exact Or.inr ⟨a, rfl⟩
  · rintro f j ⟨x6, x7⟩ hj ⟨rfl, hi⟩
    refine Or.inl ?_
    have hbd := (hW.2.1.2 j).1
    dsimp only at hi ⊢
    rw [La_sung_L22, l_5, ldE_in _ (by decide) (by decide), hq.1, Option.bind_some, if_neg (by rw [n3_le (by omega) (by omega)]; omega), l_3, n3_mul, ldE_in _ (by omega) (by decide), Option.bind_some, (hq.2.2 j hj).1, ite_eq (by omega) (by omega), n3_s]
    by_cases c : A 35 j = p
    · rw [if_pos c]
      exact ⟨(_, _), rfl, rfl, Or.inl ⟨j, by omega, c, rfl⟩⟩
    · rw [if_neg c]
      refine ⟨(_, _), rfl, rfl, ?_⟩
      rcases hi with ⟨i, a, b, d⟩ | ⟨a, d⟩
      · exact Or.inl ⟨i, by omega, b, d⟩
      · refine Or.inr ⟨fun i hi => ?_, d⟩
        by_cases e : i = j
        · subst e; exact c
        · exact a i (by omega)
  · rintro f ⟨x6, x7⟩ ⟨rfl, hi⟩
    dsimp only at hi ⊢
    rw [La_sung_L22, l_5, ldE_in _ (by decide) (by decide), hq.1, Option.bind_some, if_pos (by rw [n3_le (by omega) (by omega)]; omega)]
    exact ⟨_, rfl, hi⟩
theorem La_sung_ok {A : aS} {M : hyM} (hW : WFA A) (h : LT A M) (hq : LRp A M) : ∃ M', La_sung M = some (n3 (LA A).length, M') ∧ SUl (LA A) M' ∧ frm sucel M M' ∧ (LA A).length ≤ 24 := by
  have hN := h.1
  have hmA := mA_le A
  have hwr := hW.2.1.1
  have hlenA := orl_len hwr (mA A)
  have h2 := hq.2.1
  have key := lpM (σ := Nat × hyM) (fun f s => La_sung_L6 f (n3 (orl (rpA A) s.1).length) (n3 s.1) s.2) (fun s => s.1 ≤ mA A ∧ bdy (rpA A) s.1 ∧ SUl (orl (rpA A) s.1) s.2 ∧ frm sucel M s.2) (fun s => mA A - s.1) (fun r => r.1 = n3 (LA A).length ∧ SUl (LA A) r.2.2 ∧ frm sucel M r.2.2) ?_ hyFu (0, M) ?_ ⟨Nat.zero_le _, fun i _ => Or.inr (Nat.zero_le _), (fun i x hx => by cases hx), frm.rf _ _⟩
  · obtain ⟨⟨z, y, M'⟩, e1, rfl, e2, e3⟩ := key
    refine ⟨M', ?_, e2, e3, by show (orl (rpA A) (mA A)).length ≤ 24; omega⟩
    rw [La_sung, show (0 : Int32) = n3 0 from rfl]
    rw [show La_sung_L6 hyFu (n3 0) (n3 0) M = some (n3 (LA A).length, y, M') from e1, Option.bind_some]
  · rintro f ⟨p, M4⟩ ⟨hp, hb, hS, hF⟩
    dsimp only at hp hb hS hF ⊢
    have hT4 : LT A M4 := h.fr (fun k => hF.2 _ _ rfl) (fun k => hF.2 _ _ rfl)
    have hq4 : LRp A M4 := hq.fr (hF.2 _ _ rfl) (fun k => hF.2 _ _ rfl)
    rw [La_sung_L6, La_phrases_ok hW hT4, Option.bind_some]
    by_cases hpm : p = mA A
    · refine Or.inr ?_
      rw [if_pos (by rw [n3_le (by omega) (by omega)]; omega)]
      rw [hpm] at hS ⊢
      exact ⟨_, rfl, rfl, hS, hF⟩
    · refine Or.inl ?_
      have hlt : p < mA A := by omega
      have hlen := orl_len hwr p
      rw [if_neg (by rw [n3_le (by omega) (by omega)]; omega)]
      obtain ⟨y, ⟨i, hi, hip, ee⟩ | ⟨hn, ee⟩⟩ := La_which_ok hW hq4 hlt
      · rw [show (0 : Int32) = n3 0 from rfl, ee, Option.bind_some]
        dsimp only
        obtain ⟨r1, r2, r3⟩ := hq4.2.2 i hi
        have hv : rv1 (mA A) (A 35 i) (A 36 i) (A 37 i) := hwr.2.1 i hi
        unfold rv1 at hv
        have hi2 : i < (rpA A).1 := hi
        have hseg := orl_seg hwr hi2 (A 36 i - A 35 i) (show A 35 i + (A 36 i - A 35 i) ≤ A 36 i by omega)
        have hseg : orl (rpA A) (A 35 i + (A 36 i - A 35 i)) = orl (rpA A) (A 35 i) ++ rgN (A 35 i) (A 36 i - A 35 i) := hseg
        rw [show A 35 i + (A 36 i - A 35 i) = A 36 i by omega] at hseg
        have hend : orl (rpA A) (A 36 i + 1) = orl (rpA A) (A 36 i) ++ [A 36 i] ++ aga (rpA A) i := orl_t hwr hi2
        rw [hseg] at hend
        have hlen1 := orl_len hwr (A 36 i + 1)
        have hrg : rgN (A 35 i) (A 36 i - A 35 i) ++ [A 36 i] = rgN p (A 36 i + 1 - p) := by
          rw [← hip, show A 36 i + 1 - A 35 i = (A 36 i - A 35 i) + 1 by omega, rgN, show A 35 i + (A 36 i - A 35 i) = A 36 i by omega]
        have hend2 : orl (rpA A) (A 36 i + 1) = orl (rpA A) p ++ rgN p (A 36 i + 1 - p) ++ rgN p (A 36 i - A 37 i + 1 - p) := by
          rw [hend, List.append_assoc (orl (rpA A) (A 35 i)), hrg, hip]
          unfold aga
          show _ ++ rgN (A 35 i) (A 36 i - A 37 i + 1 - A 35 i) = _
          rw [hip]
        have hlen2 : (orl (rpA A) p).length + (A 36 i + 1 - p) + (A 36 i - A 37 i + 1 - p) ≤ 24 := by
          rw [hend2] at hlen1
          simp only [List.length_append, rgN_len] at hlen1
          omega
        rw [if_pos (show n3 0 ≤ n3 i by rw [n3_le (by omega) (by omega)]; omega)]
        obtain ⟨y1, M15, b1, b2, b3⟩ := La_sing_ok (a := p) (b := A 36 i) (τ := 0) hS (show i < 3 by omega) (by decide) r2 r3 (by omega) (by rw [if_pos rfl]) (by omega) (by omega) (by omega)
        have f1 : M15.1 32 (3 * i + 1) = n3 (A 36 i) := by rw [b3.2 _ _ rfl]; exact r2
        have f2 : M15.1 32 (3 * i + 2) = n3 (A 37 i) := by rw [b3.2 _ _ rfl]; exact r3
        obtain ⟨y2, M18, c1, c2, c3⟩ := La_sing_ok (a := p) (b := A 36 i - A 37 i) (τ := 1) b2 (show i < 3 by omega) (by decide) f1 f2 (by omega) (by rw [if_neg (by decide)]) (by omega) (by omega) (by simp only [List.length_append, rgN_len]; omega)
        have hll : (orl (rpA A) p ++ rgN p (A 36 i + 1 - p)).length = (orl (rpA A) p).length + (A 36 i + 1 - p) := by rw [List.length_append, rgN_len]
        rw [hll] at c1
        have e0 : M4.1 32 (3 * i) = n3 p := by rw [r1, hip]
        have e15 : M15.1 32 (3 * i) = n3 p := by rw [b3.2 _ _ rfl]; exact e0
        have f18 : M18.1 32 (3 * i + 1) = n3 (A 36 i) := by rw [c3.2 _ _ rfl]; exact f1
        have i3 : (3 : Int32) * n3 i = n3 (3 * i) := by rw [l_3, n3_mul]
        have two : La_sung_L74 (n3 i) hyFu (n3 (orl (rpA A) p).length) (n3 0) M4 = some (n3 ((orl (rpA A) p).length + (A 36 i + 1 - p) + (A 36 i - A 37 i + 1 - p)), n3 2, M18) := by
          show La_sung_L74 (n3 i) (99997 + 1 + 1 + 1) (n3 (orl (rpA A) p).length) (n3 0) M4 = _
          rw [La_sung_L74, if_neg (by decide), i3, ldE_in _ (by omega) (by decide), e0, Option.bind_some, b1, Option.bind_some]
          dsimp only
          rw [La_sung_L74, n3_s, if_neg (by decide), i3, ldE_in _ (by omega) (by decide), e15, Option.bind_some, show n3 (0 + 1) = n3 1 from rfl, c1, Option.bind_some]
          dsimp only
          rw [La_sung_L74, n3_s, if_pos (by decide)]
        rw [two, Option.bind_some]
        dsimp only
        rw [i3, n3_s, ldE_in _ (by omega) (by decide), f18, Option.bind_some, n3_s]
        refine ⟨(A 36 i + 1, M18), ?_, ⟨by dsimp only; omega, fun j hj => ?_, ?_, (hF.trans b3).trans c3⟩, by dsimp only; omega⟩
        · dsimp only
          rw [hend2, List.length_append, List.length_append, rgN_len, rgN_len]
        · by_cases e : j = i
          · subst e; exact Or.inl (show A 36 j < A 36 j + 1 by omega)
          · have g := hwr.2.2 i j hi2 hj (by omega)
            have hv2 := hwr.2.1 j hj
            have g : A 36 i < A 35 j ∨ A 36 j < A 35 i := g
            have hv2 : A 35 j ≤ A 36 j ∧ A 36 j < mA A ∧ A 37 j ≤ A 36 j - A 35 j := hv2
            show A 36 j < A 36 i + 1 ∨ A 36 i + 1 ≤ A 35 j
            omega
        · dsimp only
          rw [hend2]
          exact c2
      · rw [show (0 : Int32) = n3 0 from rfl, ee, Option.bind_some]
        dsimp only
        rw [if_neg (by decide), stE_in _ _ _ (by omega) (by decide), Option.bind_some, n3_s, n3_s]
        have hof : orl (rpA A) (p + 1) = orl (rpA A) p ++ [p] := by
          refine orl_f (fun j hj => ?_)
          have g := hb j hj
          have g2 := hn j hj
          have hv2 := hwr.2.1 j hj
          have g : A 36 j < p ∨ p ≤ A 35 j := g
          have hv2 : A 35 j ≤ A 36 j ∧ A 36 j < mA A ∧ A 37 j ≤ A 36 j - A 35 j := hv2
          show A 36 j ≠ p
          omega
        refine ⟨(p + 1, wI M4 34 (orl (rpA A) p).length (n3 p)), ?_, ⟨by dsimp only; omega, fun j hj => ?_, ?_, hF.w rfl⟩, by dsimp only; omega⟩
        · dsimp only
          rw [hof, List.length_append]
          rfl
        · have g := hb j hj
          have g2 := hn j hj
          have g : A 36 j < p ∨ p ≤ A 35 j := g
          show A 36 j < p + 1 ∨ p + 1 ≤ A 35 j
          omega
        · dsimp only
          rw [hof]
          exact SUl_push hS
  · dsimp only
    unfold hyFu
    omega
/-! Repeats that are kept. -/
def stcel (c k : Nat) : Bool := Nat.beq c 32 || (Nat.beq c 30 && Nat.beq k 5)
theorem La_copy_ok {M : hyM} {p k : Nat} (hp : p ≤ k) (hk : k < 3) : ∃ M', La_settle_L35 (n3 p) (n3 k) hyFu 0 M = some (n3 3, M') ∧ M'.2 = M.2 ∧ (∀ c j, c ≠ 32 → M'.1 c j = M.1 c j) ∧ ∀ x, M'.1 32 x = if 3 * p ≤ x ∧ x < 3 * p + 3 then M.1 32 (3 * k + (x - 3 * p)) else M.1 32 x := by
  have key := lpI (σ := Int32 × hyM) (fun f s => La_settle_L35 (n3 p) (n3 k) f s.1 s.2) (fun j s => s.1 = n3 j ∧ s.2.2 = M.2 ∧ (∀ c j, c ≠ 32 → s.2.1 c j = M.1 c j) ∧ ∀ x, s.2.1 32 x = if 3 * p ≤ x ∧ x < 3 * p + j then M.1 32 (3 * k + (x - 3 * p)) else M.1 32 x) 3 (fun s => s.1 = n3 3 ∧ s.2.2 = M.2 ∧ (∀ c j, c ≠ 32 → s.2.1 c j = M.1 c j) ∧ ∀ x, s.2.1 32 x = if 3 * p ≤ x ∧ x < 3 * p + 3 then M.1 32 (3 * k + (x - 3 * p)) else M.1 32 x) ?_ ?_ hyFu 0 (n3 0, M) (Nat.zero_le _) (hyFu_big (by omega)) ⟨rfl, rfl, fun _ _ _ => rfl, fun x => by rw [if_neg (by omega)]⟩
  · obtain ⟨⟨x, M'⟩, e1, rfl, e2, e3, e4⟩ := key
    exact ⟨M', e1, e2, e3, e4⟩
  · rintro f j ⟨x, P⟩ hj ⟨rfl, i1, i2, i3⟩
    refine Or.inl ?_
    dsimp only at i1 i2 i3 ⊢
    have r1 : P.1 32 (3 * k + j) = M.1 32 (3 * k + j) := by rw [i3, if_neg (by omega)]
    rw [La_settle_L35, if_neg (show ¬ (3 : Int32) ≤ n3 j by rw [l_3, n3_le (by omega) (by omega)]; omega), show (3 : Int32) * n3 k = n3 (3 * k) from by rw [l_3, n3_mul], show (3 : Int32) * n3 p = n3 (3 * p) from by rw [l_3, n3_mul], n3_add, n3_add, ldE_in _ (by omega) (by decide), r1, Option.bind_some, stE_in _ _ _ (by omega) (by decide), Option.bind_some, n3_s]
    refine ⟨(n3 (j + 1), wI P 32 (3 * p + j) (M.1 32 (3 * k + j))), rfl, rfl, i1, fun c x hc => by rw [rd_ne hc]; exact i2 c x hc, fun x => ?_⟩
    dsimp only
    by_cases e : x = 3 * p + j
    · subst e
      rw [rd_eq, if_pos (by omega), show 3 * p + j - 3 * p = j by omega]
    · rw [rd_nk e, i3]
      by_cases q : 3 * p ≤ x ∧ x < 3 * p + j
      · rw [if_pos q, if_pos (by omega)]
      · rw [if_neg q, if_neg (by omega)]
  · rintro f ⟨x, P⟩ ⟨rfl, i1, i2, i3⟩
    dsimp only at i1 i2 i3 ⊢
    rw [La_settle_L35, if_pos (by decide)]
    exact ⟨_, rfl, rfl, i1, i2, i3⟩
theorem La_settle_ok {B : aS} {M : hyM} (hW : WFA (kpA B)) (hT : LT (kpA B) M) (h5 : M.1 30 5 = n3 (B 30 7)) (h2 : B 30 7 ≤ 2) (hb : ∀ i, B 35 i < 1000 ∧ B 36 i < 1000 ∧ B 37 i < 1000) (hq : ∀ k, k < B 30 7 → M.1 32 (3 * k) = n3 (B 35 k) ∧ M.1 32 (3 * k + 1) = n3 (B 36 k) ∧ M.1 32 (3 * k + 2) = n3 (B 37 k)) :
    ∃ M', La_settle M = some M' ∧ LRp (kpA B) M' ∧ frm stcel M M' := by
  have hm : mA B ≤ 40 := mA_lt (A := kpA B) hW
  have hbd := kst_bd3 (m := mA B) (q := rpA B) hb
  have key := lpI (σ := Int32 × Int32 × hyM) (fun f s => La_settle_L5 f s.1 s.2.1 s.2.2) (fun k s => s.1 = n3 (kst (mA B) (rpA B) k).1 ∧ s.2.1 = n3 k ∧ s.2.2.2 = M.2 ∧ (∀ c j, c ≠ 32 → s.2.2.1 c j = M.1 c j) ∧ ∀ j, j < B 30 7 → s.2.2.1 32 (3 * j) = n3 ((kst (mA B) (rpA B) k).2.1 j) ∧ s.2.2.1 32 (3 * j + 1) = n3 ((kst (mA B) (rpA B) k).2.2.1 j) ∧ s.2.2.1 32 (3 * j + 2) = n3 ((kst (mA B) (rpA B) k).2.2.2 j)) (B 30 7) (fun s => s.1 = n3 (kept (mA B) (rpA B)).1 ∧ s.2.2.2 = M.2 ∧ (∀ c j, c ≠ 32 → s.2.2.1 c j = M.1 c j) ∧ ∀ j, j < B 30 7 → s.2.2.1 32 (3 * j) = n3 ((kept (mA B) (rpA B)).2.1 j) ∧ s.2.2.1 32 (3 * j + 1) = n3 ((kept (mA B) (rpA B)).2.2.1 j) ∧ s.2.2.1 32 (3 * j + 2) = n3 ((kept (mA B) (rpA B)).2.2.2 j)) ?_ ?_ hyFu 0 (n3 0, n3 0, M) (Nat.zero_le _) (hyFu_big (by omega)) ⟨rfl, rfl, rfl, fun _ _ _ => rfl, hq⟩
  · obtain ⟨⟨x, y, P⟩, e1, rfl, e2, e3, e4⟩ := key
    dsimp only at e1 e2 e3 e4
    have hle : (kept (mA B) (rpA B)).1 ≤ B 30 7 := kst_le _ _ _
    refine ⟨wI P 30 5 (n3 (kept (mA B) (rpA B)).1), ?_, ⟨rd_eq _ _ _ _, show (kept (mA B) (rpA B)).1 ≤ 2 by omega, fun k hk => ?_⟩, ⟨e2, fun c k hc => ?_⟩⟩
    · rw [La_settle, show (0 : Int32) = n3 0 from rfl, e1, Option.bind_some]
      dsimp only
      rw [l_5, stE_in _ _ _ (by decide) (by decide), Option.bind_some]
    · have hk2 : k < (kept (mA B) (rpA B)).1 := hk
      rw [rd_ne (by decide), rd_ne (by decide), rd_ne (by decide)]
      exact e4 k (by omega)
    · unfold stcel at hc
      rw [Bool.or_eq_false_iff] at hc
      have c32 : c ≠ 32 := fun e => by rw [e] at hc; exact absurd hc.1 (by decide)
      rw [rd_wI, if_neg (fun z => by rw [z.1, z.2] at hc; exact absurd hc.2 (by decide))]
      exact e3 c k c32
  · rintro f k ⟨x, y, P⟩ hk ⟨rfl, rfl, i1, i2, i3⟩
    refine Or.inl ?_
    dsimp only at i1 i2 i3 ⊢
    have hle := kst_le (mA B) (rpA B) k
    have hTP : LT (kpA B) P := hT.fr (fun k => i2 _ _ (by decide)) (fun k => i2 _ _ (by decide))
    have hph : La_phrases P = some (n3 (mA B)) := La_phrases_ok (A := kpA B) hW hTP
    have hbk := (hbd k k).2.1
    rw [La_settle_L5, l_5, ldE_in _ (by decide) (by decide), i2 30 5 (by decide), h5, Option.bind_some, if_neg (by rw [n3_le (by omega) (by omega)]; omega), show (3 : Int32) * n3 k = n3 (3 * k) from by rw [l_3, n3_mul], n3_s (3 * k), ldE_in _ (by omega) (by decide), (i3 k hk).2.1, Option.bind_some, hph, Option.bind_some]
    by_cases c : (kst (mA B) (rpA B) k).2.2.1 k < mA B
    · rw [if_pos (by rw [n3_lt (by omega) (by omega)]; exact c)]
      obtain ⟨Q, q1, q2, q3, q4⟩ := La_copy_ok (M := P) (p := (kst (mA B) (rpA B) k).1) (k := k) hle (by omega)
      rw [q1, Option.bind_some]
      dsimp only
      rw [n3_s, n3_s]
      refine ⟨(n3 ((kst (mA B) (rpA B) k).1 + 1), n3 (k + 1), Q), rfl, ?_, rfl, q2.trans i1, fun c j hc => by rw [q3 c j hc]; exact i2 c j hc, fun j hj => ?_⟩
      · rw [kst_t c]
      · dsimp only
        rw [kst_t c]
        dsimp only
        obtain ⟨u1, u2, u3⟩ := i3 j hj
        obtain ⟨w1, w2, w3⟩ := i3 k hk
        by_cases e : j = (kst (mA B) (rpA B) k).1
        · rw [← e, updN_eq, updN_eq, updN_eq]
          rw [← e] at q4
          refine ⟨?_, ?_, ?_⟩
          · rw [q4, if_pos (by omega), show 3 * j - 3 * j = 0 by omega]; exact w1
          · rw [q4, if_pos (by omega), show 3 * j + 1 - 3 * j = 1 by omega]; exact w2
          · rw [q4, if_pos (by omega), show 3 * j + 2 - 3 * j = 2 by omega]; exact w3
        · rw [updN_ne e, updN_ne e, updN_ne e, q4, q4, q4, if_neg (by omega), if_neg (by omega), if_neg (by omega)]
          exact ⟨u1, u2, u3⟩
    · rw [if_neg (by rw [n3_lt (by omega) (by omega)]; exact c), n3_s]
      exact ⟨(n3 (kst (mA B) (rpA B) k).1, n3 (k + 1), P), rfl, by rw [kst_f c], rfl, i1, i2, by rw [kst_f c]; exact i3⟩
  · rintro f ⟨x, y, P⟩ ⟨rfl, rfl, i1, i2, i3⟩
    dsimp only at i1 i2 i3 ⊢
    rw [La_settle_L5, l_5, ldE_in _ (by decide) (by decide), i2 30 5 (by decide), h5, Option.bind_some, if_pos (by rw [n3_le (by omega) (by omega)]; omega)]
    exact ⟨_, rfl, rfl, i1, i2, i3⟩
