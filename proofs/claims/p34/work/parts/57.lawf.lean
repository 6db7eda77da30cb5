/-! The law's fitting of verses, its words of a line. -/
theorem due_some {A : aS} {k p : Nat} (h : (LA A)[k]? = some p) : due A k = sly (eA A) (sA A) (A 30 2) p := by
  unfold due
  rw [h]
theorem La_fit_ok {A : aS} {M : hyM} (hW : WFA A) (h : LT A M) (hl : LL A M) (hs : LSu A M) {v : Nat} (hv : v < 4) : La_fit (n3 v) (n3 (LA A).length) M = some (fitV A v) := by
  have h24 := hs.1
  have hm := mA_le A
  have hN := h.1
  have key : ∀ d f k, k + d = 24 → d < f → La_fit_L3 (n3 v) (n3 (LA A).length) M f (n3 k) = some (match fsr (misf A v) d k with | some q => .inl (n3 q) | none => .inr (n3 24)) := by
    intro d
    induction d with
    | zero =>
      intro f k hk hf
      obtain ⟨f, rfl⟩ : ∃ g, f = g + 1 := ⟨f - 1, by omega⟩
      have : k = 24 := by omega
      subst this
      rw [La_fit_L3, if_neg (show ¬ n3 24 < 24 by decide), dec_le (by omega) (by omega), decide_eq_true (show (LA A).length ≤ 24 from h24), if_neg (by decide)]
      rfl
    | succ d ih =>
      intro f k hk hf
      obtain ⟨f, rfl⟩ : ∃ g, f = g + 1 := ⟨f - 1, by omega⟩
      have hrec := ih f (k + 1) (by omega) (by omega)
      have hns : nsS (rwT A (v * 24 + k)) (rwL A (v * 24 + k)) ≤ 30 := ns_le (hW.2.2.2.1 (v * 24 + k))
      have hdl := due_le hW k
      have tail : ∀ w : Int32, LIw w (rwT A (v * 24 + k)) (rwL A (v * 24 + k)) → (if n3 (LA A).length ≤ n3 k then (La_size w M).bind fun v8 => (if v8 = 0 then La_fit_L3 (n3 v) (n3 (LA A).length) M f (n3 k + 1) else some (.inl (n3 k))) else (ldE 30 (M.1 34) (n3 k)).bind fun v10 => (La_first v10 M).bind fun v11 => (ldE 30 (M.1 34) (n3 k)).bind fun v12 => (La_last v12 M).bind fun v13 => (La_syllables v11 v13 M).bind fun v14 => (La_size w M).bind fun v15 => (if v15 = v14 then La_fit_L3 (n3 v) (n3 (LA A).length) M f (n3 k + 1) else some (.inl (n3 k)))) = if misf A v k = true then some (.inl (n3 k)) else La_fit_L3 (n3 v) (n3 (LA A).length) M f (n3 (k + 1)) := by
        intro w hw
        have h6 := LIw_ns hw
        rw [ite_le (by omega) (by omega), n3_s]
        unfold misf
        by_cases c : (LA A).length ≤ k
        · rw [if_pos c, La_size_ok hw, Option.bind_some, l_0, ite_eq (by omega) (by omega), due_none c]
          by_cases e : nsS (rwT A (v * 24 + k)) (rwL A (v * 24 + k)) = 0
          · rw [if_pos e, decide_eq_true e, if_neg (by decide)]
          · rw [if_neg e, decide_eq_false e, if_pos (by decide)]
        · have hk2 : k < (LA A).length := by omega
          have hkp := List.getElem?_eq_getElem hk2
          have hpm : (LA A)[k] < mA A := LA_mem hW (List.getElem_mem hk2)
          have hd2 := due_some hkp
          rw [if_neg c, ldE_in _ (by omega) (by decide), hs.2 k _ hkp, Option.bind_some, La_first_ok hW h hpm, Option.bind_some, Option.bind_some, La_last_ok hW h hpm, Option.bind_some, La_syl_ok hW h hpm, Option.bind_some, La_size_ok hw, Option.bind_some, ← hd2, ite_eq (by omega) (by omega)]
          by_cases e : nsS (rwT A (v * 24 + k)) (rwL A (v * 24 + k)) = due A k
          · rw [if_pos e, decide_eq_true e, if_neg (by decide)]
          · rw [if_neg e, decide_eq_false e, if_pos (by decide)]
      have fin : (if misf A v k = true then some (.inl (n3 k)) else La_fit_L3 (n3 v) (n3 (LA A).length) M f (n3 (k + 1))) = some (match fsr (misf A v) (d + 1) k with | some q => .inl (n3 q) | none => .inr (n3 24)) := by
        rw [fsr]
        by_cases c : misf A v k = true
        · rw [if_pos c, if_pos c]
        · rw [if_neg c, if_neg c, hrec]
      rw [La_fit_L3, if_pos (show n3 k < 24 by rw [l_24, n3_lt (by omega) (by omega)]; omega), if_pos rfl]
      by_cases c : 8 ≤ k ∨ 2 ≤ v
      · rw [if_neg (show ¬ (if (8 : Int32) ≤ n3 k then false else (!decide ((2 : Int32) ≤ n3 v))) = true by
          rw [show (8 : Int32) = n3 8 from rfl, ite_le (by omega) (by omega), l_2, dec_le (by omega) (by omega)]
          by_cases c8 : 8 ≤ k
          · rw [if_pos c8]; decide
          · rw [if_neg c8, decide_eq_true (by omega)]; decide)]
        have h0 := hl.2 v k hv (by omega) (by omega)
        exact (tail 0 (by rw [h0]; exact LIw_0 _)).trans fin
      · rw [if_pos (show (if (8 : Int32) ≤ n3 k then false else (!decide ((2 : Int32) ≤ n3 v))) = true by
          rw [show (8 : Int32) = n3 8 from rfl, ite_le (by omega) (by omega), l_2, dec_le (by omega) (by omega), if_neg (by omega), decide_eq_false (by omega)]; rfl), show (8 : Int32) = n3 8 from rfl, n3_mul, n3_add, ldE_in _ (by omega) (by decide), Option.bind_some]
        exact (tail _ (hl.1 v k (by omega) (by omega))).trans fin
  rw [La_fit, show (0 : Int32) = n3 0 from rfl, key 24 hyFu 0 rfl (by decide), Option.bind_some]
  unfold fitV
  cases fsr (misf A v) 24 0 with
  | some q => rfl
  | none =>
    dsimp only
    rw [if_pos h24]
theorem La_words_ok {w : Int32} {t : Nat → Nat} {L : Nat} (h : LIw w t L) (M : hyM) : La_told_L475 M w hyFu 0 0 0 = some (n3 (cnt (fun j => !lkS t L j) (nsS t L)), n3 (mxN (szS t L) (nsS t L)), n3 (nsS t L)) := by
  have h6 := LIw_ns h
  refine lpE (fun f (s : Int32 × Int32 × Int32) => La_told_L475 M w f s.1 s.2.1 s.2.2) (fun j => (n3 (cnt (fun j => !lkS t L j) j), n3 (mxN (szS t L) j), n3 j)) (nsS t L) _ ?_ ?_ hyFu 0 (Nat.zero_le _) (hyFu_big (by omega))
  · intro f j hj
    try dsimp only
    have hz := LIw_szp h hj
    have hmx : mxN (szS t L) j ≤ 16 := mxN_le (fun i hi => by have := LIw_szp h (show i < nsS t L by omega); omega)
    rw [La_told_L475, La_size_ok h, Option.bind_some, if_neg (by rw [n3_le (by omega) (by omega)]; omega), LIw_en h hj, LIw_sz h hj, n3_mx (by omega) (by omega), bI_n3, n3_add, n3_s]
    rfl
  · intro f
    try dsimp only
    rw [La_told_L475, La_size_ok h, Option.bind_some, if_pos (by rw [n3_le (by omega) (by omega)]; omega)]
/-! The law's degrees, steps, ledger lines. -/
def mL (t : Nat) : hyM := (fun c k => if c = 30 ∧ k = 0 then n3 t else 0, fun _ _ => 0)
theorem ld30 {M : hyM} {t : Nat} (h : M.1 30 0 = n3 t) : ldE 6 (M.1 30) 0 = some (n3 t) := by
  rw [l_0, ldE_in _ (by decide) (by decide), h]
theorem La_deg_cg {M : hyM} {t : Nat} (h : M.1 30 0 = n3 t) (a : Int32) : La_degree a M = La_degree a (mL t) := by
  have h2 : (mL t).1 30 0 = n3 t := rfl
  have key : ∀ f x, La_degree_L2 a M f x = La_degree_L2 a (mL t) f x := by
    intro f
    induction f with
    | zero => intro x; rfl
    | succ f ih =>
      intro x
      rw [La_degree_L2, La_degree_L2, ld30 h, ld30 h2, Option.bind_some, Option.bind_some, ih]
      rfl
  rw [La_degree, La_degree, key]
theorem La_step_cg {M : hyM} {t : Nat} (h : M.1 30 0 = n3 t) (a : Int32) : La_step a M = La_step a (mL t) := by
  have h2 : (mL t).1 30 0 = n3 t := rfl
  rw [La_step, La_step, ld30 h, ld30 h2]
theorem La_stepOf_cg {M : hyM} {t : Nat} (h : M.1 30 0 = n3 t) (a : Int32) : La_stepOf a M = La_stepOf a (mL t) := by
  rw [La_stepOf, La_stepOf, La_deg_cg h]
  simp only [La_step_cg h]
/-- the degree of a pitch of the key, -1 of another one -/
def owT (t p : Nat) : Int32 := if raT t p = true then -1 else dgT t p
theorem k_own : ∀ t : Fin 12, ∀ p : Fin 49, La_degree (n3 (p.val + 36)) (mL t.val) = some (owT t.val (p.val + 36)) ∧ (raT t.val (p.val + 36) = true → La_degree (n3 (p.val + 36) - 1) (mL t.val) = some (dgT t.val (p.val + 36))) ∧ La_stepOf (n3 (p.val + 36)) (mL t.val) = some (n3 (stT t.val (p.val + 36))) ∧ decide (0 ≤ owT t.val (p.val + 36)) = !raT t.val (p.val + 36) ∧ (if 0 ≤ owT t.val (p.val + 36) then (if owT t.val (p.val + 36) = 6 then 3 else owT t.val (p.val + 36) - owT t.val (p.val + 36) / 3 * 3) else -1) = (if raT t.val (p.val + 36) = true then -1 else shT t.val (p.val + 36)) := by decide +kernel
theorem own_ok {M : hyM} {t p : Nat} (h : M.1 30 0 = n3 t) (ht : t < 12) (hp : 36 ≤ p ∧ p ≤ 84) : La_degree (n3 p) M = some (owT t p) ∧ (raT t p = true → La_degree (n3 p - 1) M = some (dgT t p)) ∧ La_stepOf (n3 p) M = some (n3 (stT t p)) ∧ decide (0 ≤ owT t p) = !raT t p ∧ (if 0 ≤ owT t p then (if owT t p = 6 then 3 else owT t p - owT t p / 3 * 3) else -1) = (if raT t p = true then -1 else shT t p) := by
  have k := k_own ⟨t, ht⟩ ⟨p - 36, by omega⟩
  dsimp only at k
  rw [show p - 36 + 36 = p by omega] at k
  rw [La_deg_cg h, La_deg_cg h, La_stepOf_cg h]
  exact k
theorem k_ledA : ∀ s : Fin 64, ∀ q : Fin 4, ((La_note_L336 (n3 s.val) hyFu 0 ((if (2 : Int32) ≤ n3 q.val then 25 else 37) - 2)).bind fun z => (La_note_L359 (n3 s.val) hyFu z.1 ((if (2 : Int32) ≤ n3 q.val then 25 else 37) + 10)).bind fun y => some y.1) = some (Ke_ledgerLines (n3 s.val) (n3 q.val / 2) hM0) := by decide +kernel
theorem k_ledB : ∀ s : Fin 64, ∀ q : Fin 4, ((La_note_L336b (n3 s.val) hyFu 0 ((if (2 : Int32) ≤ n3 q.val then 25 else 37) - 2)).bind fun z => (La_note_L359b (n3 s.val) hyFu z.1 ((if (2 : Int32) ≤ n3 q.val then 25 else 37) + 10)).bind fun y => some y.1) = some (Ke_ledgerLines (n3 s.val) (n3 q.val / 2) hM0) := by decide +kernel
/-! The law's parallels. -/
def LPi (A : aS) (M : hyM) : Prop := ∀ i p, i < A 30 2 → p < 4 → M.1 31 (5 * i + 1 + p) = n3 (A 32 (4 * i + p))
theorem k_d120 : ∀ a : Fin 49, ∀ b : Fin 49, n3 (a.val + 36) - n3 (b.val + 36) + 120 = n3 (a.val + 120 - b.val) := by decide +kernel
theorem d120 {u l : Nat} (hu : 36 ≤ u ∧ u ≤ 84) (hl : 36 ≤ l ∧ l ≤ 84) : (n3 u - n3 l + 120) - (n3 u - n3 l + 120) / 12 * 12 = n3 ((u + 60 - l) % 12) := by
  have k := k_d120 ⟨u - 36, by omega⟩ ⟨l - 36, by omega⟩
  dsimp only at k
  rw [show u - 36 + 36 = u by omega, show l - 36 + 36 = l by omega] at k
  rw [k, l_12, mod_n3 (by omega) (by decide)]
  congr 1
  omega
theorem par_bit {x u y v : Nat} (hx : 36 ≤ x ∧ x ≤ 84) (hu : 36 ≤ u ∧ u ≤ 84) (hy : 36 ≤ y ∧ y ≤ 84) (hv : 36 ≤ v ∧ v ≤ 84) (s b : Int32) :
    s ||| (if (if (((n3 x - n3 y) + 120) - ((n3 x - n3 y) + 120) / 12 * 12) = (((n3 u - n3 v) + 120) - ((n3 u - n3 v) + 120) / 12 * 12) then (if (((n3 x - n3 y) + 120) - ((n3 x - n3 y) + 120) / 12 * 12) = 0 then true else (decide ((((n3 x - n3 y) + 120) - ((n3 x - n3 y) + 120) / 12 * 12) = 7))) else false) then (if n3 x ≤ n3 u then (if n3 u ≤ n3 x then 0 else (if n3 v ≤ n3 y then 0 else b)) else (if n3 v < n3 y then b else (if n3 u ≤ n3 x then 0 else (if n3 v ≤ n3 y then 0 else b)))) else 0) = if prl x u y v = true then s ||| b else s := by
  rw [d120 hx hy, d120 hu hv, l_0, ite_eq (by omega) (by omega), ite_eq (by omega) (by omega), l_7, dec_eq (by omega) (by omega), ite_le (by omega) (by omega), ite_le (by omega) (by omega), ite_le (by omega) (by omega), ite_lt (by omega) (by omega)]
  unfold prl bwy
  by_cases c1 : (x + 60 - y) % 12 = (u + 60 - v) % 12
  · rw [if_pos c1, decide_eq_true c1, Bool.true_and]
    have e2 : (if (x + 60 - y) % 12 = 0 then true else decide ((x + 60 - y) % 12 = 7)) = (decide ((x + 60 - y) % 12 = 0) || decide ((x + 60 - y) % 12 = 7)) := by
      by_cases c2 : (x + 60 - y) % 12 = 0
      · rw [if_pos c2, decide_eq_true c2, Bool.true_or]
      · rw [if_neg c2, decide_eq_false c2, Bool.false_or]
    rw [e2]
    cases (decide ((x + 60 - y) % 12 = 0) || decide ((x + 60 - y) % 12 = 7)) with
    | false => rw [if_neg (by decide), Bool.and_false, if_neg (by decide)]; exact or0 s
    | true =>
      rw [if_pos rfl, Bool.and_true]
      by_cases c3 : x ≤ u
      · rw [if_pos c3, decide_eq_false (show ¬ u < x by omega), Bool.false_and, Bool.false_or]
        by_cases c4 : u ≤ x
        · rw [if_pos c4, decide_eq_false (show ¬ x < u by omega), Bool.false_and, if_neg (by decide)]; exact or0 s
        · rw [if_neg c4, decide_eq_true (show x < u by omega), Bool.true_and]
          by_cases c5 : v ≤ y
          · rw [if_pos c5, decide_eq_false (show ¬ y < v by omega), if_neg (by decide)]; exact or0 s
          · rw [if_neg c5, decide_eq_true (show y < v by omega), if_pos rfl]
      · rw [if_neg c3, decide_eq_true (show u < x by omega), Bool.true_and, decide_eq_false (show ¬ x < u by omega), Bool.false_and, Bool.or_false, if_pos (show u ≤ x by omega)]
        by_cases c5 : v < y
        · rw [if_pos c5, decide_eq_true c5, if_pos rfl]
        · rw [if_neg c5, decide_eq_false c5, if_neg (by decide)]; exact or0 s
  · rw [if_neg c1, decide_eq_false c1, Bool.false_and, Bool.and_false, if_neg (by decide), if_neg (by decide)]
    exact or0 s
theorem par_0 (c : Bool) (x y : Int32) (s b : Int32) : s ||| (if c then (if x ≤ x then (if x ≤ x then 0 else (if y ≤ y then 0 else b)) else (if y < y then b else (if x ≤ x then 0 else (if y ≤ y then 0 else b)))) else 0) = s := by
  rw [if_pos (Int32.le_refl x), if_pos (Int32.le_refl x)]
  cases c <;> exact or0 s
theorem La_parallels_ok {A : aS} {M : hyM} (hW : WFA A) (h : LT A M) (hp : LPi A M) {i : Nat} (hi : i < A 30 2) : La_parallels (n3 i) M = some (pmk (A 32) i) := by
  have hN := h.1
  have hg := hW.1.2.2.2.1
  have inner : ∀ a, a < 4 → ∀ x : Int32, La_parallels_L19 (n3 i) M (n3 a) hyFu x (n3 (prs a)) (n3 (a + 1)) = some (mI (fun j => pfn (A 32) i a (a + 1 + j)) x (prs a) (3 - a), n3 (prs (a + 1)), n3 4) := by
    intro a ha x
    have hpr := prs_le a (by omega)
    refine lpE (fun f (s : Int32 × Int32 × Int32) => La_parallels_L19 (n3 i) M (n3 a) f s.1 s.2.1 s.2.2) (fun j => (mI (fun j => pfn (A 32) i a (a + 1 + j)) x (prs a) j, n3 (prs a + j), n3 (a + 1 + j))) (3 - a) _ ?_ ?_ hyFu 0 (Nat.zero_le _) (hyFu_big (by omega))
    · intro f j hj
      dsimp only
      rw [La_parallels_L19, if_neg (show ¬ (4 : Int32) ≤ n3 (a + 1 + j) by rw [l_4, n3_le (by omega) (by omega)]; omega), show (5 : Int32) * n3 i = n3 (5 * i) from by rw [l_5, n3_mul], show n3 (5 * i) + 1 = n3 (5 * i + 1) from n3_s _, n3_add, n3_add, ldE_in _ (by omega) (by decide), ldE_in _ (by omega) (by decide), hp i a hi ha, hp i (a + 1 + j) hi (by omega), Option.bind_some, Option.bind_some, n3_s (prs a + j), n3_s (a + 1 + j)]
      by_cases c : i = 0
      · subst c
        rw [if_pos (show n3 0 = 0 from rfl), if_pos (show n3 0 = 0 from rfl), par_0]
        rfl
      · have hz : ¬ n3 i = 0 := by rw [l_0, n3_eq (by omega) (by omega)]; exact c
        have e1 := hp (i - 1) a (by omega) ha
        have e2 := hp (i - 1) (a + 1 + j) (by omega) (by omega)
        rw [show 5 * (i - 1) + 1 + a = 5 * i - 4 + a by omega] at e1
        rw [show 5 * (i - 1) + 1 + (a + 1 + j) = 5 * i - 4 + (a + 1 + j) by omega] at e2
        rw [if_neg hz, show n3 (5 * i) - 4 = n3 (5 * i - 4) from by rw [l_4, n3_sub (by omega)], n3_add, ldE_in _ (by omega) (by decide), e1, Option.bind_some, if_neg hz, n3_add, ldE_in _ (by omega) (by decide), e2, Option.bind_some, par_bit (hg _ (by omega)) (hg _ (by omega)) (hg _ (by omega)) (hg _ (by omega))]
        have e3 : pfn (A 32) i a (a + 1 + j) = prl (A 32 (4 * i + a)) (A 32 (4 * (i - 1) + a)) (A 32 (4 * i + (a + 1 + j))) (A 32 (4 * (i - 1) + (a + 1 + j))) := by
          unfold pfn
          rw [decide_eq_true (show 0 < i by omega), Bool.true_and]
        rw [← e3]
        rfl
    · intro f
      dsimp only
      rw [show a + 1 + (3 - a) = 4 by omega, show prs a + (3 - a) = prs (a + 1) from rfl]
      rw [La_parallels_L19, if_pos (by decide)]
  have key := lpE (fun f (s : Int32 × Int32 × Int32) => La_parallels_L7 (n3 i) M f s.1 s.2.1 s.2.2) (fun a => (mO (pfn (A 32) i) a, n3 (prs a), n3 a)) 4 (pmk (A 32) i, n3 6, n3 4) ?_ ?_ hyFu 0 (Nat.zero_le _) (hyFu_big (by omega))
  · dsimp only at key
    rw [La_parallels]
    rw [show mO (pfn (A 32) i) 0 = 0 from rfl, show n3 (prs 0) = 0 from rfl, show n3 0 = 0 from rfl] at key
    rw [key]
    rfl
  · intro f a ha
    dsimp only
    rw [La_parallels_L7, if_neg (show ¬ (4 : Int32) ≤ n3 a by rw [l_4, n3_le (by omega) (by omega)]; omega), n3_s, inner a ha, Option.bind_some]
    rfl
  · intro f
    dsimp only
    rw [La_parallels_L7, if_pos (by decide)]
    rfl
