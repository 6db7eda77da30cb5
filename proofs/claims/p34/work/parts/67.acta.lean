/-! The law's act: a note that is added. -/
def mvW (q r : Nat) : Nat := if 40 ≤ q + r then (if q + r ≤ 88 then q + r - 4 else 84) else 36
theorem k_moved : ∀ q : Fin 49, ∀ r : Fin 9, La_moved (n3 (q.val + 36)) (n3 r.val - 4) hM0 = n3 (mvW (q.val + 36) r.val) := by decide +kernel
theorem moved_ok {q r : Nat} (hq : 36 ≤ q ∧ q ≤ 84) (hr : r < 9) (M : hyM) : La_moved (n3 q) (n3 r - 4) M = n3 (mvW q r) ∧ 36 ≤ mvW q r ∧ mvW q r ≤ 84 := by
  have k := k_moved ⟨q - 36, by omega⟩ ⟨r, hr⟩
  dsimp only at k
  rw [show q - 36 + 36 = q by omega] at k
  refine ⟨k, ?_⟩
  unfold mvW
  split
  · split <;> omega
  · omega
theorem act_addl {A : aS} {M M6 : hyM} (hW : WFA A) (hR : LR A M) (a2 a3 : Int32) (hn : A 30 2 < 12) (h6 : ∀ c k, ¬ (c = 31 ∧ k = 5 * A 30 2) → M6.1 c k = M.1 c k) (g : Nat → Int32 → hyM → Option (Int32 × hyM))
    (hg : ∀ f x7 M8, g (f + 1) x7 M8 = (if 4 ≤ x7 then some (x7, M8) else (ldE 6 (M8.1 30) 1).bind fun v10 =>
  (if v10 ≤ 0 then (La_at ((a3 >>> ((5 * x7) &&& 31)) + x7) 49 M8).bind fun v12 =>
  (stE M8 31 60 (((5 * n3 (A 30 2)) + 1) + x7) (36 + v12)).bind fun M13 =>
  g f (x7 + 1) M13 else (La_at (a2 >>> ((x7 + 4) &&& 31)) 3 M8).bind fun v14 =>
  (if v14 ≤ 0 then (La_at ((a3 >>> ((5 * x7) &&& 31)) + x7) 49 M8).bind fun v16 =>
  (stE M8 31 60 (((5 * n3 (A 30 2)) + 1) + x7) (36 + v16)).bind fun M17 =>
  g f (x7 + 1) M17 else (ldE 60 (M8.1 31) (((5 * n3 (A 30 2)) - 4) + x7)).bind fun v18 =>
  (La_at (a3 >>> ((3 * x7) &&& 31)) 9 M8).bind fun v19 =>
  (stE M8 31 60 (((5 * n3 (A 30 2)) + 1) + x7) (La_moved v18 (v19 - 4) M8)).bind fun M20 =>
  g f (x7 + 1) M20)))) :
    ∃ (y : Int32) (M' : hyM) (w : Nat → Nat), g hyFu 0 M6 = some (y, M') ∧ (∀ c k, ¬ (c = 31 ∧ 5 * A 30 2 < k) → M'.1 c k = M6.1 c k) ∧ ∀ p, p < 4 → M'.1 31 (5 * A 30 2 + 1 + p) = n3 (w p) ∧ 36 ≤ w p ∧ w p ≤ 84 := by
  have key := lpI (σ := Int32 × hyM) (fun f s => g f s.1 s.2) (fun p s => s.1 = n3 p ∧ (∀ c k, ¬ (c = 31 ∧ 5 * A 30 2 < k) → s.2.1 c k = M6.1 c k) ∧ ∃ w : Nat → Nat, ∀ q, q < p → s.2.1 31 (5 * A 30 2 + 1 + q) = n3 (w q) ∧ 36 ≤ w q ∧ w q ≤ 84) 4
    (fun r => (∀ c k, ¬ (c = 31 ∧ 5 * A 30 2 < k) → r.2.1 c k = M6.1 c k) ∧ ∃ w : Nat → Nat, ∀ q, q < 4 → r.2.1 31 (5 * A 30 2 + 1 + q) = n3 (w q) ∧ 36 ≤ w q ∧ w q ≤ 84)
    ?_ ?_ hyFu 0 (n3 0, M6) (Nat.zero_le _) (hyFu_big (by omega)) ⟨rfl, fun _ _ _ => rfl, fun _ => 0, fun q h => absurd h (Nat.not_lt_zero _)⟩
  · obtain ⟨⟨y, M'⟩, e, h1, w, h2⟩ := key
    exact ⟨y, M', w, e, h1, h2⟩
  · rintro f p ⟨x7, M8⟩ hp ⟨rfl, hf, w, hw⟩
    refine Or.inl ?_
    dsimp only at hf hw ⊢
    have h1 : M8.1 30 1 = n3 (A 30 2) := by rw [hf _ _ (fun z => absurd z.1 (by decide)), h6 _ _ (fun z => absurd z.1 (by decide))]; exact hR.1.2.1
    have hix : (5 : Int32) * n3 (A 30 2) + 1 + n3 p = n3 (5 * A 30 2 + 1 + p) := by rw [l_5, l_1, n3_mul, n3_add, n3_add]
    have fin : ∀ x, 36 ≤ x → x ≤ 84 → ∃ s' : Int32 × hyM, (stE M8 31 60 (((5 * n3 (A 30 2)) + 1) + n3 p) (n3 x)).bind (fun M13 => g f (n3 p + 1) M13) = g f s'.1 s'.2 ∧ s'.1 = n3 (p + 1) ∧ (∀ c k, ¬ (c = 31 ∧ 5 * A 30 2 < k) → s'.2.1 c k = M6.1 c k) ∧ ∃ w : Nat → Nat, ∀ q, q < p + 1 → s'.2.1 31 (5 * A 30 2 + 1 + q) = n3 (w q) ∧ 36 ≤ w q ∧ w q ≤ 84 := by
      intro x hx1 hx2
      refine ⟨(n3 (p + 1), wI M8 31 (5 * A 30 2 + 1 + p) (n3 x)), ?_, rfl, fun c k hc => ?_, updN w p x, fun q hq => ?_⟩
      · rw [hix, stE_in _ _ _ (by omega) (by decide), Option.bind_some, n3_s]
      · dsimp only
        rw [rd_wI, if_neg (fun z => hc ⟨z.1, by omega⟩)]
        exact hf c k hc
      · dsimp only
        by_cases e : q = p
        · subst e
          rw [rd_eq, updN_eq]
          exact ⟨rfl, hx1, hx2⟩
        · rw [rd_nk (by omega), updN_ne e]
          exact hw q (by omega)
    have new : ∃ x, 36 ≤ x ∧ x ≤ 84 ∧ (La_at ((a3 >>> ((5 * n3 p) &&& 31)) + n3 p) 49 M8).bind (fun v12 => (stE M8 31 60 (((5 * n3 (A 30 2)) + 1) + n3 p) (36 + v12)).bind fun M13 => g f (n3 p + 1) M13) = (stE M8 31 60 (((5 * n3 (A 30 2)) + 1) + n3 p) (n3 x)).bind (fun M13 => g f (n3 p + 1) M13) := by
      obtain ⟨r, hr, er⟩ := at_ok ((a3 >>> ((5 * n3 p) &&& 31)) + n3 p) (m := 49) (by decide) (by decide) M8
      have er : La_at ((a3 >>> ((5 * n3 p) &&& 31)) + n3 p) 49 M8 = some (n3 r) := er
      refine ⟨36 + r, by omega, by omega, ?_⟩
      rw [er, Option.bind_some, l_36, n3_add]
    obtain ⟨x, hx1, hx2, ex⟩ := new
    rw [hg, if_neg (show ¬ ((4 : Int32) ≤ n3 p) by rw [l_4, n3_le (by omega) (by omega)]; omega), ld_1, h1, Option.bind_some]
    by_cases c : n3 (A 30 2) ≤ 0
    · rw [if_pos c, ex]
      exact fin x hx1 hx2
    · have hn0 : 0 < A 30 2 := by
        rcases Nat.eq_zero_or_pos (A 30 2) with z | z
        · exfalso; apply c; rw [z]; decide
        · exact z
      obtain ⟨r1, hr1, er1⟩ := at_ok (a2 >>> ((n3 p + 4) &&& 31)) (m := 3) (by decide) (by decide) M8
      have er1 : La_at (a2 >>> ((n3 p + 4) &&& 31)) 3 M8 = some (n3 r1) := er1
      rw [if_neg c, er1, Option.bind_some]
      by_cases d : n3 r1 ≤ 0
      · rw [if_pos d, ex]
        exact fin x hx1 hx2
      · obtain ⟨r2, hr2, er2⟩ := at_ok (a3 >>> ((3 * n3 p) &&& 31)) (m := 9) (by decide) (by decide) M8
        have er2 : La_at (a3 >>> ((3 * n3 p) &&& 31)) 9 M8 = some (n3 r2) := er2
        have hpv : M8.1 31 (5 * A 30 2 - 4 + p) = n3 (A 32 (4 * (A 30 2 - 1) + p)) := by
          rw [hf _ _ (fun z => by omega), h6 _ _ (fun z => by omega), show 5 * A 30 2 - 4 + p = 5 * (A 30 2 - 1) + 1 + p by omega]
          exact hR.2.1 _ p (by omega) hp
        have hpb := hW.1.2.2.2.1 (4 * (A 30 2 - 1) + p) (by omega)
        obtain ⟨m1, m2, m3⟩ := moved_ok hpb hr2 M8
        rw [if_neg d, show (5 : Int32) * n3 (A 30 2) - 4 + n3 p = n3 (5 * A 30 2 - 4 + p) by rw [l_5, l_4, n3_mul, n3_sub (by omega), n3_add], ldE_in _ (by omega) (by decide), hpv, Option.bind_some, er2, Option.bind_some, m1]
        exact fin _ m2 m3
  · rintro f ⟨x7, M8⟩ ⟨rfl, hf, w, hw⟩
    dsimp only at hf hw ⊢
    rw [hg, if_pos (show ((4 : Int32) ≤ n3 4) by decide)]
    exact ⟨_, rfl, hf, w, hw⟩
theorem act_add {A : aS} {C M : hyM} (hW : WFA A) (hC : CA A C) (hR : LR A M) (a2 a3 : Int32) (hn : A 30 2 < 12) (g : Nat → Int32 → hyM → Option (Int32 × hyM))
    (hg : ∀ f x7 M8, g (f + 1) x7 M8 = (if 4 ≤ x7 then some (x7, M8) else (ldE 6 (M8.1 30) 1).bind fun v10 =>
  (if v10 ≤ 0 then (La_at ((a3 >>> ((5 * x7) &&& 31)) + x7) 49 M8).bind fun v12 =>
  (stE M8 31 60 (((5 * n3 (A 30 2)) + 1) + x7) (36 + v12)).bind fun M13 =>
  g f (x7 + 1) M13 else (La_at (a2 >>> ((x7 + 4) &&& 31)) 3 M8).bind fun v14 =>
  (if v14 ≤ 0 then (La_at ((a3 >>> ((5 * x7) &&& 31)) + x7) 49 M8).bind fun v16 =>
  (stE M8 31 60 (((5 * n3 (A 30 2)) + 1) + x7) (36 + v16)).bind fun M17 =>
  g f (x7 + 1) M17 else (ldE 60 (M8.1 31) (((5 * n3 (A 30 2)) - 4) + x7)).bind fun v18 =>
  (La_at (a3 >>> ((3 * x7) &&& 31)) 9 M8).bind fun v19 =>
  (stE M8 31 60 (((5 * n3 (A 30 2)) + 1) + x7) (La_moved v18 (v19 - 4) M8)).bind fun M20 =>
  g f (x7 + 1) M20)))) :
    ∃ C' M', ((La_at a2 4 M).bind fun v5 =>
  (stE M 31 60 (5 * n3 (A 30 2)) (4 * (1 + v5))).bind fun M6 =>
  (g hyFu 0 M6).bind fun (y7, NM8) =>
  (ldE 6 (NM8.1 30) 1).bind fun v22 =>
  (stE NM8 30 6 1 (v22 + 1)).bind fun M23 =>
  (La_settle M23).bind fun M24 =>
  (ldE 60 (M24.1 31) (5 * n3 (A 30 2))).bind fun v25 =>
  (ldE 60 (M24.1 31) ((5 * n3 (A 30 2)) + 1)).bind fun v26 =>
  (ldE 60 (M24.1 31) ((5 * n3 (A 30 2)) + 2)).bind fun v27 =>
  (ldE 60 (M24.1 31) ((5 * n3 (A 30 2)) + 3)).bind fun v28 =>
  (ldE 60 (M24.1 31) ((5 * n3 (A 30 2)) + 4)).bind fun v29 =>
  ((Hp_addNote (v25 >>> (2 &&& 31)) v26 v27 v28 v29 C).bind rtM).bind fun (v30, C31) =>
  (ldE 6 (M24.1 30) 1).bind fun v32 =>
  some ((decide (v30 = (v32 - 1))), C31, M24)) = some (true, C', M') ∧ AO C' M' := by
  obtain ⟨r, hr, er⟩ := at_ok a2 (m := 4) (by decide) (by decide) M
  have er : La_at a2 4 M = some (n3 r) := er
  have h5n : (5 : Int32) * n3 (A 30 2) = n3 (5 * A 30 2) := by rw [l_5, n3_mul]
  obtain ⟨y, N, w, e1, f1, p1⟩ := act_addl (M6 := wI M 31 (5 * A 30 2) (n3 (nw (1 + r) 0 0))) hW hR a2 a3 hn (fun c k h => by rw [rd_wI, if_neg h]) g hg
  obtain ⟨C', e2, w2, q2⟩ := p_addNote hW hC (v := 1 + r) (by omega) ⟨by omega, by omega⟩ (p1 0 (by decide)).2 (p1 1 (by decide)).2 (p1 2 (by decide)).2 (p1 3 (by decide)).2
  have hN1 : N.1 30 1 = n3 (A 30 2) := by rw [f1 _ _ (fun z => absurd z.1 (by decide)), rd_ne (by decide)]; exact hR.1.2.1
  have hNo : ∀ c k, c ≠ 31 → N.1 c k = M.1 c k := fun c k h => by rw [f1 _ _ (fun z => h z.1), rd_ne h]
  have hN31 : ∀ k, k < 5 * A 30 2 → N.1 31 k = M.1 31 k := fun k h => by rw [f1 _ _ (fun z => by omega), rd_nk (by omega)]
  have hNn : N.1 31 (5 * A 30 2) = n3 (nw (1 + r) 0 0) := by rw [f1 _ _ (fun z => by omega), rd_eq]
  have a30 : ∀ k, k ≠ 2 → adA A (1 + r) (w 0) (w 1) (w 2) (w 3) 30 k = A 30 k := fun k h => by
    show uA A 30 2 (A 30 2 + 1) 30 k = A 30 k
    exact uA_nk h
  have a2n : adA A (1 + r) (w 0) (w 1) (w 2) (w 3) 30 2 = A 30 2 + 1 := rfl
  have aO : ∀ c k, 35 ≤ c → c ≤ 39 → adA A (1 + r) (w 0) (w 1) (w 2) (w 3) c k = A c k := fun c k h1 h2 => by
    unfold adA
    rw [uA_ne (by omega), uA_ne (by omega), uA_ne (by omega), uA_ne (by omega), uA_ne (by omega), uA_ne (by omega), uA_ne (by omega), uA_ne (by omega)]
  have a31 : ∀ k, adA A (1 + r) (w 0) (w 1) (w 2) (w 3) 31 k = uA A 31 (A 30 2) (1 + r) 31 k := fun _ => rfl
  have a33 : ∀ k, adA A (1 + r) (w 0) (w 1) (w 2) (w 3) 33 k = uA A 33 (A 30 2) 0 33 k := fun _ => rfl
  have a34 : ∀ k, adA A (1 + r) (w 0) (w 1) (w 2) (w 3) 34 k = uA A 34 (A 30 2) 0 34 k := fun _ => rfl
  have a32 : ∀ k, adA A (1 + r) (w 0) (w 1) (w 2) (w 3) 32 k = uA (uA (uA (uA A 32 (4 * A 30 2) (w 0)) 32 (4 * A 30 2 + 1) (w 1)) 32 (4 * A 30 2 + 2) (w 2)) 32 (4 * A 30 2 + 3) (w 3) 32 k := fun _ => rfl
  generalize hB : adA A (1 + r) (w 0) (w 1) (w 2) (w 3) = B at e2 w2 q2 a30 a2n aO a31 a33 a34 a32
  obtain ⟨hl, hd, hq⟩ := LRx (B := B) (N := wI N 30 1 (n3 (A 30 2 + 1))) hR aO a30 (fun k h => by rw [rd_nk h, hNo _ _ (by decide)]) (fun c k h1 h2 => by rw [rd_ne (by omega), hNo _ _ (by omega)])
  have hT : LT B (wI N 30 1 (n3 (A 30 2 + 1))) := by
    refine ⟨by omega, by rw [rd_eq, a2n], fun j hj => ?_⟩
    rw [rd_ne (by decide), a31, a33, a34]
    by_cases c : j = A 30 2
    · rw [c, hNn, uA_eq, uA_eq, uA_eq]
    · rw [hN31 _ (by omega), uA_nk c, uA_nk c, uA_nk c]
      exact hR.1.2.2 j (by omega)
  have hP : LPi B (wI N 30 1 (n3 (A 30 2 + 1))) := fun j p hj hp => by
    rw [rd_ne (by decide), a32]
    by_cases c : j = A 30 2
    · rw [c, (p1 p hp).1]
      rcases (show p = 0 ∨ p = 1 ∨ p = 2 ∨ p = 3 by omega) with z | z | z | z
      · subst z; rw [uA_nk (by omega), uA_nk (by omega), uA_nk (by omega), Nat.add_zero, uA_eq]
      · subst z; rw [uA_nk (by omega), uA_nk (by omega), uA_eq]
      · subst z; rw [uA_nk (by omega), uA_eq]
      · subst z; rw [uA_eq]
    · rw [hN31 _ (by omega), uA_nk (by omega), uA_nk (by omega), uA_nk (by omega), uA_nk (by omega)]
      exact hR.2.1 j p (by omega) hp
  have hkB : kpA B = B := kpA_same w2
  obtain ⟨M', e3, r3, g3⟩ := settle_LR (by rw [hkB]; exact w2) hT hP hl hd hq (fun j => w2.2.1.2 j)
  rw [hkB] at r3
  have g31 : ∀ k, M'.1 31 k = N.1 31 k := fun k => by rw [g3 _ _ (by decide) (fun z => absurd z.1 (by decide)), rd_ne (by decide)]
  have g1 : M'.1 30 1 = n3 (A 30 2 + 1) := by rw [g3 _ _ (by decide) (by decide), rd_eq]
  have hsh := (nw_ok (a := 1 + r) (b := 0) (c := 0) (by omega) (by omega) (by omega)).2.2.1
  rw [er, Option.bind_some, h5n, show (4 : Int32) * (1 + n3 r) = n3 (nw (1 + r) 0 0) by rw [l_1, l_4, n3_add, n3_mul]; rfl, stE_in _ _ _ (by omega) (by decide), Option.bind_some, e1, Option.bind_some]
  dsimp only
  rw [ld_1, hN1, Option.bind_some, n3_s, st_1, Option.bind_some, e3, Option.bind_some, ldE_in _ (by omega) (by decide), g31, hNn, Option.bind_some, hsh, show n3 (5 * A 30 2) + 1 = n3 (5 * A 30 2 + 1 + 0) by rw [l_1, n3_add], ldE_in _ (by omega) (by decide), g31, (p1 0 (by decide)).1, Option.bind_some,
    show n3 (5 * A 30 2) + 2 = n3 (5 * A 30 2 + 1 + 1) by rw [show (2 : Int32) = n3 2 from rfl, n3_add], ldE_in _ (by omega) (by decide), g31, (p1 1 (by decide)).1, Option.bind_some,
    show n3 (5 * A 30 2) + 3 = n3 (5 * A 30 2 + 1 + 2) by rw [show (3 : Int32) = n3 3 from rfl, n3_add], ldE_in _ (by omega) (by decide), g31, (p1 2 (by decide)).1, Option.bind_some,
    show n3 (5 * A 30 2) + 4 = n3 (5 * A 30 2 + 1 + 3) by rw [l_4, n3_add], ldE_in _ (by omega) (by decide), g31, (p1 3 (by decide)).1, Option.bind_some, e2, Option.bind_some]
  dsimp only
  rw [ld_1, g1, Option.bind_some, show n3 (A 30 2 + 1) - 1 = n3 (A 30 2) by rw [l_1, n3_sub (by omega), Nat.add_sub_cancel], decide_eq_true rfl]
  exact ⟨_, _, rfl, B, w2, q2, r3⟩
