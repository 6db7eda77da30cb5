/-! The law's act: a tune that is transposed. -/
theorem by_eq {w r : Nat} (hw : 36 ≤ w) (hr : r < 15) : n3 w + (n3 r - 7) = n3 (w + r - 7) := by
  rw [Int32.sub_eq_add_neg, ← Int32.add_assoc, ← Int32.sub_eq_add_neg, n3_add, show (7 : Int32) = n3 7 from rfl, n3_sub (by omega)]
theorem k_tn : ∀ t : Fin 12, ∀ r : Fin 15, ((n3 t.val + (n3 r.val - 7)) + 12) - ((n3 t.val + (n3 r.val - 7)) + 12) / 12 * 12 = n3 ((t.val + (r.val + 17)) % 12) := by decide +kernel
theorem k_17 : ∀ r : Fin 15, n3 r.val - 7 = n3 (r.val + 17) - n3 24 := by decide +kernel
theorem trA_o {A : aS} {k c j : Nat} (h1 : c ≠ 32) (h2 : ¬ (c = 30 ∧ j = 1)) : trA A k c j = A c j := by
  unfold trA
  rw [if_neg (fun z => h1 z.1), if_neg h2]
theorem tr_in {A : aS} {C M : hyM} (hW : WFA A) (hR : LR A M) {r i : Nat} (hr : r < 15) (hi : i < A 30 2) :
    ∃ z, La_act_L773 C M (n3 r) (n3 i) hyFu 1 = some z ∧ (z = .inl (true, C, M) ∨ ((∃ y, z = .inr y) ∧ ∀ p, p < 4 → 43 ≤ A 32 (4 * i + p) + r ∧ A 32 (4 * i + p) + r ≤ 91)) := by
  have hN := hR.1.1
  refine lpI (σ := Int32) (fun f s => La_act_L773 C M (n3 r) (n3 i) f s) (fun k s => s = n3 (k + 1) ∧ ∀ p, p < k → 43 ≤ A 32 (4 * i + p) + r ∧ A 32 (4 * i + p) + r ≤ 91) 4
    (fun z => z = .inl (true, C, M) ∨ ((∃ y, z = .inr y) ∧ ∀ p, p < 4 → 43 ≤ A 32 (4 * i + p) + r ∧ A 32 (4 * i + p) + r ≤ 91)) ?_ ?_ hyFu 0 (n3 1) (Nat.zero_le _) (hyFu_big (by omega)) ⟨rfl, fun p h => absurd h (Nat.not_lt_zero _)⟩
  · rintro f k s hk ⟨rfl, hp⟩
    have hb := hW.1.2.2.2.1 (4 * i + k) (by omega)
    have hv : M.1 31 (5 * i + (k + 1)) = n3 (A 32 (4 * i + k)) := by
      rw [show 5 * i + (k + 1) = 5 * i + 1 + k by omega]
      exact hR.2.1 i k hi hk
    try dsimp only
    rw [La_act_L773, if_neg (show ¬ ((5 : Int32) ≤ n3 (k + 1)) by rw [l_5, n3_le (by omega) (by omega)]; omega), l_5, n3_mul, n3_add, ldE_in _ (by omega) (by decide), hv, Option.bind_some, by_eq hb.1 hr, l_36, ite_lt (by omega) (by omega)]
    by_cases c : A 32 (4 * i + k) + r - 7 < 36
    · rw [if_pos c]
      exact Or.inr ⟨_, rfl, Or.inl rfl⟩
    · rw [if_neg c, Option.bind_some, by_eq hb.1 hr, l_84, ite_le (by omega) (by omega)]
      by_cases d : A 32 (4 * i + k) + r - 7 ≤ 84
      · rw [if_pos d, n3_s]
        refine Or.inl ⟨_, rfl, rfl, fun p hp2 => ?_⟩
        by_cases e : p = k
        · subst e; omega
        · exact hp p (by omega)
      · rw [if_neg d]
        exact Or.inr ⟨_, rfl, Or.inl rfl⟩
  · rintro f s ⟨rfl, hp⟩
    try dsimp only
    rw [La_act_L773, if_pos (show ((5 : Int32) ≤ n3 (4 + 1)) by decide)]
    exact ⟨_, rfl, Or.inr ⟨⟨_, rfl⟩, hp⟩⟩
theorem tr_out {A : aS} {C M : hyM} (hW : WFA A) (hR : LR A M) {r : Nat} (hr : r < 15) :
    ∃ z, La_act_L761 C M (n3 r) hyFu 0 = some z ∧ (z = .inl (true, C, M) ∨ ((∃ y, z = .inr y) ∧ cmv A (r + 17) = true)) := by
  have hN := hR.1.1
  refine lpI (σ := Int32) (fun f s => La_act_L761 C M (n3 r) f s) (fun k s => s = n3 k ∧ ∀ i p, i < k → p < 4 → 43 ≤ A 32 (4 * i + p) + r ∧ A 32 (4 * i + p) + r ≤ 91) (A 30 2)
    (fun z => z = .inl (true, C, M) ∨ ((∃ y, z = .inr y) ∧ cmv A (r + 17) = true)) ?_ ?_ hyFu 0 (n3 0) (Nat.zero_le _) (hyFu_big (by omega)) ⟨rfl, fun i p h _ => absurd h (Nat.not_lt_zero _)⟩
  · rintro f k s hk ⟨rfl, hp⟩
    obtain ⟨z, ez, hz⟩ := tr_in (C := C) hW hR hr hk
    try dsimp only
    rw [La_act_L761, ld_1, hR.1.2.1, Option.bind_some, if_neg (show ¬ (n3 (A 30 2) ≤ n3 k) by rw [n3_le (by omega) (by omega)]; omega), ez, Option.bind_some]
    rcases hz with rfl | ⟨⟨y, rfl⟩, hz⟩
    · exact Or.inr ⟨_, rfl, Or.inl rfl⟩
    · refine Or.inl ⟨n3 (k + 1), ?_, rfl, fun i p hi hp2 => ?_⟩
      · dsimp only
        rw [n3_s]
      · by_cases e : i = k
        · subst e; exact hz p hp2
        · exact hp i p (by omega) hp2
  · rintro f s ⟨rfl, hp⟩
    try dsimp only
    rw [La_act_L761, ld_1, hR.1.2.1, Option.bind_some, if_pos (Int32.le_refl _)]
    refine ⟨_, rfl, Or.inr ⟨⟨_, rfl⟩, cmv_iff.mpr (fun i hi => ?_)⟩⟩
    have := hp (i / 4) (i % 4) (by omega) (by omega)
    rw [show 4 * (i / 4) + i % 4 = i by omega] at this
    omega
theorem tr_w {M : hyM} {x i : Nat} (r : Nat) (hi : i < 12) :
    ∃ y M', La_act_L844 (n3 r) (n3 i) hyFu 1 M = some (y, M') ∧ (∀ c k, c ≠ 31 → M'.1 c k = M.1 c k) ∧ ∀ x, M'.1 31 x = if 5 * i < x ∧ x < 5 * i + 5 then M.1 31 x + (n3 r - 7) else M.1 31 x := by
  have key := lpI (σ := Int32 × hyM) (fun f s => La_act_L844 (n3 r) (n3 i) f s.1 s.2) (fun k s => s.1 = n3 (k + 1) ∧ (∀ c j, c ≠ 31 → s.2.1 c j = M.1 c j) ∧ ∀ x, s.2.1 31 x = if 5 * i < x ∧ x < 5 * i + (k + 1) then M.1 31 x + (n3 r - 7) else M.1 31 x) 4
    (fun z => (∀ c j, c ≠ 31 → z.2.1 c j = M.1 c j) ∧ ∀ x, z.2.1 31 x = if 5 * i < x ∧ x < 5 * i + 5 then M.1 31 x + (n3 r - 7) else M.1 31 x) ?_ ?_ hyFu 0 (n3 1, M) (Nat.zero_le _) (hyFu_big (by omega)) ⟨rfl, fun _ _ _ => rfl, fun x => by rw [if_neg (by omega)]⟩
  · obtain ⟨⟨y, M'⟩, e, h1, h2⟩ := key
    exact ⟨y, M', e, h1, h2⟩
  · rintro f k ⟨x7, N⟩ hk ⟨rfl, h1, h2⟩
    refine Or.inl ?_
    dsimp only at h1 h2 ⊢
    rw [La_act_L844, if_neg (show ¬ ((5 : Int32) ≤ n3 (k + 1)) by rw [l_5, n3_le (by omega) (by omega)]; omega), l_5, n3_mul, n3_add, ldE_in _ (by omega) (by decide), Option.bind_some, stE_in _ _ _ (by omega) (by decide), Option.bind_some, n3_s]
    refine ⟨(n3 (k + 1 + 1), wI N 31 (5 * i + (k + 1)) (N.1 31 (5 * i + (k + 1)) + (n3 r - 7))), rfl, rfl, fun c j hc => ?_, fun x => ?_⟩
    · dsimp only
      rw [rd_ne hc]; exact h1 c j hc
    · dsimp only
      by_cases e : x = 5 * i + (k + 1)
      · subst e
        rw [rd_eq, h2, if_neg (by omega), if_pos (by omega)]
      · rw [rd_nk e, h2]
        by_cases q : 5 * i < x ∧ x < 5 * i + (k + 1)
        · rw [if_pos q, if_pos (by omega)]
        · rw [if_neg q, if_neg (by omega)]
  · rintro f ⟨x7, N⟩ ⟨rfl, h1, h2⟩
    dsimp only at h1 h2 ⊢
    rw [La_act_L844, if_pos (show ((5 : Int32) ≤ n3 (4 + 1)) by decide)]
    exact ⟨_, rfl, h1, h2⟩
theorem tr_ws {M : hyM} {n : Nat} (r : Nat) (hn : n ≤ 12) (h1 : M.1 30 1 = n3 n) :
    ∃ y M', La_act_L832 (n3 r) hyFu 0 M = some (y, M') ∧ (∀ c k, c ≠ 31 → M'.1 c k = M.1 c k) ∧ ∀ x, M'.1 31 x = if x < 5 * n ∧ x % 5 ≠ 0 then M.1 31 x + (n3 r - 7) else M.1 31 x := by
  have key := lpI (σ := Int32 × hyM) (fun f s => La_act_L832 (n3 r) f s.1 s.2) (fun k s => s.1 = n3 k ∧ (∀ c j, c ≠ 31 → s.2.1 c j = M.1 c j) ∧ ∀ x, s.2.1 31 x = if x < 5 * k ∧ x % 5 ≠ 0 then M.1 31 x + (n3 r - 7) else M.1 31 x) n
    (fun z => (∀ c j, c ≠ 31 → z.2.1 c j = M.1 c j) ∧ ∀ x, z.2.1 31 x = if x < 5 * n ∧ x % 5 ≠ 0 then M.1 31 x + (n3 r - 7) else M.1 31 x) ?_ ?_ hyFu 0 (n3 0, M) (Nat.zero_le _) (hyFu_big (by omega)) ⟨rfl, fun _ _ _ => rfl, fun x => by rw [if_neg (by omega)]⟩
  · obtain ⟨⟨y, M'⟩, e, h1, h2⟩ := key
    exact ⟨y, M', e, h1, h2⟩
  · rintro f k ⟨x7, N⟩ hk ⟨rfl, g1, g2⟩
    refine Or.inl ?_
    dsimp only at g1 g2 ⊢
    obtain ⟨y, N', e, f1, f2⟩ := tr_w (M := N) (x := 0) r (show k < 12 by omega)
    rw [La_act_L832, ld_1, g1 _ _ (by decide), h1, Option.bind_some, if_neg (show ¬ (n3 n ≤ n3 k) by rw [n3_le (by omega) (by omega)]; omega), e, Option.bind_some]
    dsimp only
    rw [n3_s]
    refine ⟨(n3 (k + 1), N'), rfl, rfl, fun c j hc => by rw [f1 c j hc]; exact g1 c j hc, fun x => ?_⟩
    dsimp only
    rw [f2]
    by_cases q : 5 * k < x ∧ x < 5 * k + 5
    · rw [if_pos q, g2, if_neg (by omega), if_pos (by omega)]
    · rw [if_neg q, g2]
      by_cases q2 : x < 5 * k ∧ x % 5 ≠ 0
      · rw [if_pos q2, if_pos (by omega)]
      · rw [if_neg q2, if_neg (by omega)]
  · rintro f ⟨x7, N⟩ ⟨rfl, g1, g2⟩
    dsimp only at g1 g2 ⊢
    rw [La_act_L832, ld_1, g1 _ _ (by decide), h1, Option.bind_some, if_pos (Int32.le_refl _)]
    exact ⟨_, rfl, g1, g2⟩
theorem act_trans {A : aS} {C M : hyM} (hW : WFA A) (hC : CA A C) (hR : LR A M) (a2 : Int32) :
    ∃ C' M', ((La_at a2 15 M).bind fun v82 =>
  (La_act_L761 C M v82 hyFu 0).bind fun z => match z with
  | .inl r9 => some r9
  | .inr (y83) =>
  (La_act_L832 v82 hyFu 0 M).bind fun (y95, NM96) =>
  (ldE 6 (NM96.1 30) 0).bind fun v107 =>
  (stE NM96 30 6 0 (((v107 + (v82 - 7)) + 12) - ((v107 + (v82 - 7)) + 12) / 12 * 12)).bind fun M108 =>
  ((Hp_transpose (v82 - 7) C).bind rtM).bind fun (v109, C110) =>
  (ldE 6 (M108.1 30) 0).bind fun v111 =>
  some ((decide (v109 = v111)), C110, M108)) = some (true, C', M') ∧ AO C' M' := by
  have hN := hR.1.1
  obtain ⟨r, hr, er⟩ := at_ok a2 (m := 15) (by decide) (by decide) M
  have er : La_at a2 15 M = some (n3 r) := er
  obtain ⟨z, ez, hz⟩ := tr_out (C := C) hW hR hr
  rw [er, Option.bind_some, ez, Option.bind_some]
  rcases hz with rfl | ⟨⟨y, rfl⟩, hz⟩
  · exact ⟨C, M, rfl, A, hW, hC, hR⟩
  · dsimp only
    obtain ⟨y2, N, e2, f1, f2⟩ := tr_ws r hN hR.1.2.1
    obtain ⟨C', e1, w1, q1⟩ := p_transpose hW hC (k := r + 17) (by omega) hz
    have ht := k_tn ⟨A 30 1, hW.1.2.1⟩ ⟨r, hr⟩
    dsimp only at ht
    have h17 : n3 r - 7 = n3 (r + 17) - n3 24 := k_17 ⟨r, hr⟩
    have fN : ∀ c k, c ≠ 31 → ¬ (c = 30 ∧ k = 0) → (wI N 30 0 (n3 ((A 30 1 + (r + 17)) % 12))).1 c k = M.1 c k := fun c k h1 h2 => by rw [rd_wI, if_neg h2]; exact f1 c k h1
    have f30 : ∀ k, k ≠ 0 → (wI N 30 0 (n3 ((A 30 1 + (r + 17)) % 12))).1 30 k = M.1 30 k := fun k h => fN 30 k (by decide) (fun z => h z.2)
    rw [e2, Option.bind_some]
    dsimp only
    rw [ld_0, f1 _ _ (by decide), hR.ld.1, Option.bind_some, ht, st_0, Option.bind_some, h17, e1, Option.bind_some]
    dsimp only
    rw [ld_0, rd_eq, Option.bind_some, decide_eq_true rfl]
    refine ⟨_, _, rfl, _, w1, q1, LR_mk ⟨hN, by rw [f30 _ (by decide)]; exact hR.1.2.1, fun j hj => ?_⟩ (fun j p hj hp => ?_) (LL_same hR.2.2.1 (fun _ => trA_o (by decide) (fun z => absurd z.1 (by decide))) (fun _ => trA_o (by decide) (fun z => absurd z.1 (by decide))) (fun k => fN _ _ (by decide) (fun z => absurd z.1 (by decide)))) ⟨?_, ?_, ?_, ?_⟩ ?_⟩
    · have hj : j < A 30 2 := hj
      rw [rd_ne (by decide), f2, if_neg (by omega), trA_o (c := 31) (by decide) (fun z => absurd z.1 (by decide)), trA_o (c := 34) (by decide) (fun z => absurd z.1 (by decide)), trA_o (c := 33) (by decide) (fun z => absurd z.1 (by decide))]
      exact hR.1.2.2 j hj
    · have hj : j < A 30 2 := hj
      have hb := hW.1.2.2.2.1 (4 * j + p) (by omega)
      rw [rd_ne (by decide), f2, if_pos (by omega), hR.2.1 j p hj hp, by_eq hb.1 hr]
      unfold trA
      rw [if_pos ⟨rfl, by omega⟩]
      congr 1
    · rw [rd_eq]
      rfl
    · rw [f30 _ (by decide), trA_o (c := 30) (by decide) (by decide)]; exact hR.ld.2.1
    · rw [f30 _ (by decide), trA_o (c := 30) (by decide) (by decide)]; exact hR.ld.2.2.1
    · rw [f30 _ (by decide), trA_o (c := 30) (by decide) (by decide)]; exact hR.ld.2.2.2
    · refine ⟨by rw [f30 _ (by decide), trA_o (c := 30) (by decide) (by decide)]; exact hR.rp.1, by rw [trA_o (c := 30) (by decide) (by decide)]; exact hR.rp.2.1, fun k hk => ?_⟩
      rw [trA_o (c := 30) (by decide) (by decide)] at hk
      rw [fN _ _ (by decide) (fun z => absurd z.1 (by decide)), fN _ _ (by decide) (fun z => absurd z.1 (by decide)), fN _ _ (by decide) (fun z => absurd z.1 (by decide)), trA_o (c := 35) (by decide) (fun z => absurd z.1 (by decide)), trA_o (c := 36) (by decide) (fun z => absurd z.1 (by decide)), trA_o (c := 37) (by decide) (fun z => absurd z.1 (by decide))]
      exact hR.rp.2.2 k hk
