/-! The law's act: a repeat. -/
theorem re_in {A : aS} {C M : hyM} (hW : WFA A) (hR : LR A M) {f d : Nat} (hl : f + d < 40) :
    ∃ z, La_act_L617 C M (n3 f) (n3 d) hyFu 0 = some z ∧ (z = .inl (true, C, M) ∨ ((∃ y, z = .inr y) ∧ tcB (rpA A) f (f + d) (A 30 7) = false)) := by
  have h2 := hR.rp.2.1
  refine lpI (σ := Int32) (fun F s => La_act_L617 C M (n3 f) (n3 d) F s) (fun k s => s = n3 k ∧ tcB (rpA A) f (f + d) k = false) (A 30 7)
    (fun z => z = .inl (true, C, M) ∨ ((∃ y, z = .inr y) ∧ tcB (rpA A) f (f + d) (A 30 7) = false)) ?_ ?_ hyFu 0 (n3 0) (Nat.zero_le _) (hyFu_big (by omega)) ⟨rfl, rfl⟩
  · rintro F k s hk ⟨rfl, hp⟩
    obtain ⟨q1, q2, -⟩ := hR.rp.2.2 k hk
    have hb := hW.2.1.2 k
    try dsimp only
    rw [La_act_L617, ld_5, hR.rp.1, Option.bind_some, if_neg (show ¬ (n3 (A 30 7) ≤ n3 k) by rw [n3_le (by omega) (by omega)]; omega), show (3 : Int32) * n3 k = n3 (3 * k) by rw [show (3 : Int32) = n3 3 from rfl, n3_mul], ldE_in _ (by omega) (by decide), q1, Option.bind_some, n3_add, ite_lt (by omega) (by omega), n3_s]
    by_cases c : f + d < A 35 k
    · rw [if_pos c]
      refine Or.inl ⟨_, rfl, rfl, ?_⟩
      rw [tcB, hp, show decide ((rpA A).2.1 k ≤ f + d) = false from decide_eq_false (by show ¬ A 35 k ≤ f + d; omega), Bool.and_false]
      rfl
    · rw [if_neg c, show n3 (3 * k) + 1 = n3 (3 * k + 1) from n3_s _, ldE_in _ (by omega) (by decide), q2, Option.bind_some, ite_lt (by omega) (by omega)]
      by_cases e : A 36 k < f
      · rw [if_pos e]
        refine Or.inl ⟨_, rfl, rfl, ?_⟩
        rw [tcB, hp, show decide (f ≤ (rpA A).2.2.1 k) = false from decide_eq_false (by show ¬ f ≤ A 36 k; omega), Bool.false_and]
        rfl
      · rw [if_neg e]
        exact Or.inr ⟨_, rfl, Or.inl rfl⟩
  · rintro F s ⟨rfl, hp⟩
    try dsimp only
    rw [La_act_L617, ld_5, hR.rp.1, Option.bind_some, if_pos (Int32.le_refl _)]
    exact ⟨_, rfl, Or.inr ⟨⟨_, rfl⟩, hp⟩⟩
theorem act_rep {A : aS} {C M : hyM} (hW : WFA A) (hC : CA A C) (hR : LR A M) (a2 a3 : Int32) (hn : 0 < A 30 2) :
    ∃ C' M', ((La_phrases M).bind fun v116 =>
  (La_at a2 v116 M).bind fun v117 =>
  (La_phrases M).bind fun v118 =>
  (La_at a3 (v118 - v117) M).bind fun v119 =>
  (La_at (a3 >>> (4 &&& 31)) (((v117 + v119) - v117) + 1) M).bind fun v120 =>
  (ldE 6 (M.1 30) 5).bind fun v121 =>
  (if v121 = 2 then (stE M 30 6 5 0).bind fun M146 =>
  (Hp_clearRepeats C).bind fun (v148, C147) =>
  some ((decide (v148 = 2)), C147, M146) else (La_act_L617 C M v117 v119 hyFu 0).bind fun z => match z with
  | .inl r9 => some r9
  | .inr (y123) =>
  (ldE 6 (M.1 30) 5).bind fun v131 =>
  (stE M 32 9 (3 * v131) v117).bind fun M132 =>
  (ldE 6 (M132.1 30) 5).bind fun v133 =>
  (stE M132 32 9 ((3 * v133) + 1) (v117 + v119)).bind fun M134 =>
  (ldE 6 (M134.1 30) 5).bind fun v135 =>
  (stE M134 32 9 ((3 * v135) + 2) v120).bind fun M136 =>
  (ldE 6 (M136.1 30) 5).bind fun v137 =>
  (stE M136 30 6 5 (v137 + 1)).bind fun M138 =>
  ((Hp_repeat v117 (v117 + v119) v120 C).bind rtM).bind fun (v139, C140) =>
  (La_sung (zM M138 34)).bind fun (v142, M141) =>
  some ((decide (v139 = v142)), C140, M141))) = some (true, C', M') ∧ AO C' M' := by
  have hN := hR.1.1
  have hm := mA_lt hW
  have hm1 : 0 < mA A := phc_pos hn
  have h2 := hR.rp.2.1
  have h5 := hR.rp.1
  have hph := La_phrases_ok hW hR.1
  obtain ⟨f, hf, ef⟩ := at_ok a2 (m := mA A) hm1 (by omega) M
  obtain ⟨d, hd, ed⟩ := at_ok a3 (m := mA A - f) (by omega) (by omega) M
  obtain ⟨s, hs, es⟩ := at_ok (a3 >>> (4 &&& 31)) (m := d + 1) (by omega) (by omega) M
  rw [hph, Option.bind_some, ef, Option.bind_some, Option.bind_some, n3_sub (by omega), ed, Option.bind_some, n3_add, n3_sub (by omega), Nat.add_sub_cancel_left, n3_s, es, Option.bind_some, ld_5, h5, Option.bind_some, show (2 : Int32) = n3 2 from rfl, ite_eq (by omega) (by omega)]
  by_cases c : A 30 7 = 2
  · rw [if_pos c]
    exact act_clear hW hC hR c
  · obtain ⟨z, ez, hz⟩ := re_in (C := C) (f := f) (d := d) hW hR (by omega)
    rw [if_neg c, ez, Option.bind_some]
    rcases hz with rfl | ⟨⟨y, rfl⟩, hz⟩
    · exact ⟨C, M, rfl, A, hW, hC, hR⟩
    · dsimp only
      obtain ⟨C', e1, w1, q1⟩ := p_repeat hW hC (f := f) (l := f + d) (s := s) (by omega) (by omega) (by omega) (by omega) hz
      obtain ⟨N, hNd⟩ : ∃ N, N = wI (wI (wI (wI M 32 (3 * A 30 7) (n3 f)) 32 (3 * A 30 7 + 1) (n3 (f + d))) 32 (3 * A 30 7 + 2) (n3 s)) 30 5 (n3 (A 30 7 + 1)) := ⟨_, rfl⟩
      have gO : ∀ c k, c ≠ 32 → c ≠ 34 → ¬ (c = 30 ∧ k = 5) → (zM N 34).1 c k = M.1 c k := fun c k h1 h2 h3 => by
        show (if c = 34 then (fun _ => 0) else N.1 c) k = M.1 c k
        rw [if_neg h2, hNd, rd_wI, if_neg h3, rd_ne h1, rd_ne h1, rd_ne h1]
      have g32 : ∀ k, (zM N 34).1 32 k = (wI (wI (wI M 32 (3 * A 30 7) (n3 f)) 32 (3 * A 30 7 + 1) (n3 (f + d))) 32 (3 * A 30 7 + 2) (n3 s)).1 32 k := fun k => by
        show (if 32 = 34 then (fun _ => 0) else N.1 32) k = _
        rw [if_neg (by decide), hNd, rd_ne (by decide)]
      have g5 : (zM N 34).1 30 5 = n3 (A 30 7 + 1) := by
        show (if 30 = 34 then (fun _ => 0) else N.1 30) 5 = _
        rw [if_neg (by decide), hNd, rd_eq]
      have r7 : reA A f (f + d) s 30 7 = A 30 7 + 1 := rfl
      have r35 : ∀ k, reA A f (f + d) s 35 k = uA A 35 (A 30 7) f 35 k := fun _ => rfl
      have r36 : ∀ k, reA A f (f + d) s 36 k = uA A 36 (A 30 7) (f + d) 36 k := fun _ => rfl
      have r37 : ∀ k, reA A f (f + d) s 37 k = uA A 37 (A 30 7) s 37 k := fun _ => rfl
      have rO : ∀ c k, c ≠ 35 → c ≠ 36 → c ≠ 37 → ¬ (c = 30 ∧ k = 7) → reA A f (f + d) s c k = A c k := fun c k h1 h2 h3 h4 => by
        unfold reA
        rw [show ∀ (B : aS) (v : Nat), uA B 30 7 v c k = B c k from fun B v => if_neg h4, uA_ne h3, uA_ne h2, uA_ne h1]
      have hT : LT (reA A f (f + d) s) (zM N 34) := by
        refine ⟨hN, by rw [gO _ _ (by decide) (by decide) (by decide)]; exact hR.1.2.1, fun j hj => ?_⟩
        rw [gO _ _ (by decide) (by decide) (fun z => absurd z.1 (by decide))]
        exact hR.1.2.2 j hj
      have hq : LRp (reA A f (f + d) s) (zM N 34) := by
        refine ⟨by rw [g5, r7], by rw [r7]; omega, fun k hk => ?_⟩
        rw [r7] at hk
        rw [g32, g32, g32, r35, r36, r37]
        by_cases e : k = A 30 7
        · rw [e, uA_eq, uA_eq, uA_eq, rd_nk (by omega), rd_nk (by omega), rd_eq, rd_nk (by omega), rd_eq, rd_eq]
          exact ⟨rfl, rfl, rfl⟩
        · rw [uA_nk e, uA_nk e, uA_nk e, rd_nk (by omega), rd_nk (by omega), rd_nk (by omega), rd_nk (by omega), rd_nk (by omega), rd_nk (by omega), rd_nk (by omega), rd_nk (by omega), rd_nk (by omega)]
          exact hR.rp.2.2 k (by omega)
      obtain ⟨M', e2, s1, s2, s3⟩ := La_sung_ok w1 hT hq
      have gS : ∀ c k, c ≠ 34 → M'.1 c k = (zM N 34).1 c k := fun c k h => s2.2 c k (nbf h)
      have hRr : LR (reA A f (f + d) s) M' := by
        refine LR_mk (hT.fr (fun k => gS _ _ (by decide)) (fun k => gS _ _ (by decide))) (fun j p hj hp => ?_) (LL_same hR.2.2.1 (fun _ => rfl) (fun _ => rfl) (fun k => by rw [gS _ _ (by decide), gO _ _ (by decide) (by decide) (fun z => absurd z.1 (by decide))])) ⟨?_, ?_, ?_, ?_⟩ (hq.fr (gS _ _ (by decide)) (fun k => gS _ _ (by decide)))
        · rw [gS _ _ (by decide), gO _ _ (by decide) (by decide) (fun z => absurd z.1 (by decide))]
          exact hR.2.1 j p hj hp
        · rw [gS _ _ (by decide), gO _ _ (by decide) (by decide) (by decide)]; exact hR.ld.1
        · rw [gS _ _ (by decide), gO _ _ (by decide) (by decide) (by decide)]; exact hR.ld.2.1
        · rw [gS _ _ (by decide), gO _ _ (by decide) (by decide) (by decide)]; exact hR.ld.2.2.1
        · rw [gS _ _ (by decide), gO _ _ (by decide) (by decide) (by decide)]; exact hR.ld.2.2.2
      have l5 : ∀ c k x, c ≠ 30 → (wI M c k x).1 30 5 = n3 (A 30 7) := fun c k x h => by rw [rd_ne (by omega)]; exact h5
      rw [Option.bind_some, show (3 : Int32) = n3 3 from rfl, n3_mul, stE_in _ _ _ (by omega) (by decide), Option.bind_some, ld_5, rd_ne (by decide), h5, Option.bind_some, n3_mul, n3_s, stE_in _ _ _ (by omega) (by decide), Option.bind_some, ld_5, rd_ne (by decide), rd_ne (by decide), h5, Option.bind_some, n3_mul, n3_add, stE_in _ _ _ (by omega) (by decide), Option.bind_some, ld_5, rd_ne (by decide), rd_ne (by decide), rd_ne (by decide), h5, Option.bind_some, n3_s, st_5, Option.bind_some, ← hNd, e1, Option.bind_some]
      dsimp only
      rw [e2, Option.bind_some]
      dsimp only
      rw [decide_eq_true rfl]
      exact ⟨_, _, rfl, _, w1, q1, hRr⟩
