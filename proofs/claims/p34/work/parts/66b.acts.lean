/-! The law's acts: pitches, bars, widths, verses cleared. -/
theorem LL_same {A B : aS} {M N : hyM} (hl : LL A M) (h38 : ∀ k, B 38 k = A 38 k) (h39 : ∀ k, B 39 k = A 39 k) (gN : ∀ k, N.1 33 k = M.1 33 k) : LL B N := by
  have hx : XA B = XA A := by
    unfold XA
    refine Prod.ext ?_ ?_
    · funext r i; exact h39 _
    · funext r; exact h38 _
  refine ⟨fun v k hv hk => ?_, fun v k hv hk hc => ?_⟩
  · rw [gN]
    show LIw _ ((XA B).1 _) ((XA B).2 _)
    rw [hx]
    exact hl.1 v k hv hk
  · show (XA B).2 _ = 0
    rw [hx]
    exact hl.2 v k hv hk hc
theorem LR.ld {A : aS} {M : hyM} (h : LR A M) : LD A M := ⟨h.2.2.2.1.1, h.2.2.2.1.2.1, h.2.2.2.1.2.2.1, h.2.2.2.1.2.2.2.1⟩
theorem act_pitch {A : aS} {C M : hyM} (hW : WFA A) (hC : CA A C) (hR : LR A M) (a3 : Int32) {i : Nat} (hi : i < A 30 2) :
    ∃ C' M', ((La_at a3 4 M).bind fun v166 =>
  (ldE 60 (M.1 31) (((5 * n3 i) + 1) + v166)).bind fun v167 =>
  (La_at (a3 >>> (2 &&& 31)) 49 M).bind fun v168 =>
  (stE M 31 60 (((5 * n3 i) + 1) + v166) (36 + v168)).bind fun M169 =>
  (ldE 60 (M169.1 31) (((5 * n3 i) + 1) + v166)).bind fun v170 =>
  (rtM (Hp_setPitch (n3 i) v166 v170 C)).bind fun (v171, C172) =>
  some ((decide (v171 = v167)), C172, M169)) = some (true, C', M') ∧ AO C' M' := by
  have hN := hR.1.1
  obtain ⟨p, hp, ep⟩ := at_ok a3 (m := 4) (by decide) (by decide) M
  have ep : La_at a3 4 M = some (n3 p) := ep
  obtain ⟨r, hr, er⟩ := at_ok (a3 >>> (2 &&& 31)) (m := 49) (by decide) (by decide) M
  have er : La_at (a3 >>> (2 &&& 31)) 49 M = some (n3 r) := er
  obtain ⟨C', e1, w1, q1⟩ := p_setPitch hW hC hi hp (w := 36 + r) ⟨by omega, by omega⟩
  rw [ep, Option.bind_some, show (5 : Int32) * n3 i + 1 + n3 p = n3 (5 * i + 1 + p) by rw [l_5, l_1, n3_mul, n3_add, n3_add], ldE_in _ (by omega) (by decide), Option.bind_some, er, Option.bind_some, show (36 : Int32) + n3 r = n3 (36 + r) by rw [l_36, n3_add], stE_in _ _ _ (by omega) (by decide), Option.bind_some, ldE_in _ (by omega) (by decide), rd_eq, Option.bind_some, e1, Option.bind_some]
  dsimp only
  rw [hR.2.1 i p hi hp, decide_eq_true rfl]
  refine ⟨_, _, rfl, _, w1, q1, LR_mk ⟨hN, by rw [rd_ne (by decide)]; exact hR.1.2.1, fun j hj => ?_⟩ (fun j q hj hq => ?_) (LL_same hR.2.2.1 (fun _ => rfl) (fun _ => rfl) (fun k => rd_ne (by decide))) hR.ld (hR.rp.fr (rd_ne (by decide)) (fun k => rd_ne (by decide)))⟩
  · rw [rd_nk (by omega)]
    exact hR.1.2.2 j hj
  · by_cases c : j = i ∧ q = p
    · rw [c.1, c.2, rd_eq, uA_eq]
    · rw [rd_nk (by omega), uA_nk (by omega)]
      exact hR.2.1 j q hj hq
theorem act_bars {A : aS} {C M : hyM} (hW : WFA A) (hC : CA A C) (hR : LR A M) (a2 a3 : Int32) :
    ∃ C' M', ((ldE 6 (M.1 30) 2).bind fun v151 =>
  (La_at a3 3 M).bind fun v152 =>
  (La_at a2 ((if v152 = 0 then 23 else 4) : Int32) M).bind fun v154 =>
  (stE M 30 6 2 (2 + v154)).bind fun M155 =>
  (ldE 6 (M155.1 30) 2).bind fun v156 =>
  (La_at (a3 >>> (2 &&& 31)) v156 M155).bind fun v157 =>
  (stE M155 30 6 3 v157).bind fun M158 =>
  (ldE 6 (M158.1 30) 2).bind fun v159 =>
  (ldE 6 (M158.1 30) 3).bind fun v160 =>
  (rtM (Hp_setBars v159 v160 C)).bind fun (v161, C162) =>
  some ((decide (v161 = v151)), C162, M158)) = some (true, C', M') ∧ AO C' M' := by
  obtain ⟨ra, hra, era⟩ := at_ok a3 (m := 3) (by decide) (by decide) M
  have era : La_at a3 3 M = some (n3 ra) := era
  have hk : ∃ r, r < 23 ∧ La_at a2 ((if n3 ra = 0 then 23 else 4) : Int32) M = some (n3 r) := by
    by_cases c : n3 ra = 0
    · rw [if_pos c]
      exact at_ok a2 (m := 23) (by decide) (by decide) M
    · rw [if_neg c]
      obtain ⟨r, h, e⟩ := at_ok a2 (m := 4) (by decide) (by decide) M
      exact ⟨r, by omega, e⟩
  obtain ⟨r, hr, er⟩ := hk
  obtain ⟨u, hu, eu⟩ := at_ok (a3 >>> (2 &&& 31)) (m := 2 + r) (by omega) (by omega) (wI M 30 2 (n3 (2 + r)))
  obtain ⟨C', e1, w1, q1⟩ := p_setBars hW hC (k := 2 + r) (u := u) ⟨by omega, by omega⟩ hu
  rw [ld_2, Option.bind_some, era, Option.bind_some, er, Option.bind_some, show (2 : Int32) + n3 r = n3 (2 + r) by rw [show (2 : Int32) = n3 2 from rfl, n3_add], st_2, Option.bind_some, ld_2, rd_eq, Option.bind_some, eu, Option.bind_some, st_3, Option.bind_some, ld_2, rd_nk (by decide), rd_eq, Option.bind_some, ld_3, rd_eq, Option.bind_some, e1, Option.bind_some]
  dsimp only
  rw [hR.ld.2.1, decide_eq_true rfl]
  have g : ∀ c k, c ≠ 30 → (wI (wI M 30 2 (n3 (2 + r))) 30 3 (n3 u)).1 c k = M.1 c k := fun c k h => by rw [rd_ne h, rd_ne h]
  refine ⟨_, _, rfl, _, w1, q1, LR_mk ⟨hR.1.1, by rw [rd_nk (by decide), rd_nk (by decide)]; exact hR.1.2.1, fun j hj => by rw [g _ _ (by decide)]; exact hR.1.2.2 j hj⟩ (fun j p hj hp => by rw [g _ _ (by decide)]; exact hR.2.1 j p hj hp) (LL_same hR.2.2.1 (fun _ => rfl) (fun _ => rfl) (fun k => g _ _ (by decide))) ⟨?_, ?_, ?_, ?_⟩ (hR.rp.fr (by rw [rd_nk (by decide), rd_nk (by decide)]) (fun k => g _ _ (by decide)))⟩
  · rw [rd_nk (by decide), rd_nk (by decide)]; exact hR.ld.1
  · rw [rd_nk (by decide), rd_eq]; rfl
  · rw [rd_eq]; rfl
  · rw [rd_nk (by decide), rd_nk (by decide)]; exact hR.ld.2.2.2
theorem act_width {A : aS} {C M : hyM} (hW : WFA A) (hC : CA A C) (hR : LR A M) (a2 a3 : Int32) :
    ∃ C' M', ((La_at a3 2 M).bind fun v71 =>
  (La_at a2 ((if v71 = 0 then 181 else 25) : Int32) M).bind fun v73 =>
  (stE M 30 6 4 (20 + v73)).bind fun M74 =>
  (ldE 6 (M74.1 30) 4).bind fun v75 =>
  ((Hp_setWidth v75 C).bind rtM).bind fun (v76, C77) =>
  ((Hp_count 10 C77).bind rt).bind fun v78 =>
  some ((decide (v76 = v78)), C77, M74)) = some (true, C', M') ∧ AO C' M' := by
  obtain ⟨ra, hra, era⟩ := at_ok a3 (m := 2) (by decide) (by decide) M
  have era : La_at a3 2 M = some (n3 ra) := era
  have hk : ∃ r, r < 181 ∧ La_at a2 ((if n3 ra = 0 then 181 else 25) : Int32) M = some (n3 r) := by
    by_cases c : n3 ra = 0
    · rw [if_pos c]
      exact at_ok a2 (m := 181) (by decide) (by decide) M
    · rw [if_neg c]
      obtain ⟨r, h, e⟩ := at_ok a2 (m := 25) (by decide) (by decide) M
      exact ⟨r, by omega, e⟩
  obtain ⟨r, hr, er⟩ := hk
  obtain ⟨C', e1, w1, q1⟩ := p_setWidth hW hC (k := 20 + r) ⟨by omega, by omega⟩
  have e10 : (Hp_count 10 C').bind rt = some (n3 (nsA (uA A 30 13 (20 + r)))) := g_count w1 q1 (w := 10) (by decide)
  rw [era, Option.bind_some, er, Option.bind_some, show (20 : Int32) + n3 r = n3 (20 + r) by rw [show (20 : Int32) = n3 20 from rfl, n3_add], st_4, Option.bind_some, ld_4, rd_eq, Option.bind_some, e1, Option.bind_some]
  dsimp only
  rw [e10, Option.bind_some, decide_eq_true rfl]
  have g : ∀ c k, c ≠ 30 → (wI M 30 4 (n3 (20 + r))).1 c k = M.1 c k := fun c k h => rd_ne h
  refine ⟨_, _, rfl, _, w1, q1, LR_mk ⟨hR.1.1, by rw [rd_nk (by decide)]; exact hR.1.2.1, fun j hj => by rw [g _ _ (by decide)]; exact hR.1.2.2 j hj⟩ (fun j p hj hp => by rw [g _ _ (by decide)]; exact hR.2.1 j p hj hp) (LL_same hR.2.2.1 (fun _ => rfl) (fun _ => rfl) (fun k => g _ _ (by decide))) ⟨?_, ?_, ?_, ?_⟩ (hR.rp.fr (rd_nk (by decide)) (fun k => g _ _ (by decide)))⟩
  · rw [rd_nk (by decide)]; exact hR.ld.1
  · rw [rd_nk (by decide)]; exact hR.ld.2.1
  · rw [rd_nk (by decide)]; exact hR.ld.2.2.1
  · rw [rd_eq]; rfl
theorem act_clear {A : aS} {C M : hyM} (hW : WFA A) (hC : CA A C) (hR : LR A M) (h2 : A 30 7 = 2) :
    ∃ C' M', ((stE M 30 6 5 0).bind fun M146 =>
  (Hp_clearRepeats C).bind fun (v148, C147) =>
  some ((decide (v148 = 2)), C147, M146)) = some (true, C', M') ∧ AO C' M' := by
  obtain ⟨C', e1, w1, q1⟩ := p_clearRepeats hW hC
  rw [st_5, Option.bind_some, e1, Option.bind_some]
  dsimp only
  rw [h2, show decide (n3 2 = (2 : Int32)) = true by decide]
  have g : ∀ c k, c ≠ 30 → (wI M 30 5 0).1 c k = M.1 c k := fun c k h => rd_ne h
  refine ⟨_, _, rfl, _, w1, q1, LR_mk ⟨hR.1.1, by rw [rd_nk (by decide)]; exact hR.1.2.1, fun j hj => by rw [g _ _ (by decide)]; exact hR.1.2.2 j hj⟩ (fun j p hj hp => by rw [g _ _ (by decide)]; exact hR.2.1 j p hj hp) (LL_same hR.2.2.1 (fun _ => rfl) (fun _ => rfl) (fun k => g _ _ (by decide))) ⟨?_, ?_, ?_, ?_⟩ ⟨by rw [rd_eq]; rfl, Nat.zero_le _, fun k hk => absurd hk (Nat.not_lt_zero _)⟩⟩
  · rw [rd_nk (by decide)]; exact hR.ld.1
  · rw [rd_nk (by decide)]; exact hR.ld.2.1
  · rw [rd_nk (by decide)]; exact hR.ld.2.2.1
  · rw [rd_nk (by decide)]; exact hR.ld.2.2.2
theorem cnt_pad {f : Nat → Bool} {n : Nat} : ∀ d, (∀ i, n ≤ i → i < n + d → f i = false) → cnt f (n + d) = cnt f n := by
  intro d
  induction d with
  | zero => intro _; rfl
  | succ d ih =>
    intro h
    rw [← Nat.add_assoc, cnt, ih (fun i h1 h2 => h i h1 (by omega)), h _ (by omega) (by omega)]
    rfl
theorem act_verse {A : aS} {C M : hyM} (hW : WFA A) (hC : CA A C) (hR : LR A M) {v : Nat} (hv : v < 2) :
    ∃ C' M', ((La_act_L996 (n3 v) hyFu 0 0 M).bind fun (y57, y58, NM59) =>
  ((Hp_clearVerse (n3 v) C).bind rtM).bind fun (v66, C67) =>
  some ((decide (v66 = y57)), C67, NM59)) = some (true, C', M') ∧ AO C' M' := by
  obtain ⟨C', e1, w1, q1⟩ := p_clearVerse hW hC (v := v) (by omega)
  have key := lpI (σ := Int32 × Int32 × hyM) (fun f s => La_act_L996 (n3 v) f s.1 s.2.1 s.2.2)
    (fun k s => s.1 = n3 (cnt (fun k => decide (0 < A 38 (v * 24 + k))) k) ∧ s.2.1 = n3 k ∧ (∀ c j, c ≠ 33 → s.2.2.1 c j = M.1 c j) ∧ ∀ j, s.2.2.1 33 j = if 8 * v ≤ j ∧ j < 8 * v + k then 0 else M.1 33 j) 8
    (fun r => ∃ y M', r = (n3 (cnt (fun k => decide (0 < A 38 (v * 24 + k))) 8), y, M') ∧ (∀ c j, c ≠ 33 → M'.1 c j = M.1 c j) ∧ ∀ j, M'.1 33 j = if 8 * v ≤ j ∧ j < 8 * v + 8 then 0 else M.1 33 j)
    ?_ ?_ hyFu 0 (n3 0, n3 0, M) (Nat.zero_le _) (hyFu_big (by omega)) ⟨rfl, rfl, fun _ _ _ => rfl, fun j => by rw [if_neg (by omega)]⟩
  · obtain ⟨r, e2, y, M', rfl, m1, m2⟩ := key
    dsimp only at e2
    have hc : cnt (fun k => decide (0 < A 38 (v * 24 + k))) 24 = cnt (fun k => decide (0 < A 38 (v * 24 + k))) 8 := cnt_pad 16 (fun i h1 h2 => by
      have : A 38 (v * 24 + i) = 0 := hR.2.2.1.2 v i (by omega) (by omega) (Or.inr h1)
      rw [this]
      rfl)
    rw [hc] at e1
    rw [show La_act_L996 (n3 v) hyFu 0 0 M = _ from e2, Option.bind_some]
    dsimp only
    rw [e1, Option.bind_some]
    dsimp only
    rw [decide_eq_true rfl]
    refine ⟨_, _, rfl, _, w1, q1, hR.up (fun c k h1 h2 => if_neg (fun z => by omega)) (fun k _ => if_neg (fun z => absurd z.1 (by decide))) (fun c k _ h => m1 c k h) ⟨fun v' k' hv' hk' => ?_, fun v' k' hv' hk' hc => ?_⟩⟩
    · show LIw _ (rwT A (v' * 24 + k')) (clA A (v * 24) (v * 24 + 24) 38 (v' * 24 + k'))
      unfold clA
      rw [m2]
      by_cases c : v' = v
      · subst c
        rw [if_pos (by omega), if_pos (show 38 = 38 ∧ v' * 24 ≤ v' * 24 + k' ∧ v' * 24 + k' < v' * 24 + 24 from ⟨rfl, by omega, by omega⟩)]
        exact LIw_0 _
      · rw [if_neg (by omega), if_neg (by omega)]
        exact hR.2.2.1.1 v' k' hv' hk'
    · show clA A (v * 24) (v * 24 + 24) 38 (v' * 24 + k') = 0
      unfold clA
      split
      · rfl
      · exact hR.2.2.1.2 v' k' hv' hk' hc
  · rintro f k ⟨xa, xb, M2⟩ hk ⟨rfl, rfl, m1, m2⟩
    refine Or.inl ?_
    dsimp only at m1 m2 ⊢
    have h33 : M2.1 33 (8 * v + k) = M.1 33 (8 * v + k) := by rw [m2, if_neg (by omega)]
    have hp : bI (!decide (M.1 33 (8 * v + k) ≤ 0)) = n3 (decide (0 < A 38 (v * 24 + k))).toNat := by
      rw [LIw_pos (hR.2.2.1.1 v k hv hk), bI_n3, ← nn0, ns0]
      rfl
    rw [La_act_L996, if_neg (show ¬ ((8 : Int32) ≤ n3 k) by rw [show (8 : Int32) = n3 8 from rfl, n3_le (by omega) (by omega)]; omega), show (8 : Int32) * n3 v + n3 k = n3 (8 * v + k) by rw [show (8 : Int32) = n3 8 from rfl, n3_mul, n3_add], ldE_in _ (by omega) (by decide), Option.bind_some, stE_in _ _ _ (by omega) (by decide), Option.bind_some, h33, hp, n3_add, n3_s]
    refine ⟨(n3 (cnt (fun k => decide (0 < A 38 (v * 24 + k))) (k + 1)), n3 (k + 1), wI M2 33 (8 * v + k) 0), rfl, rfl, rfl, fun c j hc => ?_, fun j => ?_⟩
    · dsimp only
      rw [rd_ne hc]; exact m1 c j hc
    · dsimp only
      by_cases e : j = 8 * v + k
      · subst e
        rw [rd_eq, if_pos (by omega)]
      · rw [rd_nk e, m2]
        by_cases q : 8 * v ≤ j ∧ j < 8 * v + k
        · rw [if_pos q, if_pos (by omega)]
        · rw [if_neg q, if_neg (by omega)]
  · rintro f ⟨xa, xb, M2⟩ ⟨rfl, rfl, m1, m2⟩
    dsimp only at m1 m2 ⊢
    rw [La_act_L996, if_pos (show ((8 : Int32) ≤ n3 8) by decide)]
    exact ⟨_, rfl, _, M2, rfl, m1, m2⟩
