/-! The law's look at the page. -/
theorem LR.fr {A : aS} {M N : hyM} (h : LR A M) (g : ∀ c k, c < 34 → N.1 c k = M.1 c k) : LR A N := by
  obtain ⟨hT, hP, hl, ⟨d0, d2, d3, d4, d5⟩, h2, hq⟩ := h
  refine ⟨hT.fr (fun k => g _ _ (by decide)) (fun k => g _ _ (by decide)), fun i p hi hp => by rw [g _ _ (by decide)]; exact hP i p hi hp, ⟨fun v k hv hk => by rw [g _ _ (by decide)]; exact hl.1 v k hv hk, hl.2⟩, ⟨by rw [g _ _ (by decide)]; exact d0, by rw [g _ _ (by decide)]; exact d2, by rw [g _ _ (by decide)]; exact d3, by rw [g _ _ (by decide)]; exact d4, by rw [g _ _ (by decide)]; exact d5⟩, h2, fun k hk => by rw [g _ _ (by decide), g _ _ (by decide), g _ _ (by decide)]; exact hq k hk⟩
def pk6 (b0 b1 b2 b3 b4 b5 : Bool) : Int32 := mO (fun a b => if a = 0 then (if b = 1 then b0 else if b = 2 then b1 else b2) else if a = 1 then (if b = 2 then b3 else b4) else b5) 4
theorem pk6_all : ∀ b0 b1 b2 b3 b4 b5 : Bool, decide (pk6 b0 b1 b2 b3 b4 b5 ≤ 0) = decide (pk6 b0 b1 b2 b3 b4 b5 = 0) := by decide +kernel
theorem mO_pk6 (F : Nat → Nat → Bool) : mO F 4 = pk6 (F 0 1) (F 0 2) (F 0 3) (F 1 2) (F 1 3) (F 2 3) := rfl
theorem pmk_nn (g : Nat → Nat) (i : Nat) : decide (pmk g i ≤ 0) = decide (pmk g i = 0) := by
  unfold pmk
  rw [mO_pk6]
  exact pk6_all _ _ _ _ _ _
theorem fau_le (g : Nat → Nat) (n : Nat) : fau g n ≤ n := cnt_le _ _
theorem T_notes {A : aS} {C M : hyM} (hW : WFA A) (hC : CA A C) (hR : LR A M) (hs : LSu A M) : La_told_L45 (n3 (LA A).length) hyFu 0 0 0 C M = some (.inr (n3 (smN (A 31) (A 30 2)), n3 (fau (A 32) (A 30 2)), n3 (A 30 2), C, M)) := by
  have hT := hR.1
  have hN := hT.1
  refine lpE (fun f (s : Int32 × Int32 × Int32) => La_told_L45 (n3 (LA A).length) f s.1 s.2.1 s.2.2 C M) (fun j => (n3 (smN (A 31) j), n3 (fau (A 32) j), n3 j)) (A 30 2) _ ?_ ?_ hyFu 0 (Nat.zero_le _) (hyFu_big (by omega))
  · intro f j hj
    dsimp only
    obtain ⟨b1, b2, b3⟩ := LT_nw hW hT hj
    rw [La_told_L45, l_1, ldE_in _ (by decide) (by decide), hT.2.1, Option.bind_some, if_neg (by rw [n3_le (by omega) (by omega)]; omega), La_note_ok hW hC hR hs hj, Option.bind_some]
    dsimp only
    rw [if_pos rfl, l_5, n3_mul, ldE_in _ (by omega) (by decide), hT.2.2 j hj, Option.bind_some, La_parallels_ok hW hT hR.2.1 hj, Option.bind_some, (nw_ok b1 b2 b3).2.2.1, pmk_nn, bI_n3, n3_add, n3_add, show n3 j + n3 1 = n3 (j + 1) from n3_s j]
    rfl
  · intro f
    dsimp only
    rw [La_told_L45, l_1, ldE_in _ (by decide) (by decide), hT.2.1, Option.bind_some, if_pos (by rw [n3_le (by omega) (by omega)]; omega)]
theorem T_wide {A : aS} {M : hyM} (hW : WFA A) (hR : LR A M) (hs : LSu A M) {p : Nat} (hp : p < mA A) : ∃ y, La_told_L135 (n3 (LA A).length) M (n3 p) hyFu 0 (n3 (pfi (eA A) (A 30 2) p)) = some (n3 (phw (wA A) (eA A) (A 30 2) p), y) := by
  have hT := hR.1
  have hN := hT.1
  have hle := pfi_le_pla (e := eA A) (n := A 30 2) hp
  have hla := (pla_spec (e := eA A) (n := A 30 2) hp).1
  have key := lpE (fun f (s : Int32 × Int32) => La_told_L135 (n3 (LA A).length) M (n3 p) f s.1 s.2) (fun j => (n3 (smN (wA A) (pfi (eA A) (A 30 2) p + j) - smN (wA A) (pfi (eA A) (A 30 2) p)), n3 (pfi (eA A) (A 30 2) p + j))) (pla (eA A) (A 30 2) p + 1 - pfi (eA A) (A 30 2) p) (n3 (phw (wA A) (eA A) (A 30 2) p), n3 (pla (eA A) (A 30 2) p + 1)) ?_ ?_ hyFu 0 (Nat.zero_le _) (hyFu_big (by omega))
  · dsimp only at key
    rw [Nat.add_zero, Nat.sub_self] at key
    exact ⟨_, key⟩
  · intro f j hj
    dsimp only
    have hsm := smN_mono (wA A) (show pfi (eA A) (A 30 2) p ≤ pfi (eA A) (A 30 2) p + j by omega)
    rw [La_told_L135, La_last_ok hW hT hp, Option.bind_some, if_neg (by rw [n3_lt (by omega) (by omega)]; omega), La_column_ok hW hT hR.2.2.1 hs (by omega), Option.bind_some, n3_add, n3_s, ← Nat.add_assoc, show smN (wA A) (pfi (eA A) (A 30 2) p + j + 1) = smN (wA A) (pfi (eA A) (A 30 2) p + j) + wA A (pfi (eA A) (A 30 2) p + j) from rfl, Nat.sub_add_comm hsm]
  · intro f
    dsimp only
    rw [show pfi (eA A) (A 30 2) p + (pla (eA A) (A 30 2) p + 1 - pfi (eA A) (A 30 2) p) = pla (eA A) (A 30 2) p + 1 by omega, La_told_L135, La_last_ok hW hT hp, Option.bind_some, if_pos (by rw [n3_lt (by omega) (by omega)]; omega)]
    rfl
theorem T_times {A : aS} {M : hyM} (hW : WFA A) (hs : LSu A M) {p : Nat} (hp : p < mA A) : ∃ y, La_told_L174 (n3 (LA A).length) M (n3 p) hyFu 0 0 = some (n3 ((LA A).count p), y) := by
  have hm := mA_lt hW
  have h24 := hs.1
  have key := lpE (fun f (s : Int32 × Int32) => La_told_L174 (n3 (LA A).length) M (n3 p) f s.1 s.2) (fun j => (n3 (cnt (fun j => decide ((LA A)[j]? = some p)) j), n3 j)) (LA A).length (n3 ((LA A).count p), n3 (LA A).length) ?_ ?_ hyFu 0 (Nat.zero_le _) (hyFu_big (by omega))
  · exact ⟨_, key⟩
  · intro f j hj
    dsimp only
    have hkp := List.getElem?_eq_getElem hj
    have hpm : (LA A)[j] < mA A := LA_mem hW (List.getElem_mem hj)
    have e : decide ((LA A)[j] = p) = decide ((LA A)[j]? = some p) := by
      rw [hkp]
      apply decide_eq_decide.mpr
      exact ⟨fun z => by rw [z], fun z => Option.some.inj z⟩
    rw [La_told_L174, if_neg (by rw [n3_le (by omega) (by omega)]; omega), ldE_in _ (by omega) (by decide), hs.2 j _ hkp, Option.bind_some, dec_eq (by omega) (by omega), e, bI_n3, n3_add, n3_s]
    rfl
  · intro f
    dsimp only
    rw [La_told_L174, if_pos (by rw [n3_le (by omega) (by omega)]; omega), cnt_take _ _ _ (Nat.le_refl _), List.take_length]
/-- the system that is filled when p phrases stand -/
def sysN (A : aS) (p : Nat) : Int32 := if p = 0 then -1 else n3 (ssf (phw (wA A) (eA A) (A 30 2)) (A 30 13) p).1
def useN (A : aS) (p : Nat) : Nat := if p = 0 then 0 else (ssf (phw (wA A) (eA A) (A 30 2)) (A 30 13) p).2
theorem sys_s {A : aS} {p : Nat} (h : p ≠ 0) : sysN A (p + 1) = (if useN A p + phw (wA A) (eA A) (A 30 2) p ≤ A 30 13 then sysN A p else sysN A p + 1) ∧ useN A (p + 1) = (if useN A p + phw (wA A) (eA A) (A 30 2) p ≤ A 30 13 then useN A p else 0) + phw (wA A) (eA A) (A 30 2) p := by
  unfold sysN useN
  rw [if_neg (Nat.succ_ne_zero p), if_neg (Nat.succ_ne_zero p), if_neg h, if_neg h, ssf, if_neg h]
  by_cases c : A 30 13 < (ssf (phw (wA A) (eA A) (A 30 2)) (A 30 13) p).2 + phw (wA A) (eA A) (A 30 2) p
  · rw [if_pos c, if_neg (by omega), if_neg (by omega), n3_s]
    exact ⟨rfl, by dsimp only; omega⟩
  · rw [if_neg c, if_pos (by omega), if_pos (by omega)]
    exact ⟨rfl, rfl⟩
theorem T_phrases {A : aS} {C M : hyM} (hW : WFA A) (hC : CA A C) (hR : LR A M) (hs : LSu A M) : ∃ y z, La_told_L113 (n3 (LA A).length) (n3 (mA A)) C M hyFu 0 (-1) 0 0 = some (.inr (n3 (smN (wA A) (A 30 2)), sysN A (mA A), y, z)) := by
  have hT := hR.1
  have hN := hT.1
  have hmA := mA_le A
  have hn := hW.1.1
  have hpg := hW.2.2.1.2.2.2.2
  have hw13 : ∀ i, i < A 30 2 → wA A i ≤ 13 := fun i _ => (wA_le hW i).2
  have key := lpE (fun f (s : Int32 × Int32 × Int32 × Int32) => La_told_L113 (n3 (LA A).length) (n3 (mA A)) C M f s.1 s.2.1 s.2.2.1 s.2.2.2) (fun p => (n3 (smN (phw (wA A) (eA A) (A 30 2)) p), sysN A p, n3 (useN A p), n3 p)) (mA A) (.inr (n3 (smN (wA A) (A 30 2)), sysN A (mA A), n3 (useN A (mA A)), n3 (mA A))) ?_ ?_ hyFu 0 (Nat.zero_le _) (hyFu_big (by omega))
  · exact ⟨_, _, key⟩
  · intro f p hp
    dsimp only
    obtain ⟨y1, w1⟩ := T_wide hW hR hs hp
    obtain ⟨y2, w2⟩ := T_times hW hs hp
    have hpw := phw_le (w := wA A) (e := eA A) (n := A 30 2) hn hp hw13
    have hbd := ssf_bd' (w := wA A) (e := eA A) (n := A 30 2) (pg := A 30 13) hn hw13 (k := p) (by unfold mA at hp; omega)
    have g0 : rt (Hp_phrase (n3 p) 0 C) = some (n3 (pfi (eA A) (A 30 2) p)) := g_phrase hW hC hp (w := 0) (by decide)
    have g1 : rt (Hp_phrase (n3 p) 1 C) = some (n3 (pla (eA A) (A 30 2) p)) := g_phrase hW hC hp (w := 1) (by decide)
    have g2 : rt (Hp_phrase (n3 p) 2 C) = some (n3 (sly (eA A) (sA A) (A 30 2) p)) := g_phrase hW hC hp (w := 2) (by decide)
    have g3 : rt (Hp_phrase (n3 p) 3 C) = some (n3 (phw (wA A) (eA A) (A 30 2) p)) := g_phrase hW hC hp (w := 3) (by decide)
    have g4 : rt (Hp_phrase (n3 p) 4 C) = some (n3 (ssf (phw (wA A) (eA A) (A 30 2)) (A 30 13) (p + 1)).1) := g_phrase hW hC hp (w := 4) (by decide)
    have g5 : rt (Hp_phrase (n3 p) 5 C) = some (n3 ((LA A).count p)) := g_phrase hW hC hp (w := 5) (by decide)
    have f0 := La_first_ok hW hT hp
    have f1 := La_last_ok hW hT hp
    have f2 := La_syl_ok hW hT hp
    rw [La_told_L113, if_neg (show ¬ n3 (mA A) ≤ n3 p by rw [n3_le (by omega) (by omega)]; omega), f0, Option.bind_some, w1, Option.bind_some]
    dsimp only
    rw [w2, Option.bind_some]
    dsimp only
    by_cases c : p = 0
    · subst c
      rw [if_pos (show sysN A 0 < 0 from (by decide : (-1 : Int32) < 0)), g0, Option.bind_some, Option.bind_some, if_pos rfl, g1, Option.bind_some, f1, Option.bind_some, if_pos rfl, g2, Option.bind_some, Option.bind_some, Option.bind_some, f2, Option.bind_some, if_pos rfl, g3, Option.bind_some, if_pos rfl, g4, Option.bind_some, if_pos (show n3 (ssf (phw (wA A) (eA A) (A 30 2)) (A 30 13) (0 + 1)).1 = sysN A 0 + 1 from (by decide : (n3 0 : Int32) = -1 + 1)), g5, Option.bind_some, if_pos rfl, show (0 : Int32) = n3 0 from rfl, n3_add, n3_add, n3_s]
      show La_told_L113 (n3 (LA A).length) (n3 (mA A)) C M f (n3 (smN (phw (wA A) (eA A) (A 30 2)) 0 + phw (wA A) (eA A) (A 30 2) 0)) (sysN A 0 + 1) (n3 (0 + phw (wA A) (eA A) (A 30 2) 0)) (n3 (0 + 1)) = La_told_L113 (n3 (LA A).length) (n3 (mA A)) C M f (n3 (smN (phw (wA A) (eA A) (A 30 2)) 0 + phw (wA A) (eA A) (A 30 2) 0)) 0 (n3 (phw (wA A) (eA A) (A 30 2) 0)) (n3 (0 + 1))
      rw [Nat.zero_add, show sysN A 0 + 1 = 0 from (by decide : (-1 : Int32) + 1 = 0)]
    · obtain ⟨s1, s2⟩ := sys_s (A := A) c
      have hsys : sysN A p = n3 (ssf (phw (wA A) (eA A) (A 30 2)) (A 30 13) p).1 := if_neg c
      have huse : useN A p ≤ 12 * 520 := by
        unfold useN
        rw [if_neg c]
        have : p * 520 ≤ 12 * 520 := Nat.mul_le_mul_right _ (by omega)
        omega
      have hcond : (if n3 (useN A p) + n3 (phw (wA A) (eA A) (A 30 2) p) ≤ n3 (A 30 13) then sysN A p else sysN A p + 1) = sysN A (p + 1) := by
        rw [n3_add, ite_le (by omega) (by omega), ← s1]
      have hcond2 : (if n3 (useN A p) + n3 (phw (wA A) (eA A) (A 30 2) p) ≤ n3 (A 30 13) then n3 (useN A p) else 0) + n3 (phw (wA A) (eA A) (A 30 2) p) = n3 (useN A (p + 1)) := by
        rw [n3_add, ite_le (by omega) (by omega), s2]
        by_cases z : useN A p + phw (wA A) (eA A) (A 30 2) p ≤ A 30 13
        · rw [if_pos z, if_pos z, n3_add]
        · rw [if_neg z, if_neg z, show (0 : Int32) = n3 0 from rfl, n3_add]
      have hnlt : ¬ sysN A p < 0 := by rw [hsys, l_0, n3_lt (by omega) (by omega)]; omega
      have h4 : n3 (ssf (phw (wA A) (eA A) (A 30 2)) (A 30 13) (p + 1)).1 = sysN A (p + 1) := (if_neg (Nat.succ_ne_zero p)).symm
      rw [if_neg hnlt, show ldE 6 (M.1 30) 4 = some (n3 (A 30 13)) from by rw [l_4, ldE_in _ (by decide) (by decide), hR.2.2.2.1.2.2.2.1], Option.bind_some, hcond, hcond2, g0, Option.bind_some, Option.bind_some, if_pos rfl, g1, Option.bind_some, f1, Option.bind_some, if_pos rfl, g2, Option.bind_some, Option.bind_some, Option.bind_some, f2, Option.bind_some, if_pos rfl, g3, Option.bind_some, if_pos rfl, g4, Option.bind_some, if_pos h4, g5, Option.bind_some, if_pos rfl, n3_add, n3_s]
      rfl
  · intro f
    dsimp only
    rw [La_told_L113, if_pos (by rw [n3_le (by omega) (by omega)]; omega)]
    unfold mA
    rw [phw_sum]
theorem T_sung {A : aS} {C M : hyM} (hW : WFA A) (hC : CA A C) (hs : LSu A M) : La_told_L353 (n3 (LA A).length) C M hyFu 0 = some (.inr (n3 (LA A).length)) := by
  have h24 := hs.1
  refine lpE (fun f (s : Int32) => La_told_L353 (n3 (LA A).length) C M f s) (fun j => n3 j) (LA A).length _ ?_ ?_ hyFu 0 (Nat.zero_le _) (hyFu_big (by omega))
  · intro f j hj
    try dsimp only
    have hkp := List.getElem?_eq_getElem hj
    rw [La_told_L353, if_neg (by rw [n3_le (by omega) (by omega)]; omega), g_sung hW hC hkp, Option.bind_some, ldE_in _ (by omega) (by decide), hs.2 j _ hkp, Option.bind_some, if_pos rfl, n3_s]
  · intro f
    try dsimp only
    rw [La_told_L353, if_pos (by rw [n3_le (by omega) (by omega)]; omega)]
theorem T_lines {A : aS} {C M : hyM} (hW : WFA A) (hC : CA A C) (hR : LR A M) {v : Nat} (hv : v < 4) : ∃ y, La_told_L440 C M (n3 v) hyFu 0 = some (.inr y) := by
  have hl := hR.2.2.1
  have stop : ∀ f k, k ≤ 8 → (8 ≤ k ∨ 2 ≤ v) → La_told_L440 C M (n3 v) (f + 1) (n3 k) = some (.inr (n3 k)) := by
    intro f k hk c
    rw [La_told_L440, if_neg (show ¬ (if (8 : Int32) ≤ n3 k then false else (!decide ((2 : Int32) ≤ n3 v))) = true by
      rw [show (8 : Int32) = n3 8 from rfl, ite_le (by omega) (by omega), l_2, dec_le (by omega) (by omega)]
      by_cases c8 : 8 ≤ k
      · rw [if_pos c8]; decide
      · rw [if_neg c8, decide_eq_true (by omega)]; decide)]
  by_cases c : 2 ≤ v
  · exact ⟨n3 0, stop 99999 0 (by decide) (Or.inr c)⟩
  · refine ⟨n3 8, lpE (fun f (s : Int32) => La_told_L440 C M (n3 v) f s) (fun j => n3 j) 8 _ ?_ ?_ hyFu 0 (Nat.zero_le _) (hyFu_big (by omega))⟩
    · intro f k hk
      try dsimp only
      have hw := hl.1 v k (by omega) hk
      have hVl := hW.2.2.2.1 (v * 24 + k)
      have g0 : (Hp_line (n3 v) (n3 k) 0 C).bind rt = some (n3 (nsS (rwT A (v * 24 + k)) (rwL A (v * 24 + k)))) := g_line hW hC hv (show k < 24 by omega) (w := 0) (by decide)
      have g1 : (Hp_line (n3 v) (n3 k) 1 C).bind rt = some (n3 (wdS (rwT A (v * 24 + k)) (rwL A (v * 24 + k)))) := g_line hW hC hv (show k < 24 by omega) (w := 1) (by decide)
      have g2 : (Hp_line (n3 v) (n3 k) 2 C).bind rt = some (n3 (loS (rwT A (v * 24 + k)) (rwL A (v * 24 + k)))) := g_line hW hC hv (show k < 24 by omega) (w := 2) (by decide)
      rw [La_told_L440, if_pos (show (if (8 : Int32) ≤ n3 k then false else (!decide ((2 : Int32) ≤ n3 v))) = true by
        rw [show (8 : Int32) = n3 8 from rfl, ite_le (by omega) (by omega), l_2, dec_le (by omega) (by omega), if_neg (by omega), decide_eq_false (by omega)]; rfl), show (8 : Int32) * n3 v = n3 (8 * v) from by rw [show (8 : Int32) = n3 8 from rfl, n3_mul], n3_add, ldE_in _ (by omega) (by decide), Option.bind_some, La_words_ok hw, Option.bind_some]
      dsimp only
      rw [g0, Option.bind_some, La_size_ok hw, Option.bind_some, if_pos rfl, g1, Option.bind_some, if_pos (by rw [words_eq hVl]), g2, Option.bind_some, if_pos (show n3 (loS (rwT A (v * 24 + k)) (rwL A (v * 24 + k))) = n3 (mxN (szS (rwT A (v * 24 + k)) (rwL A (v * 24 + k))) (nsS (rwT A (v * 24 + k)) (rwL A (v * 24 + k)))) from rfl), n3_s]
    · intro f
      exact stop f 8 (Nat.le_refl _) (Or.inl (Nat.le_refl _))
theorem fitV_ge (A : aS) (v : Nat) : (0 ≤ fitV A v) ↔ ¬ fitV A v = -1 := by
  unfold fitV
  have hn : ∀ d k q, k + d < 2000 → fsr (misf A v) d k = some q → q < 2000 := by
    intro d
    induction d with
    | zero => intro k q _ h; cases h
    | succ d ih =>
      intro k q hk h
      rw [fsr] at h
      by_cases c : misf A v k = true
      · rw [if_pos c] at h; cases h; omega
      · rw [if_neg c] at h; exact ih (k + 1) q (by omega) h
  cases e : fsr (misf A v) 24 0 with
  | some q =>
    have := hn 24 0 q (by decide) e
    dsimp only
    rw [l_0, n3_le (by omega) (by omega), n3_m1 (by omega)]
    simp
  | none =>
    dsimp only
    split
    · decide
    · decide
theorem T_verses {A : aS} {C M : hyM} (hW : WFA A) (hC : CA A C) (hR : LR A M) (hs : LSu A M) : La_told_L385 (n3 (LA A).length) C M hyFu 0 0 = some (.inr (ftV A 4, n3 4)) := by
  refine lpE (fun f (s : Int32 × Int32) => La_told_L385 (n3 (LA A).length) C M f s.1 s.2) (fun v => (ftV A v, n3 v)) 4 _ ?_ ?_ hyFu 0 (Nat.zero_le _) (hyFu_big (by omega))
  · intro f v hv
    dsimp only
    obtain ⟨y, hy⟩ := T_lines hW hC hR hv
    rw [La_told_L385, if_neg (show ¬ (4 : Int32) ≤ n3 v by rw [l_4, n3_le (by omega) (by omega)]; omega), La_fit_ok hW hR.1 hR.2.2.1 hs hv, Option.bind_some, g_fit hW hC hv, Option.bind_some, if_pos rfl, hy, Option.bind_some]
    dsimp only
    rw [n3_s, ftV]
    by_cases c : fitV A v = -1
    · rw [if_pos c, if_neg (fun z => (fitV_ge A v).mp z c)]
    · rw [if_neg c, if_pos ((fitV_ge A v).mpr c), or0]
  · intro f
    dsimp only
    rw [La_told_L385, if_pos (by decide)]
