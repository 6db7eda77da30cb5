/-! Calls that change numbers alone: pitches, bars, keys, the input. -/
def dce (c : Nat) : Bool := Nat.ble 12 c && Nat.ble c 24
theorem CD.fr {A : aS} {M N : hyM} (h : CD A M) (g : ∀ c k, dce c = true → N.1 c k = M.1 c k) : CD A N := by
  obtain ⟨⟨x1, x2, x3, x4⟩, ⟨o1, o2, o3⟩, ⟨y1, y2, y3, y4⟩⟩ := h
  refine ⟨⟨by rw [g _ _ rfl]; exact x1, fun i hi => by rw [g _ _ rfl]; exact x2 i hi, fun i hi => by rw [g _ _ rfl]; exact x3 i hi, fun p hp => ?_⟩, ⟨by rw [g _ _ rfl]; exact o1, fun i x hx => by rw [g _ _ rfl]; exact o2 i x hx, fun p hp => by rw [g _ _ rfl]; exact o3 p hp⟩, ⟨fun i hi => by rw [g _ _ rfl]; exact y1 i hi, fun p hp => ?_, by rw [g _ _ rfl]; exact y3, by rw [g _ _ rfl]; exact y4⟩⟩
  · rw [g _ _ rfl, g _ _ rfl, g _ _ rfl]; exact x4 p hp
  · rw [g _ _ rfl, g _ _ rfl]; exact y2 p hp
theorem dce_w {M : hyM} {c k : Nat} {x : Int32} (hc : dce c = false) : ∀ c' k', dce c' = true → (wI M c k x).1 c' k' = M.1 c' k' := fun c' k' h => rd_ne (fun e => by rw [e, hc] at h; cases h)
theorem s_setPitch {T : hyT} (h : INV T) (a b g : Int32) : okS (La_setPitch a b g T) (Rf_setPitch a b g) := by
  obtain ⟨A, hW, hC, hR⟩ := h
  have hn := hW.1.1
  have e1 : Hp_checkIndex a (T.1.1 1 4) T.1 = if ixB a (A 30 2) = true then .inr () else .inl 3 := by rw [CA_n hC, ckI]
  have e1b : Hp_checkIndex b 4 T.1 = if ixB b 4 = true then .inr () else .inl 3 := ckI b 4 T.1
  have e2 := ckR g 36 84 T.1 T.2.1
  have e3 := isPart_eq hW hR a b
  have bad : Rf_isPart a b T.2.1 = false → La_setPitch a b g T = some (1, T) → okS (La_setPitch a b g T) (Rf_setPitch a b g) := by
    intro q1 q2
    refine fin_t (T := T) (k := 1) (b := 0) (N := wI T.2.1 30 0 1) (by decide) hW hC (RI.w hR rfl) q2 ?_ (rd_eq _ _ _ _)
    rw [Rf_setPitch, q1, if_neg (by decide), Option.bind_some, rd_eq, if_neg gt0.1]
  rcases Bool.eq_false_or_eq_true (ixB a (A 30 2)) with c | c
  · rw [c, if_pos rfl] at e1
    rcases Bool.eq_false_or_eq_true (ixB b 4) with c2 | c2
    · rw [c2, if_pos rfl] at e1b
      rw [c, c2] at e3
      have e5 : Rf_isPitch g T.2.1 = Rf_within g 36 84 T.2.1 := rfl
      rcases Bool.eq_false_or_eq_true (Rf_within g 36 84 T.2.1) with d | d
      · rw [d, if_pos rfl] at e2
        obtain ⟨i, rfl, hi⟩ := ix_n3 c (by omega)
        obtain ⟨p, rfl, hp⟩ := ix_n3 c2 (by decide)
        obtain ⟨w, rfl, hw1, hw2⟩ := wi_n3 (lo := 36) (hi := 84) d (by decide) (by decide)
        have hidx : 4 * n3 i + n3 p = n3 (4 * i + p) := by rw [l_4, n3_mul, n3_add]
        have hcp : Tu_changePitch (n3 i) (n3 p) (n3 w) T.1 = wI T.1 3 (4 * i + p) (n3 w) := by
          unfold Tu_changePitch
          rw [l_4, n3_mul, n3_add, putf_in _ _ _ (by omega) (by decide), Nat.mul_comm]
        have hW' : WFA (uA A 32 (4 * i + p) w) := by
          refine ⟨⟨hW.1.1, hW.1.2.1, hW.1.2.2.1, fun j hj => ?_, hW.1.2.2.2.2⟩, hW.2.1, hW.2.2.1, hW.2.2.2.1, hW.2.2.2.2.1, hW.2.2.2.2.2⟩
          unfold uA
          by_cases q : j = 4 * i + p
          · rw [if_pos ⟨rfl, q⟩]; exact ⟨hw1, hw2⟩
          · rw [if_neg (fun z => q z.2)]; exact hW.1.2.2.2.1 j hj
        have hC' : CA (uA A 32 (4 * i + p) w) (wI T.1 3 (4 * i + p) (n3 w)) := by
          obtain ⟨⟨a1, a2, a3, a4, a5⟩, bb, cc, qq, v, mm, ii⟩ := hC.1
          refine ⟨⟨⟨a1, a2, a3, a4, fun j => ?_⟩, bb, cc, qq, v, mm, ii⟩, CD.fr (M := T.1) (A := uA A 32 (4 * i + p) w) hC.2 (dce_w rfl)⟩
          rw [rd_wI]
          unfold uA
          by_cases q : j = 4 * i + p
          · rw [if_pos ⟨rfl, q⟩, if_pos ⟨rfl, q⟩]
          · rw [if_neg (fun z => q z.2), if_neg (fun z => q z.2)]; exact a5 j
        have hR' : RI (uA A 32 (4 * i + p) w) (wI (wI T.2.1 30 0 0) 32 (4 * i + p) (n3 w)) := RI.u (RI.w hR rfl) 32 (4 * i + p) w
        refine fin_v (T := T) (v := n3 (A 32 (4 * i + p))) hW' hC' hR' (by rw [rd_ne (by decide), rd_eq]) ?_ ?_
        · rw [La_setPitch, Hp_setPitch, e1]
          dsimp only
          rw [e1b]
          dsimp only
          rw [show Hp_checkPitch (n3 w) T.1 = .inr () from by rw [Hp_checkPitch, e2]]
          dsimp only
          rw [Tu_pitch_ok (CA_pit hC) (by omega) hp, hcp]
          rfl
        · rw [Rf_setPitch, e3, if_pos (by rfl), e5, d, if_pos rfl, Option.bind_some, rd_eq, if_pos gt0.2.2.2, hidx, ldE_in _ (by omega) (by decide), Option.bind_some, stE_in _ _ _ (by omega) (by decide), Option.bind_some, rd_ne (by decide), hR 32 _ rfl]
      · rw [d, if_neg (by decide)] at e2
        refine fin_t (T := T) (k := 2) (b := 0) (N := wI T.2.1 30 0 2) (by decide) hW hC (RI.w hR rfl) ?_ ?_ (rd_eq _ _ _ _)
        · rw [La_setPitch, Hp_setPitch, e1]
          dsimp only
          rw [e1b]
          dsimp only
          rw [show Hp_checkPitch g T.1 = .inl 1 from by rw [Hp_checkPitch, e2]]
          rfl
        · rw [Rf_setPitch, e3, if_pos (by rfl), e5, d, if_neg (by decide), Option.bind_some, rd_eq, if_neg gt0.2.1]
    · rw [c2, if_neg (by decide)] at e1b
      rw [c, c2] at e3
      refine bad e3 ?_
      rw [La_setPitch, Hp_setPitch, e1]
      dsimp only
      rw [e1b]
      rfl
  · rw [c, if_neg (by decide)] at e1
    rw [c] at e3
    refine bad e3 ?_
    rw [La_setPitch, Hp_setPitch, e1]
    rfl
theorem s_setBars {T : hyT} (h : INV T) (a b : Int32) : okS (La_setBars a b T) (fun N => some (Rf_setBars a b N)) := by
  obtain ⟨A, hW, hC, hR⟩ := h
  obtain ⟨hb1, hb2, hu, hp1, hp2⟩ := hW.2.2.1
  have e1 := ckR a 2 24 T.1 T.2.1
  have e2 := ckR b 0 (a - 1) T.1 T.2.1
  have bad : (if Rf_within a 2 24 T.2.1 = true then (!(Rf_within b 0 (a - 1) T.2.1)) else true) = true → La_setBars a b T = some (1, T) → okS (La_setBars a b T) (fun N => some (Rf_setBars a b N)) := by
    intro q1 q2
    refine fin_t (T := T) (k := 1) (b := 0) (N := wI T.2.1 30 0 1) (by decide) hW hC (RI.w hR rfl) q2 ?_ (rd_eq _ _ _ _)
    show some (Rf_setBars a b T.2.1) = _
    rw [Rf_setBars, q1, show bI true = 1 from rfl, rd_eq, if_neg gt0.1]
  rcases Bool.eq_false_or_eq_true (Rf_within a 2 24 T.2.1) with c | c
  · rw [c, if_pos rfl] at e1
    rcases Bool.eq_false_or_eq_true (Rf_within b 0 (a - 1) T.2.1) with d | d
    · rw [d, if_pos rfl] at e2
      obtain ⟨k, rfl, hk1, hk2⟩ := wi_n3 (lo := 2) (hi := 24) c (by decide) (by decide)
      rw [show n3 k - 1 = n3 (k - 1) from by rw [l_1, n3_sub (by omega)]] at d
      obtain ⟨u, rfl, -, hu2⟩ := wi_n3 (lo := 0) (hi := k - 1) d (by decide) (by omega)
      rw [← show n3 k - 1 = n3 (k - 1) from by rw [l_1, n3_sub (by omega)]] at d
      have hW' : WFA (uA (uA A 30 11 k) 30 12 u) := ⟨hW.1, hW.2.1, ⟨hk1, hk2, show u < k by omega, hp1, hp2⟩, hW.2.2.2.1, hW.2.2.2.2.1, hW.2.2.2.2.2⟩
      have hC' : CA (uA (uA A 30 11 k) 30 12 u) (wI (wI T.1 4 0 (n3 k)) 4 1 (n3 u)) := by
        obtain ⟨aa, bb, cc, qq, v, mm, ii⟩ := hC.1
        exact ⟨⟨aa, bb, ⟨rfl, rfl⟩, qq, v, mm, ii⟩, CD.fr (M := wI T.1 4 0 (n3 k)) (A := uA (uA A 30 11 k) 30 12 u) (CD.fr (M := T.1) (A := uA (uA A 30 11 k) 30 12 u) hC.2 (dce_w rfl)) (dce_w rfl)⟩
      have hR' : RI (uA (uA A 30 11 k) 30 12 u) (wI (wI (wI T.2.1 30 0 0) 30 11 (n3 k)) 30 12 (n3 u)) := RI.u (RI.u (RI.w hR rfl) 30 11 k) 30 12 u
      refine fin_v (T := T) (v := n3 (A 30 11)) hW' hC' hR' rfl ?_ ?_
      · rw [La_setBars, Hp_setBars, e1]
        dsimp only
        rw [e2]
        dsimp only
        rw [hC.1.2.2.1.1]
        rfl
      · show some (Rf_setBars (n3 k) (n3 u) T.2.1) = _
        rw [Rf_setBars, c, if_pos rfl, d, show bI (!true) = 0 from rfl, rd_eq, if_pos gt0.2.2.2, rd_nk (by decide), hR 30 11 rfl]
    · rw [d, if_neg (by decide)] at e2
      refine bad (by rw [c, if_pos rfl, d]; rfl) ?_
      rw [La_setBars, Hp_setBars, e1]
      dsimp only
      rw [e2]
      rfl
  · rw [c, if_neg (by decide)] at e1
    refine bad (by rw [c, if_neg (by decide)]) ?_
    rw [La_setBars, Hp_setBars, e1]
    rfl
/-! the input -/
theorem s_append {T : hyT} (h : INV T) (a : Int32) : okS (La_append a T) (Rf_append a) := by
  obtain ⟨A, hW, hC, hR⟩ := h
  obtain ⟨hi1, hi2⟩ := hW.2.2.2.2.2
  have e1 := ckR a 32 126 T.1 T.2.1
  have h28 : T.1.1 28 1 = n3 (A 30 19) := hC.1.2.2.2.2.2.2.1
  have h29 : ∀ i, T.1.1 29 i = n3 (A 42 i) := hC.1.2.2.2.2.2.2.2
  have h19 : T.2.1.1 30 19 = n3 (A 30 19) := hR 30 19 rfl
  rcases Bool.eq_false_or_eq_true (Rf_within a 32 126 T.2.1) with c | c
  · rw [c, if_pos rfl] at e1
    obtain ⟨k, rfl, hk1, hk2⟩ := wi_n3 (lo := 32) (hi := 126) c (by decide) (by decide)
    by_cases d : A 30 19 < 60
    · have ep : In_push (n3 k) T.1 = wI (wI T.1 29 (A 30 19) (n3 k)) 28 1 (n3 (A 30 19 + 1)) := by
        unfold In_push
        rw [h28, putf_in _ _ _ d (by decide), rd_ne (by decide), h28, n3_s]
      have hW' : WFA (uA (uA A 42 (A 30 19) k) 30 19 (A 30 19 + 1)) := by
        refine ⟨hW.1, hW.2.1, hW.2.2.1, hW.2.2.2.1, hW.2.2.2.2.1, show A 30 19 + 1 ≤ 60 by omega, fun i => ?_⟩
        show uA A 42 (A 30 19) k 42 i < 128
        unfold uA
        by_cases q : i = A 30 19
        · rw [if_pos ⟨rfl, q⟩]; omega
        · rw [if_neg (fun z => q z.2)]; exact hi2 i
      have hC' : CA (uA (uA A 42 (A 30 19) k) 30 19 (A 30 19 + 1)) (wI (wI T.1 29 (A 30 19) (n3 k)) 28 1 (n3 (A 30 19 + 1))) := by
        obtain ⟨aa, bb, cc, qq, v, mm, ii⟩ := hC.1
        refine ⟨⟨aa, bb, cc, qq, v, mm, rfl, fun i => ?_⟩, CD.fr (M := wI T.1 29 (A 30 19) (n3 k)) (A := uA (uA A 42 (A 30 19) k) 30 19 (A 30 19 + 1)) (CD.fr (M := T.1) (A := uA (uA A 42 (A 30 19) k) 30 19 (A 30 19 + 1)) hC.2 (dce_w rfl)) (dce_w rfl)⟩
        show (wI T.1 29 (A 30 19) (n3 k)).1 29 i = n3 (uA A 42 (A 30 19) k 42 i)
        rw [rd_wI]
        unfold uA
        by_cases q : i = A 30 19
        · rw [if_pos ⟨rfl, q⟩, if_pos ⟨rfl, q⟩]
        · rw [if_neg (fun z => q z.2), if_neg (fun z => q z.2)]; exact h29 i
      have hR' : RI (uA (uA A 42 (A 30 19) k) 30 19 (A 30 19 + 1)) (wI (wI (wI T.2.1 30 0 0) 42 (A 30 19) (n3 k)) 30 19 (n3 (A 30 19 + 1))) := RI.u (RI.u (RI.w hR rfl) 42 (A 30 19) k) 30 19 (A 30 19 + 1)
      refine fin_v (T := T) (v := n3 (A 30 19 + 1)) hW' hC' hR' rfl ?_ ?_
      · rw [La_append, Hp_append, e1]
        dsimp only
        rw [h28, if_pos (by rw [l_60, n3_lt (by omega) (by omega)]; exact d), ep]
        rfl
      · rw [Rf_append, c, if_pos rfl, h19, if_neg (by rw [l_60, n3_eq (by omega) (by omega)]; omega), Option.bind_some, rd_eq, if_pos gt0.2.2.2, rd_nk (by decide), h19, stE_in _ _ _ d (by decide), Option.bind_some, rd_ne (by decide), rd_nk (by decide), h19, n3_s, Option.bind_some, rd_eq]
    · refine fin_t (T := T) (k := 2) (b := 0) (N := wI T.2.1 30 0 2) (by decide) hW hC (RI.w hR rfl) ?_ ?_ (rd_eq _ _ _ _)
      · rw [La_append, Hp_append, e1]
        dsimp only
        rw [h28, if_neg (by rw [l_60, n3_lt (by omega) (by omega)]; exact d)]
        rfl
      · rw [Rf_append, c, if_pos rfl, h19, if_pos (by rw [l_60, n3_eq (by omega) (by omega)]; omega), Option.bind_some, rd_eq, if_neg gt0.2.1]
  · rw [c, if_neg (by decide)] at e1
    refine fin_t (T := T) (k := 1) (b := 0) (N := wI T.2.1 30 0 1) (by decide) hW hC (RI.w hR rfl) ?_ ?_ (rd_eq _ _ _ _)
    · rw [La_append, Hp_append, e1]
      rfl
    · rw [Rf_append, c, if_neg (by decide), Option.bind_some, rd_eq, if_neg gt0.1]
theorem inp0 {A : aS} {M N : hyM} (hW : WFA A) (hC : CA A M) (hR : RI A N) : WFA (uA A 30 19 0) ∧ CA (uA A 30 19 0) (wI M 28 1 0) ∧ RI (uA A 30 19 0) (wI N 30 19 0) := by
  refine ⟨⟨hW.1, hW.2.1, hW.2.2.1, hW.2.2.2.1, hW.2.2.2.2.1, show 0 ≤ 60 by decide, hW.2.2.2.2.2.2⟩, ?_, RI.u hR 30 19 0⟩
  obtain ⟨aa, bb, cc, qq, v, mm, ii⟩ := hC.1
  exact ⟨⟨aa, bb, cc, qq, v, mm, rfl, ii.2⟩, CD.fr (M := M) (A := uA A 30 19 0) hC.2 (dce_w rfl)⟩
theorem s_clearInput {T : hyT} (h : INV T) : ∃ v M N, Hp_clearInput T.1 = (v, M) ∧ Rf_clearInput T.2.1 = (v, N) ∧ INV (M, N, T.2.2) := by
  obtain ⟨A, hW, hC, hR⟩ := h
  obtain ⟨a, b, c⟩ := inp0 hW hC (RI.w hR (c := 30) (k := 0) (x := 0) rfl)
  have h28 : T.1.1 28 1 = n3 (A 30 19) := hC.1.2.2.2.2.2.2.1
  refine ⟨n3 (A 30 19), _, _, ?_, ?_, _, a, b, c⟩
  · rw [Hp_clearInput, h28]; rfl
  · rw [Rf_clearInput, rd_nk (by decide), hR 30 19 rfl]; rfl
/-! transposing -/
theorem by_n3 {a : Int32} {N : hyM} (h : Rf_within a (-24) 24 N = true) : ∃ k, a = n3 k - n3 24 ∧ k ≤ 48 := by
  rw [wi_eq, Bool.and_eq_true, decide_eq_true_eq, decide_eq_true_eq, Int32.le_iff_toInt_le, Int32.le_iff_toInt_le] at h
  have h1 : (-24 : Int32).toInt = -24 := by decide
  have h2 : (24 : Int32).toInt = 24 := by decide
  rw [h1, h2] at h
  refine ⟨(a.toInt + 24).toNat, ?_, by omega⟩
  have e : a = Int32.ofInt a.toInt := (Int32.ofInt_toInt a).symm
  have e2 : a.toInt = ((a.toInt + 24).toNat : Int) - ((24 : Nat) : Int) := by omega
  rw [e2] at e
  rw [Int32.ofInt_sub, Int32.ofInt_eq_ofNat, Int32.ofInt_eq_ofNat] at e
  exact e
theorem pit_by {p k : Nat} (h : 24 ≤ p + k) : n3 p + (n3 k - n3 24) = n3 (p + k - 24) := by
  rw [Int32.sub_eq_add_neg, ← Int32.add_assoc, ← Int32.sub_eq_add_neg, n3_add, n3_sub h]
theorem k_ton : ∀ t : Fin 12, ∀ k : Fin 49, Jm_floorMod (n3 t.val + (n3 k.val - n3 24)) 12 hM0 = some (n3 ((t.val + k.val) % 12)) ∧ ((n3 t.val + (n3 k.val - n3 24)) + 24) - ((n3 t.val + (n3 k.val - n3 24)) + 24) / 12 * 12 = n3 ((t.val + k.val) % 12) := by decide +kernel
/-- all pitches would stay within -/
def cmv (A : aS) (k : Nat) : Bool := (List.range (4 * A 30 2)).all (fun i => decide (36 + 24 ≤ A 32 i + k) && decide (A 32 i + k ≤ 84 + 24))
theorem cmv_iff {A : aS} {k : Nat} : cmv A k = true ↔ ∀ i, i < 4 * A 30 2 → 36 + 24 ≤ A 32 i + k ∧ A 32 i + k ≤ 84 + 24 := by
  unfold cmv
  rw [List.all_eq_true]
  constructor
  · intro h i hi
    have := h i (List.mem_range.mpr hi)
    simpa using this
  · intro h i hi
    simpa using h i (List.mem_range.mp hi)
theorem canMove_ok {A : aS} {M : hyM} (hW : WFA A) (hC : CA A M) {k : Nat} (hk : k ≤ 48) : Tu_canMove (n3 k - n3 24) M = some (cmv A k) := by
  have hn := hW.1.1
  have key := lpI (σ := Int32) (fun f s => Tu_canMove_L2 (n3 k - n3 24) M f s) (fun j s => s = n3 j ∧ ∀ i, i < j → 36 + 24 ≤ A 32 i + k ∧ A 32 i + k ≤ 84 + 24) (4 * A 30 2) (fun r => (r = .inl false ∧ cmv A k = false) ∨ (cmv A k = true ∧ ∃ y, r = .inr y)) ?_ ?_ hyFu 0 (n3 0) (Nat.zero_le _) (hyFu_big (by omega)) ⟨rfl, fun i hi => absurd hi (Nat.not_lt_zero _)⟩
  · obtain ⟨r, e1, e2⟩ := key
    have e1 : Tu_canMove_L2 (n3 k - n3 24) M hyFu (n3 0) = some r := e1
    rw [Tu_canMove, show (0 : Int32) = n3 0 from rfl, e1, Option.bind_some]
    rcases e2 with ⟨rfl, q⟩ | ⟨q, y, rfl⟩
    · rw [q]
    · rw [q]
  · rintro f j s hj ⟨rfl, hi⟩
    have hg := hW.1.2.2.2.1 j hj
    show (∃ s', Tu_canMove_L2 (n3 k - n3 24) M (f + 1) (n3 j) = Tu_canMove_L2 (n3 k - n3 24) M f s' ∧ _) ∨ ∃ r, Tu_canMove_L2 (n3 k - n3 24) M (f + 1) (n3 j) = some r ∧ _
    have hc : (if (atf 160 (M.1 3) (n3 j) + (n3 k - n3 24)) < 36 then true else (!decide ((atf 160 (M.1 3) (n3 j) + (n3 k - n3 24)) ≤ 84))) = !(decide (36 + 24 ≤ A 32 j + k) && decide (A 32 j + k ≤ 84 + 24)) := by
      rw [atf_in _ (by omega) (by decide), CA_pit hC, pit_by (by omega), l_36, l_84, ite_lt (by omega) (by omega), dec_le (by omega) (by omega)]
      by_cases q : A 32 j + k - 24 < 36
      · have : ¬ 36 + 24 ≤ A 32 j + k := by omega
        rw [if_pos q]; simp [this] <;> omega
      · have h1 : 36 + 24 ≤ A 32 j + k := by omega
        rw [if_neg q]
        by_cases q2 : A 32 j + k - 24 ≤ 84
        · have h2 : A 32 j + k ≤ 84 + 24 := by omega
          simp [q2, h1, h2] <;> omega
        · have h2 : ¬ A 32 j + k ≤ 84 + 24 := by omega
          simp [q2, h2] <;> omega
    rw [Tu_canMove_L2, CA_n hC, if_neg (by rw [l_4, n3_mul, n3_le (by omega) (by omega)]; omega), hc]
    by_cases q : 36 + 24 ≤ A 32 j + k ∧ A 32 j + k ≤ 84 + 24
    · have : (!(decide (36 + 24 ≤ A 32 j + k) && decide (A 32 j + k ≤ 84 + 24))) = false := by simp [q.1, q.2] <;> omega
      rw [this, if_neg (by decide), n3_s]
      refine Or.inl ⟨_, rfl, rfl, fun i hi2 => ?_⟩
      by_cases e : i = j
      · subst e; exact q
      · exact hi i (by omega)
    · have : (!(decide (36 + 24 ≤ A 32 j + k) && decide (A 32 j + k ≤ 84 + 24))) = true := by
        by_cases q1 : 36 + 24 ≤ A 32 j + k
        · have q2 : ¬ A 32 j + k ≤ 84 + 24 := fun z => q ⟨q1, z⟩
          simp [q2] <;> omega
        · simp [q1] <;> omega
      rw [this, if_pos rfl]
      refine Or.inr ⟨_, rfl, Or.inl ⟨rfl, ?_⟩⟩
      cases z : cmv A k with
      | false => rfl
      | true => exact absurd (cmv_iff.mp z j hj) q
  · rintro f s ⟨rfl, hi⟩
    show ∃ r, Tu_canMove_L2 (n3 k - n3 24) M (f + 1) (n3 (4 * A 30 2)) = some r ∧ _
    rw [Tu_canMove_L2, CA_n hC, if_pos (by rw [l_4, n3_mul, n3_le (by omega) (by omega)]; omega)]
    exact ⟨_, rfl, Or.inr ⟨cmv_iff.mpr hi, _, rfl⟩⟩
theorem canTr_ok {A : aS} {N : hyM} (hW : WFA A) (hR : RI A N) {k : Nat} (hk : k ≤ 48) : Rf_canTranspose (n3 k - n3 24) N = some (cmv A k) := by
  have hn := hW.1.1
  have h2 : N.1 30 2 = n3 (A 30 2) := hR 30 2 rfl
  have h32 : ∀ j, N.1 32 j = n3 (A 32 j) := fun j => hR 32 j rfl
  have key := lpI (σ := Bool × Int32) (fun f s => Rf_canTranspose_L4 (n3 k - n3 24) N f s.1 s.2) (fun j s => s.2 = n3 j ∧ (s.1 = true ↔ ∀ i, i < j → 36 + 24 ≤ A 32 i + k ∧ A 32 i + k ≤ 84 + 24)) (4 * A 30 2) (fun r => r.1 = cmv A k) ?_ ?_ hyFu 0 (true, n3 0) (Nat.zero_le _) (hyFu_big (by omega)) ⟨rfl, ⟨fun _ i hi => absurd hi (Nat.not_lt_zero _), fun _ => rfl⟩⟩
  · obtain ⟨⟨x, y⟩, e1, e2⟩ := key
    dsimp only at e1 e2
    rw [Rf_canTranspose, show (0 : Int32) = n3 0 from rfl, e1, Option.bind_some]
    show some x = _
    rw [e2]
  · rintro f j ⟨x1, x2⟩ hj ⟨rfl, hi⟩
    refine Or.inl ?_
    dsimp only at hi ⊢
    have hg := hW.1.2.2.2.1 j hj
    rw [Rf_canTranspose_L4, h2, if_neg (by rw [l_4, n3_mul, n3_le (by omega) (by omega)]; omega)]
    cases x1 with
    | false =>
      rw [if_neg (by decide), n3_s]
      refine ⟨(false, n3 (j + 1)), rfl, rfl, ⟨fun q => (by cases q), fun q => ?_⟩⟩
      have := hi.mpr (fun i hi2 => q i (by omega))
      exact this
    | true =>
      have hc : Rf_isPitch (n3 (A 32 j) + (n3 k - n3 24)) N = (decide (36 + 24 ≤ A 32 j + k) && decide (A 32 j + k ≤ 84 + 24)) := by
        unfold Rf_isPitch
        rw [pit_by (by omega), l_36, l_84, wi_eq, dec_le (by omega) (by omega), dec_le (by omega) (by omega)]
        congr 1
        · apply decide_eq_decide.mpr; omega
        · apply decide_eq_decide.mpr; omega
      rw [if_pos rfl, ldE_in _ (by omega) (by decide), Option.bind_some, h32, hc, n3_s]
      refine ⟨((decide (36 + 24 ≤ A 32 j + k) && decide (A 32 j + k ≤ 84 + 24)), n3 (j + 1)), rfl, rfl, ⟨fun q i hi2 => ?_, fun q => ?_⟩⟩
      · rw [Bool.and_eq_true, decide_eq_true_eq, decide_eq_true_eq] at q
        by_cases e : i = j
        · subst e; exact q
        · exact (hi.mp rfl) i (by omega)
      · have := q j (by omega)
        rw [Bool.and_eq_true, decide_eq_true_eq, decide_eq_true_eq]
        exact this
  · rintro f ⟨x1, x2⟩ ⟨rfl, hi⟩
    dsimp only at hi ⊢
    rw [Rf_canTranspose_L4, h2, if_pos (by rw [l_4, n3_mul, n3_le (by omega) (by omega)]; omega)]
    refine ⟨_, rfl, ?_⟩
    dsimp only
    cases z : cmv A k with
    | true => exact hi.mpr (cmv_iff.mp z)
    | false =>
      cases z2 : x1 with
      | false => rfl
      | true =>
        have := cmv_iff.mpr (hi.mp z2)
        rw [z] at this; cases this
/-- all pitches moved -/
def trA (A : aS) (k : Nat) : aS := fun c j => if c = 32 ∧ j < 4 * A 30 2 then A 32 j + k - 24 else if c = 30 ∧ j = 1 then (A 30 1 + k) % 12 else A c j
theorem s_transpose {T : hyT} (h : INV T) (a : Int32) : okS (La_transpose a T) (Rf_transpose a) := by
  obtain ⟨A, hW, hC, hR⟩ := h
  have hn := hW.1.1
  have e1 := ckR a (-24) 24 T.1 T.2.1
  rcases Bool.eq_false_or_eq_true (Rf_within a (-24) 24 T.2.1) with c | c
  · rw [c, if_pos rfl] at e1
    obtain ⟨k, rfl, hk⟩ := by_n3 c
    have e2 := canMove_ok hW hC hk
    have e3 := canTr_ok hW hR hk
    obtain ⟨t1, t2⟩ := k_ton ⟨A 30 1, hW.1.2.1⟩ ⟨k, by omega⟩
    dsimp only at t1 t2
    rcases Bool.eq_false_or_eq_true (cmv A k) with d | d
    · have hcm := cmv_iff.mp d
      -- class
      have k1 := lpI (σ := Int32 × hyM) (fun f s => Tu_move_L2 (n3 k - n3 24) f s.1 s.2) (fun j s => s.1 = n3 j ∧ s.2.2 = T.1.2 ∧ (∀ c k, c ≠ 3 → s.2.1 c k = T.1.1 c k) ∧ ∀ i, s.2.1 3 i = n3 (if i < j then A 32 i + k - 24 else A 32 i)) (4 * A 30 2) (fun r => r.2.2 = T.1.2 ∧ (∀ c k, c ≠ 3 → r.2.1 c k = T.1.1 c k) ∧ ∀ i, r.2.1 3 i = n3 (if i < 4 * A 30 2 then A 32 i + k - 24 else A 32 i)) ?_ ?_ hyFu 0 (n3 0, T.1) (Nat.zero_le _) (hyFu_big (by omega)) ⟨rfl, rfl, fun _ _ _ => rfl, fun i => by rw [if_neg (Nat.not_lt_zero _)]; exact CA_pit hC i⟩
      · obtain ⟨⟨y, M1⟩, m1, m2, m3, m4⟩ := k1
        dsimp only at m1 m2 m3 m4
        have k2 := lpI (σ := Int32 × hyM) (fun f s => Rf_transpose_L43 (n3 k - n3 24) f s.1 s.2) (fun j s => s.1 = n3 j ∧ (∀ c k, c ≠ 32 → s.2.1 c k = (wI T.2.1 30 0 0).1 c k) ∧ ∀ i, s.2.1 32 i = n3 (if i < j then A 32 i + k - 24 else A 32 i)) (4 * A 30 2) (fun r => (∀ c k, c ≠ 32 → r.2.1 c k = (wI T.2.1 30 0 0).1 c k) ∧ ∀ i, r.2.1 32 i = n3 (if i < 4 * A 30 2 then A 32 i + k - 24 else A 32 i)) ?_ ?_ hyFu 0 (n3 0, wI T.2.1 30 0 0) (Nat.zero_le _) (hyFu_big (by omega)) ⟨rfl, fun _ _ _ => rfl, fun i => by rw [if_neg (Nat.not_lt_zero _), rd_ne (by decide)]; exact hR 32 i rfl⟩
        · obtain ⟨⟨z, N1⟩, n1, n2, n4⟩ := k2
          dsimp only at n1 n2 n4
          have hW' : WFA (trA A k) := by
            refine ⟨⟨hn, Nat.mod_lt _ (by decide), hW.1.2.2.1, fun i hi => ?_, hW.1.2.2.2.2⟩, hW.2.1, hW.2.2.1, hW.2.2.2.1, hW.2.2.2.2.1, hW.2.2.2.2.2⟩
            show 36 ≤ trA A k 32 i ∧ trA A k 32 i ≤ 84
            have hi' : i < 4 * A 30 2 := hi
            have := hcm i hi'
            unfold trA
            rw [if_pos ⟨rfl, hi'⟩]
            omega
          have hC' : CA (trA A k) (wI M1 1 5 (n3 ((A 30 1 + k) % 12))) := by
            obtain ⟨⟨a1, a2, a3, a4, a5⟩, bb, cc, qq, v, mm, ii⟩ := hC.1
            have hne : ∀ c k', c ≠ 3 → c ≠ 1 → (wI M1 1 5 (n3 ((A 30 1 + k) % 12))).1 c k' = T.1.1 c k' := fun c k' h1 h2 => by rw [rd_ne h2]; exact m3 c k' h1
            refine ⟨⟨⟨by rw [hne _ _ (by decide) (by decide)]; exact a1, by rw [rd_nk (by decide), m3 _ _ (by decide)]; exact a2, rfl, fun j => by rw [hne _ _ (by decide) (by decide)]; exact a4 j, fun j => ?_⟩, ?_, ⟨by rw [hne _ _ (by decide) (by decide)]; exact cc.1, by rw [hne _ _ (by decide) (by decide)]; exact cc.2⟩, ⟨by rw [hne _ _ (by decide) (by decide)]; exact qq.1, fun i => by rw [hne _ _ (by decide) (by decide)]; exact qq.2.1 i, fun i => by rw [hne _ _ (by decide) (by decide)]; exact qq.2.2.1 i, fun i => by rw [hne _ _ (by decide) (by decide)]; exact qq.2.2.2 i⟩, fun r hr => ⟨by rw [hne _ _ (by decide) (by decide)]; exact (v r hr).1, fun j hj => by rw [hne _ _ (by decide) (by decide)]; exact (v r hr).2 j hj⟩, ⟨by rw [hne _ _ (by decide) (by decide)]; exact mm.1, fun m hm => ⟨by rw [hne _ _ (by decide) (by decide)]; exact (mm.2 m hm).1, fun j hj => by rw [hne _ _ (by decide) (by decide)]; exact (mm.2 m hm).2 j hj⟩⟩, ⟨by rw [hne _ _ (by decide) (by decide)]; exact ii.1, fun i => by rw [hne _ _ (by decide) (by decide)]; exact ii.2 i⟩⟩, ?_⟩
            · rw [rd_ne (by decide), m4]
              show n3 _ = n3 (trA A k 32 j)
              unfold trA
              by_cases q : j < 4 * A 30 2
              · rw [if_pos q, if_pos ⟨rfl, q⟩]
              · rw [if_neg q, if_neg (fun z => q z.2), if_neg (fun z => absurd z.1 (by decide))]
            · rw [rd2_wI, m2]; exact bb
            · exact CD.fr (M := T.1) (A := trA A k) hC.2 (fun c k' hc => hne c k' (fun e => by rw [e] at hc; cases hc) (fun e => by rw [e] at hc; cases hc))
          have hR' : RI (trA A k) (wI N1 30 1 (n3 ((A 30 1 + k) % 12))) := by
            intro c k' hc
            rw [rd_wI]
            unfold trA
            by_cases q : c = 30 ∧ k' = 1
            · rw [if_pos q, q.1, q.2, if_neg (fun z => absurd z.1 (by decide)), if_pos ⟨rfl, rfl⟩]
            · rw [if_neg q]
              by_cases q2 : c = 32
              · subst q2
                rw [n4]
                by_cases q3 : k' < 4 * A 30 2
                · rw [if_pos q3, if_pos ⟨rfl, q3⟩]
                · rw [if_neg q3, if_neg (fun z => q3 z.2), if_neg (fun z => absurd z.1 (by decide))]
              · rw [n2 c k' q2, if_neg (fun z => q2 z.1), if_neg q]
                exact RI.w hR rfl c k' hc
          refine fin_v (T := T) (v := n3 ((A 30 1 + k) % 12)) hW' hC' hR' (by rw [rd_nk (by decide), n2 _ _ (by decide), rd_eq]) ?_ ?_
          · have em : Tu_move (n3 k - n3 24) T.1 = some (wI M1 1 5 (n3 ((A 30 1 + k) % 12))) := by
              have e15 : M1.1 1 5 = n3 (A 30 1) := by rw [m3 _ _ (by decide)]; exact CA_t hC
              rw [Tu_move, show (0 : Int32) = n3 0 from rfl, m1, Option.bind_some]
              dsimp only
              rw [e15, show Jm_floorMod (n3 (A 30 1) + (n3 k - n3 24)) 12 M1 = some (n3 ((A 30 1 + k) % 12)) from t1, Option.bind_some, Option.bind_some]
            rw [La_transpose, Hp_transpose, e1]
            dsimp only
            rw [e2, Option.bind_some, d, if_pos rfl, em, Option.bind_some, rd_eq]
            rfl
          · have e30 : N1.1 30 1 = n3 (A 30 1) := by rw [n2 _ _ (by decide), rd_nk (by decide)]; exact hR 30 1 rfl
            rw [Rf_transpose, c, if_pos rfl, e3, Option.bind_some, d, if_pos rfl, Option.bind_some, rd_eq, if_pos gt0.2.2.2]
            rw [show (0 : Int32) = n3 0 from rfl] at n1 ⊢
            rw [n1, Option.bind_some]
            dsimp only
            rw [e30, t2, Option.bind_some, rd_eq]
        · rintro f j ⟨x1, P⟩ hj ⟨rfl, i2, i4⟩
          refine Or.inl ?_
          dsimp only at i2 i4 ⊢
          have p2 : P.1 30 2 = n3 (A 30 2) := by rw [i2 _ _ (by decide), rd_nk (by decide)]; exact hR 30 2 rfl
          have hcj := hcm j hj
          have p3 : P.1 32 j = n3 (A 32 j) := by rw [i4, if_neg (Nat.lt_irrefl _)]
          rw [Rf_transpose_L43, p2, if_neg (by rw [l_4, n3_mul, n3_le (by omega) (by omega)]; omega), ldE_in _ (by omega) (by decide), p3, Option.bind_some, pit_by (by omega), stE_in _ _ _ (by omega) (by decide), Option.bind_some, n3_s]
          refine ⟨(n3 (j + 1), wI P 32 j (n3 (A 32 j + k - 24))), rfl, rfl, fun c k' hc => ?_, fun i => ?_⟩
          · rw [rd_ne hc]; exact i2 c k' hc
          · dsimp only
            by_cases e : i = j
            · subst e; rw [rd_eq, if_pos (by omega)]
            · rw [rd_nk e, i4]
              by_cases q : i < j
              · rw [if_pos q, if_pos (by omega)]
              · rw [if_neg q, if_neg (by omega)]
        · rintro f ⟨x1, P⟩ ⟨rfl, i2, i4⟩
          dsimp only at i2 i4 ⊢
          have p2 : P.1 30 2 = n3 (A 30 2) := by rw [i2 _ _ (by decide), rd_nk (by decide)]; exact hR 30 2 rfl
          rw [Rf_transpose_L43, p2, if_pos (by rw [l_4, n3_mul, n3_le (by omega) (by omega)]; omega)]
          exact ⟨_, rfl, i2, i4⟩
      · rintro f j ⟨x1, P⟩ hj ⟨rfl, i1, i2, i4⟩
        refine Or.inl ?_
        dsimp only at i1 i2 i4 ⊢
        have p2 : P.1 1 4 = n3 (A 30 2) := by rw [i2 _ _ (by decide)]; exact CA_n hC
        have hcj := hcm j hj
        have p3 : P.1 3 j = n3 (A 32 j) := by rw [i4, if_neg (Nat.lt_irrefl _)]
        rw [Tu_move_L2, p2, if_neg (by rw [l_4, n3_mul, n3_le (by omega) (by omega)]; omega), atf_in _ (by omega) (by decide), p3, pit_by (by omega), putf_in _ _ _ (by omega) (by decide), Option.bind_some, n3_s]
        refine ⟨(n3 (j + 1), wI P 3 j (n3 (A 32 j + k - 24))), rfl, rfl, i1, fun c k' hc => ?_, fun i => ?_⟩
        · rw [rd_ne hc]; exact i2 c k' hc
        · dsimp only
          by_cases e : i = j
          · subst e; rw [rd_eq, if_pos (by omega)]
          · rw [rd_nk e, i4]
            by_cases q : i < j
            · rw [if_pos q, if_pos (by omega)]
            · rw [if_neg q, if_neg (by omega)]
      · rintro f ⟨x1, P⟩ ⟨rfl, i1, i2, i4⟩
        dsimp only at i1 i2 i4 ⊢
        have p2 : P.1 1 4 = n3 (A 30 2) := by rw [i2 _ _ (by decide)]; exact CA_n hC
        rw [Tu_move_L2, p2, if_pos (by rw [l_4, n3_mul, n3_le (by omega) (by omega)]; omega)]
        exact ⟨_, rfl, i1, i2, i4⟩
    · refine fin_t (T := T) (k := 2) (b := 0) (N := wI T.2.1 30 0 2) (by decide) hW hC (RI.w hR rfl) ?_ ?_ (rd_eq _ _ _ _)
      · rw [La_transpose, Hp_transpose, e1]
        dsimp only
        rw [e2, Option.bind_some, d, if_neg (by decide)]
        rfl
      · rw [Rf_transpose, c, if_pos rfl, e3, Option.bind_some, d, if_neg (by decide), Option.bind_some, rd_eq, if_neg gt0.2.1]
  · rw [c, if_neg (by decide)] at e1
    refine fin_t (T := T) (k := 1) (b := 0) (N := wI T.2.1 30 0 1) (by decide) hW hC (RI.w hR rfl) ?_ ?_ (rd_eq _ _ _ _)
    · rw [La_transpose, Hp_transpose, e1]
      rfl
    · rw [Rf_transpose, c, if_neg (by decide), Option.bind_some, rd_eq, if_neg gt0.1]
