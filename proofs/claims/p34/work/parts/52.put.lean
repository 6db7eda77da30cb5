/-! The class's answers to the calls that change it, and the state behind them. -/
theorem p_setPitch {A : aS} {M : hyM} (hW : WFA A) (hC : CA A M) {i p w : Nat} (hi : i < A 30 2) (hp : p < 4) (hw : 36 ≤ w ∧ w ≤ 84) :
    ∃ M', rtM (Hp_setPitch (n3 i) (n3 p) (n3 w) M) = some (n3 (A 32 (4 * i + p)), M') ∧ WFA (uA A 32 (4 * i + p) w) ∧ CA (uA A 32 (4 * i + p) w) M' := by
  have hn := hW.1.1
  have hcp : Tu_changePitch (n3 i) (n3 p) (n3 w) M = wI M 3 (4 * i + p) (n3 w) := by
    unfold Tu_changePitch
    rw [l_4, n3_mul, n3_add, putf_in _ _ _ (by omega) (by decide), Nat.mul_comm]
  have hW' : WFA (uA A 32 (4 * i + p) w) := by
    refine ⟨⟨hW.1.1, hW.1.2.1, hW.1.2.2.1, fun j hj => ?_, hW.1.2.2.2.2⟩, hW.2.1, hW.2.2.1, hW.2.2.2.1, hW.2.2.2.2.1, hW.2.2.2.2.2⟩
    unfold uA
    by_cases q : j = 4 * i + p
    · rw [if_pos ⟨rfl, q⟩]; exact hw
    · rw [if_neg (fun z => q z.2)]; exact hW.1.2.2.2.1 j hj
  have hC' : CA (uA A 32 (4 * i + p) w) (wI M 3 (4 * i + p) (n3 w)) := by
    obtain ⟨⟨a1, a2, a3, a4, a5⟩, bb, cc, qq, v, mm, ii⟩ := hC.1
    refine ⟨⟨⟨a1, a2, a3, a4, fun j => ?_⟩, bb, cc, qq, v, mm, ii⟩, CD.fr (M := M) (A := uA A 32 (4 * i + p) w) hC.2 (dce_w rfl)⟩
    rw [rd_wI]
    unfold uA
    by_cases q : j = 4 * i + p
    · rw [if_pos ⟨rfl, q⟩, if_pos ⟨rfl, q⟩]
    · rw [if_neg (fun z => q z.2), if_neg (fun z => q z.2)]; exact a5 j
  refine ⟨_, ?_, hW', hC'⟩
  rw [Hp_setPitch, CA_n hC, ixOk M hi (by omega)]
  dsimp only
  rw [show (4 : Int32) = n3 4 from rfl, ixOk M hp (by decide)]
  dsimp only
  rw [show Hp_checkPitch (n3 w) M = .inr () from by rw [Hp_checkPitch, show (36 : Int32) = n3 36 from rfl, show (84 : Int32) = n3 84 from rfl, rgOk M hw.1 hw.2 (by decide)]]
  dsimp only
  rw [Tu_pitch_ok (CA_pit hC) (by omega) hp, hcp]
  rfl
theorem p_setBars {A : aS} {M : hyM} (hW : WFA A) (hC : CA A M) {k u : Nat} (hk : 2 ≤ k ∧ k ≤ 24) (hu : u < k) :
    ∃ M', rtM (Hp_setBars (n3 k) (n3 u) M) = some (n3 (A 30 11), M') ∧ WFA (uA (uA A 30 11 k) 30 12 u) ∧ CA (uA (uA A 30 11 k) 30 12 u) M' := by
  obtain ⟨hb1, hb2, hu0, hp1, hp2⟩ := hW.2.2.1
  have hW' : WFA (uA (uA A 30 11 k) 30 12 u) := ⟨hW.1, hW.2.1, ⟨hk.1, hk.2, hu, hp1, hp2⟩, hW.2.2.2.1, hW.2.2.2.2.1, hW.2.2.2.2.2⟩
  have hC' : CA (uA (uA A 30 11 k) 30 12 u) (wI (wI M 4 0 (n3 k)) 4 1 (n3 u)) := by
    obtain ⟨aa, bb, cc, qq, v, mm, ii⟩ := hC.1
    exact ⟨⟨aa, bb, ⟨rfl, rfl⟩, qq, v, mm, ii⟩, CD.fr (M := wI M 4 0 (n3 k)) (A := uA (uA A 30 11 k) 30 12 u) (CD.fr (M := M) (A := uA (uA A 30 11 k) 30 12 u) hC.2 (dce_w rfl)) (dce_w rfl)⟩
  refine ⟨_, ?_, hW', hC'⟩
  rw [Hp_setBars, show (2 : Int32) = n3 2 from rfl, show (24 : Int32) = n3 24 from rfl, rgOk M hk.1 hk.2 (by decide)]
  dsimp only
  rw [l_1, n3_sub (by omega), show (0 : Int32) = n3 0 from rfl, rgOk M (Nat.zero_le _) (show u ≤ k - 1 by omega) (by omega)]
  dsimp only
  rw [hC.1.2.2.1.1]
  rfl
theorem p_append {A : aS} {M : hyM} (hW : WFA A) (hC : CA A M) {k : Nat} (hk : 32 ≤ k ∧ k ≤ 126) (hd : A 30 19 < 60) :
    ∃ M', rtM (Hp_append (n3 k) M) = some (n3 (A 30 19 + 1), M') ∧ WFA (uA (uA A 42 (A 30 19) k) 30 19 (A 30 19 + 1)) ∧ CA (uA (uA A 42 (A 30 19) k) 30 19 (A 30 19 + 1)) M' := by
  obtain ⟨hi1, hi2⟩ := hW.2.2.2.2.2
  have h28 : M.1 28 1 = n3 (A 30 19) := hC.1.2.2.2.2.2.2.1
  have h29 : ∀ i, M.1 29 i = n3 (A 42 i) := hC.1.2.2.2.2.2.2.2
  have ep : In_push (n3 k) M = wI (wI M 29 (A 30 19) (n3 k)) 28 1 (n3 (A 30 19 + 1)) := by
    unfold In_push
    rw [h28, putf_in _ _ _ hd (by decide), rd_ne (by decide), h28, n3_s]
  have hW' : WFA (uA (uA A 42 (A 30 19) k) 30 19 (A 30 19 + 1)) := by
    refine ⟨hW.1, hW.2.1, hW.2.2.1, hW.2.2.2.1, hW.2.2.2.2.1, show A 30 19 + 1 ≤ 60 by omega, fun i => ?_⟩
    show uA A 42 (A 30 19) k 42 i < 128
    unfold uA
    by_cases q : i = A 30 19
    · rw [if_pos ⟨rfl, q⟩]; omega
    · rw [if_neg (fun z => q z.2)]; exact hi2 i
  have hC' : CA (uA (uA A 42 (A 30 19) k) 30 19 (A 30 19 + 1)) (wI (wI M 29 (A 30 19) (n3 k)) 28 1 (n3 (A 30 19 + 1))) := by
    obtain ⟨aa, bb, cc, qq, v, mm, ii⟩ := hC.1
    refine ⟨⟨aa, bb, cc, qq, v, mm, rfl, fun i => ?_⟩, CD.fr (M := wI M 29 (A 30 19) (n3 k)) (A := uA (uA A 42 (A 30 19) k) 30 19 (A 30 19 + 1)) (CD.fr (M := M) (A := uA (uA A 42 (A 30 19) k) 30 19 (A 30 19 + 1)) hC.2 (dce_w rfl)) (dce_w rfl)⟩
    show (wI M 29 (A 30 19) (n3 k)).1 29 i = n3 (uA A 42 (A 30 19) k 42 i)
    rw [rd_wI]
    unfold uA
    by_cases q : i = A 30 19
    · rw [if_pos ⟨rfl, q⟩, if_pos ⟨rfl, q⟩]
    · rw [if_neg (fun z => q z.2), if_neg (fun z => q z.2)]; exact h29 i
  refine ⟨_, ?_, hW', hC'⟩
  rw [Hp_append, show (32 : Int32) = n3 32 from rfl, show (126 : Int32) = n3 126 from rfl, rgOk M hk.1 hk.2 (by decide)]
  dsimp only
  rw [h28, if_pos (by rw [l_60, n3_lt (by omega) (by omega)]; exact hd), ep]
  rfl
theorem p_clearInput {A : aS} {M : hyM} (hW : WFA A) (hC : CA A M) : Hp_clearInput M = (n3 (A 30 19), wI M 28 1 0) ∧ WFA (uA A 30 19 0) ∧ CA (uA A 30 19 0) (wI M 28 1 0) := by
  have h28 : M.1 28 1 = n3 (A 30 19) := hC.1.2.2.2.2.2.2.1
  refine ⟨by rw [Hp_clearInput, h28], ⟨hW.1, hW.2.1, hW.2.2.1, hW.2.2.2.1, hW.2.2.2.2.1, show 0 ≤ 60 by decide, hW.2.2.2.2.2.2⟩, ?_⟩
  obtain ⟨aa, bb, cc, qq, v, mm, ii⟩ := hC.1
  exact ⟨⟨aa, bb, cc, qq, v, mm, rfl, ii.2⟩, CD.fr (M := M) (A := uA A 30 19 0) hC.2 (dce_w rfl)⟩
theorem k_ton1 : ∀ t : Fin 12, ∀ k : Fin 49, Jm_floorMod (n3 t.val + (n3 k.val - n3 24)) 12 hM0 = some (n3 ((t.val + k.val) % 12)) := by decide +kernel
theorem k_rg24 : ∀ k : Fin 49, Hp_checkRange (n3 k.val - n3 24) (-24) 24 hM0 = .inr () := by decide +kernel
theorem p_transpose {A : aS} {M : hyM} (hW : WFA A) (hC : CA A M) {k : Nat} (hk : k ≤ 48) (hd : cmv A k = true) :
    ∃ M', (Hp_transpose (n3 k - n3 24) M).bind rtM = some (n3 ((A 30 1 + k) % 12), M') ∧ WFA (trA A k) ∧ CA (trA A k) M' := by
  have hn := hW.1.1
  have e2 := canMove_ok hW hC hk
  have t1 := k_ton1 ⟨A 30 1, hW.1.2.1⟩ ⟨k, by omega⟩
  dsimp only at t1
  have e1 : Hp_checkRange (n3 k - n3 24) (-24) 24 M = .inr () := k_rg24 ⟨k, by omega⟩
  have hcm := cmv_iff.mp hd
  have k1 := lpI (σ := Int32 × hyM) (fun f s => Tu_move_L2 (n3 k - n3 24) f s.1 s.2) (fun j s => s.1 = n3 j ∧ s.2.2 = M.2 ∧ (∀ c k, c ≠ 3 → s.2.1 c k = M.1 c k) ∧ ∀ i, s.2.1 3 i = n3 (if i < j then A 32 i + k - 24 else A 32 i)) (4 * A 30 2) (fun r => r.2.2 = M.2 ∧ (∀ c k, c ≠ 3 → r.2.1 c k = M.1 c k) ∧ ∀ i, r.2.1 3 i = n3 (if i < 4 * A 30 2 then A 32 i + k - 24 else A 32 i)) ?_ ?_ hyFu 0 (n3 0, M) (Nat.zero_le _) (hyFu_big (by omega)) ⟨rfl, rfl, fun _ _ _ => rfl, fun i => by rw [if_neg (Nat.not_lt_zero _)]; exact CA_pit hC i⟩
  · obtain ⟨⟨y, M1⟩, m1, m2, m3, m4⟩ := k1
    dsimp only at m1 m2 m3 m4
    have hW' : WFA (trA A k) := by
      refine ⟨⟨hn, Nat.mod_lt _ (by decide), hW.1.2.2.1, fun i hi => ?_, hW.1.2.2.2.2⟩, hW.2.1, hW.2.2.1, hW.2.2.2.1, hW.2.2.2.2.1, hW.2.2.2.2.2⟩
      show 36 ≤ trA A k 32 i ∧ trA A k 32 i ≤ 84
      have hi' : i < 4 * A 30 2 := hi
      have := hcm i hi'
      unfold trA
      rw [if_pos ⟨rfl, hi'⟩]
      omega
    have hC' : CA (trA A k) (wI M1 1 5 (n3 ((A 30 1 + k) % 12))) := by
      obtain ⟨⟨a1, a2, a3, a4, a5⟩, bb, cc, qq, v, mm, ii⟩ := hC.1
      have hne : ∀ c k', c ≠ 3 → c ≠ 1 → (wI M1 1 5 (n3 ((A 30 1 + k) % 12))).1 c k' = M.1 c k' := fun c k' h1 h2 => by rw [rd_ne h2]; exact m3 c k' h1
      refine ⟨⟨⟨by rw [hne _ _ (by decide) (by decide)]; exact a1, by rw [rd_nk (by decide), m3 _ _ (by decide)]; exact a2, rfl, fun j => by rw [hne _ _ (by decide) (by decide)]; exact a4 j, fun j => ?_⟩, ?_, ⟨by rw [hne _ _ (by decide) (by decide)]; exact cc.1, by rw [hne _ _ (by decide) (by decide)]; exact cc.2⟩, ⟨by rw [hne _ _ (by decide) (by decide)]; exact qq.1, fun i => by rw [hne _ _ (by decide) (by decide)]; exact qq.2.1 i, fun i => by rw [hne _ _ (by decide) (by decide)]; exact qq.2.2.1 i, fun i => by rw [hne _ _ (by decide) (by decide)]; exact qq.2.2.2 i⟩, fun r hr => ⟨by rw [hne _ _ (by decide) (by decide)]; exact (v r hr).1, fun j hj => by rw [hne _ _ (by decide) (by decide)]; exact (v r hr).2 j hj⟩, ⟨by rw [hne _ _ (by decide) (by decide)]; exact mm.1, fun m hm => ⟨by rw [hne _ _ (by decide) (by decide)]; exact (mm.2 m hm).1, fun j hj => by rw [hne _ _ (by decide) (by decide)]; exact (mm.2 m hm).2 j hj⟩⟩, ⟨by rw [hne _ _ (by decide) (by decide)]; exact ii.1, fun i => by rw [hne _ _ (by decide) (by decide)]; exact ii.2 i⟩⟩, ?_⟩
      · rw [rd_ne (by decide), m4]
        show n3 _ = n3 (trA A k 32 j)
        unfold trA
        by_cases q : j < 4 * A 30 2
        · rw [if_pos q, if_pos ⟨rfl, q⟩]
        · rw [if_neg q, if_neg (fun z => q z.2), if_neg (fun z => absurd z.1 (by decide))]
      · rw [rd2_wI, m2]; exact bb
      · exact CD.fr (M := M) (A := trA A k) hC.2 (fun c k' hc => hne c k' (fun e => by rw [e] at hc; cases hc) (fun e => by rw [e] at hc; cases hc))
    refine ⟨_, ?_, hW', hC'⟩
    have em : Tu_move (n3 k - n3 24) M = some (wI M1 1 5 (n3 ((A 30 1 + k) % 12))) := by
      have e15 : M1.1 1 5 = n3 (A 30 1) := by rw [m3 _ _ (by decide)]; exact CA_t hC
      rw [Tu_move, show (0 : Int32) = n3 0 from rfl, m1, Option.bind_some]
      dsimp only
      rw [e15, show Jm_floorMod (n3 (A 30 1) + (n3 k - n3 24)) 12 M1 = some (n3 ((A 30 1 + k) % 12)) from t1, Option.bind_some, Option.bind_some]
    rw [Hp_transpose, e1]
    dsimp only
    rw [e2, Option.bind_some, hd, if_pos rfl, em, Option.bind_some, rd_eq]
    rfl
  · rintro f j ⟨x1, P⟩ hj ⟨rfl, i1, i2, i4⟩
    refine Or.inl ?_
    dsimp only at i1 i2 i4 ⊢
    have p2 : P.1 1 4 = n3 (A 30 2) := by rw [i2 _ _ (by decide)]; exact CA_n hC
    have hcj := hcm j hj
    have p3 : P.1 3 j = n3 (A 32 j) := by rw [i4, if_neg (Nat.lt_irrefl _)]
    rw [Tu_move_L2, p2, if_neg (by rw [l_4, n3_mul, n3_le (by omega) (by omega)]; omega), atf_in _ (by omega) (by decide), p3, pit_by (by omega), putf_in _ _ _ (by omega) (by decide), Option.bind_some, n3_s]
    refine ⟨(n3 (j + 1), wI P 3 j (n3 (A 32 j + k - 24))), rfl, rfl, i1, fun c k' hc => ?_, fun i => ?_⟩
    · rw [rd_ne hc]; exact i2 c k' hc
    · dsimp only
      by_cases e : i = j
      · subst e; rw [rd_eq, if_pos (by omega)]
      · rw [rd_nk e, i4]
        by_cases q : i < j
        · rw [if_pos q, if_pos (by omega)]
        · rw [if_neg q, if_neg (by omega)]
  · rintro f ⟨x1, P⟩ ⟨rfl, i1, i2, i4⟩
    dsimp only at i1 i2 i4 ⊢
    have p2 : P.1 1 4 = n3 (A 30 2) := by rw [i2 _ _ (by decide)]; exact CA_n hC
    rw [Tu_move_L2, p2, if_pos (by rw [l_4, n3_mul, n3_le (by omega) (by omega)]; omega)]
    exact ⟨_, rfl, i1, i2, i4⟩
theorem p_setWidth {A : aS} {M : hyM} (hW : WFA A) (hC : CA A M) {k : Nat} (hk : 20 ≤ k ∧ k ≤ 200) :
    ∃ M', (Hp_setWidth (n3 k) M).bind rtM = some (n3 (nsA (uA A 30 13 k)), M') ∧ WFA (uA A 30 13 k) ∧ CA (uA A 30 13 k) M' := by
  have hW' : WFA (uA A 30 13 k) := ⟨hW.1, hW.2.1, ⟨hW.2.2.1.1, hW.2.2.1.2.1, hW.2.2.1.2.2.1, hk.1, hk.2⟩, hW.2.2.2.1, hW.2.2.2.2.1, hW.2.2.2.2.2⟩
  have hB : CB (uA A 30 13 k) (wI M 0 9 (n3 k)) := by
    obtain ⟨⟨a1, a2, a3, a4, a5⟩, bb, cc, qq, v, mm, ii⟩ := hC.1
    exact ⟨⟨rfl, a2, a3, a4, a5⟩, bb, cc, qq, v, mm, ii⟩
  obtain ⟨M', m1, m2, -, -, m5, -⟩ := lay_same hW' hB
  refine ⟨M', ?_, hW', m2⟩
  rw [Hp_setWidth, show (20 : Int32) = n3 20 from rfl, show (200 : Int32) = n3 200 from rfl, rgOk M hk.1 hk.2 (by decide)]
  dsimp only
  rw [Option.bind_some, m1, Option.bind_some, m5]
  rfl
theorem p_clearRepeats {A : aS} {M : hyM} (hW : WFA A) (hC : CA A M) : ∃ M', Hp_clearRepeats M = some (n3 (A 30 7), M') ∧ WFA (uA A 30 7 0) ∧ CA (uA A 30 7 0) M' := by
  have hW' : WFA (uA A 30 7 0) := ⟨hW.1, ⟨WR_0 _ _, hW.2.1.2⟩, hW.2.2.1, hW.2.2.2.1, hW.2.2.2.2.1, hW.2.2.2.2.2⟩
  have hB : CB (uA A 30 7 0) (wI M 5 3 0) := by
    obtain ⟨aa, bb, cc, qq, v, mm, ii⟩ := hC.1
    exact ⟨aa, bb, cc, ⟨rfl, qq.2⟩, v, mm, ii⟩
  obtain ⟨M', m1, m2, -, -, -, -⟩ := lay_same hW' hB
  have h53 : M.1 5 3 = n3 (A 30 7) := hC.1.2.2.2.1.1
  refine ⟨M', ?_, hW', m2⟩
  rw [Hp_clearRepeats, Option.bind_some, m1, Option.bind_some, h53]
theorem p_clearVerse {A : aS} {M : hyM} (hW : WFA A) (hC : CA A M) {v : Nat} (hv : v < 4) :
    ∃ M', (Hp_clearVerse (n3 v) M).bind rtM = some (n3 (cnt (fun k => decide (0 < A 38 (v * 24 + k))) 24), M') ∧ WFA (clA A (v * 24) (v * 24 + 24)) ∧ CA (clA A (v * 24) (v * 24 + 24)) M' := by
  have hW' := clA_WF hW (v * 24) (v * 24 + 24)
  obtain ⟨M1, r1, r2, r3, r4⟩ := removeLines_ok hW hC.1.2.2.2.2.1 hv
  obtain ⟨M', m1, m2, -, -, -, -⟩ := lay_same hW' (CB_rm hC.1 r2 r3 r4)
  refine ⟨M', ?_, hW', m2⟩
  rw [Hp_clearVerse, show (4 : Int32) = n3 4 from rfl, ixOk M hv (by decide)]
  dsimp only
  rw [r1, Option.bind_some]
  dsimp only
  rw [m1]
  rfl
theorem p_begin {A : aS} {M : hyM} (hW : WFA A) (hC : CA A M) {t : Nat} (ht : t ≤ 11) :
    ∃ M', (Hp_begin (n3 t) M).bind rtM = some (n3 (A 30 2), M') ∧ WFA (bgA A t 4) ∧ CA (bgA A t 4) M' := by
  have hB0 : ∃ w, w = A 30 13 ∧ CB (uA (bgA A t 0) 30 13 w) (wI (Ba_change 4 0 (Tu_restart (n3 t) M)) 5 3 0) := by
    obtain ⟨⟨a1, a2, a3, a4, a5⟩, bb, cc, qq, v, mm, ii⟩ := hC.1
    refine ⟨_, rfl, ⟨a1, rfl, rfl, a4, a5⟩, ⟨fun i hi => ?_, fun i hi => ?_⟩, ⟨rfl, rfl⟩, ⟨rfl, qq.2⟩, v, mm, ii⟩
    · have e : (decide (i < (uA (bgA A t 0) 30 13 (A 30 13)) 30 2) && sA (uA (bgA A t 0) 30 13 (A 30 13)) i) = false := by
        have : ¬ i < (uA (bgA A t 0) 30 13 (A 30 13)) 30 2 := Nat.not_lt_zero _
        simp [this]
      rw [e]
      exact hbt_0 ⟨i, hi⟩
    · have e : (decide (i < (uA (bgA A t 0) 30 13 (A 30 13)) 30 2) && eA (uA (bgA A t 0) 30 13 (A 30 13)) i) = false := by
        have : ¬ i < (uA (bgA A t 0) 30 13 (A 30 13)) 30 2 := Nat.not_lt_zero _
        simp [this]
      rw [e]
      exact hbt_0 ⟨i, hi⟩
  obtain ⟨w, hw, hB0⟩ := hB0
  have hwb : 20 ≤ w ∧ w ≤ 200 := by rw [hw]; exact hW.2.2.1.2.2.2
  have hWv : ∀ v, WFA (uA (bgA A t v) 30 13 w) := fun v => by
    have g := bgA_WF hW ht v
    exact ⟨g.1, g.2.1, ⟨g.2.2.1.1, g.2.2.1.2.1, g.2.2.1.2.2.1, hwb⟩, g.2.2.2.1, g.2.2.2.2.1, g.2.2.2.2.2⟩
  have k1 := lpI (σ := Int32 × hyM) (fun f s => Hp_begin_L42 f s.1 s.2) (fun v s => s.1 = n3 v ∧ CB (uA (bgA A t v) 30 13 w) s.2) 4 (fun r => CB (uA (bgA A t 4) 30 13 w) r.2) ?_ ?_ hyFu 0 (n3 0, wI (Ba_change 4 0 (Tu_restart (n3 t) M)) 5 3 0) (Nat.zero_le _) (hyFu_big (by omega)) ⟨rfl, hB0⟩
  · obtain ⟨⟨y, M1⟩, m1, m2⟩ := k1
    dsimp only at m1 m2
    have hW' := bgA_WF hW ht 4
    have hB : CB (bgA A t 4) (wI M1 0 9 80) := by
      obtain ⟨⟨a1, a2, a3, a4, a5⟩, bb, cc, qq, v, mm, ii⟩ := m2
      exact ⟨⟨rfl, a2, a3, a4, a5⟩, bb, cc, qq, v, mm, ii⟩
    obtain ⟨M', n1, n2, -, -, -, -⟩ := lay_same hW' hB
    refine ⟨M', ?_, hW', n2⟩
    rw [Hp_begin, show (0 : Int32) = n3 0 from rfl, show (11 : Int32) = n3 11 from rfl, rgOk M (Nat.zero_le _) ht (by decide)]
    dsimp only
    simp only [Option.bind_some]
    rw [show (n3 0 : Int32) = 0 from rfl]
    rw [show (0 : Int32) = n3 0 from rfl] at m1
    rw [show Hp_begin_L42 hyFu 0 (wI (Ba_change 4 0 (Tu_restart (n3 t) M)) 5 3 0) = some (y, M1) from m1, Option.bind_some]
    dsimp only
    rw [n1, Option.bind_some, CA_n hC]
    rfl
  · rintro f v ⟨x1, P⟩ hv ⟨rfl, hP⟩
    refine Or.inl ?_
    dsimp only at hP ⊢
    obtain ⟨M1, r1, r2, r3, r4⟩ := removeLines_ok (hWv v) hP.2.2.2.2.1 hv
    rw [Hp_begin_L42, l_4, if_neg (by rw [n3_le (by omega) (by omega)]; omega), r1, Option.bind_some]
    dsimp only
    rw [n3_s]
    exact ⟨(n3 (v + 1), M1), rfl, rfl, CB_rm hP r2 r3 r4⟩
  · rintro f ⟨x1, P⟩ ⟨rfl, hP⟩
    dsimp only at hP ⊢
    rw [Hp_begin_L42, l_4, if_pos (by rw [n3_le (by omega) (by omega)]; omega)]
    exact ⟨_, rfl, hP⟩
theorem ckP {p : Nat} (M : hyM) (h : 36 ≤ p ∧ p ≤ 84) : Hp_checkPitch (n3 p) M = .inr () := by
  rw [Hp_checkPitch, show (36 : Int32) = n3 36 from rfl, show (84 : Int32) = n3 84 from rfl, rgOk M h.1 h.2 (by decide)]
theorem p_addNote {A : aS} {M : hyM} (hW : WFA A) (hC : CA A M) {v p0 p1 p2 p3 : Nat} (hm : A 30 2 < 40) (hv : 1 ≤ v ∧ v ≤ 8) (h0 : 36 ≤ p0 ∧ p0 ≤ 84) (h1 : 36 ≤ p1 ∧ p1 ≤ 84) (h2 : 36 ≤ p2 ∧ p2 ≤ 84) (h3 : 36 ≤ p3 ∧ p3 ≤ 84) :
    ∃ M', (Hp_addNote (n3 v) (n3 p0) (n3 p1) (n3 p2) (n3 p3) M).bind rtM = some (n3 (A 30 2), M') ∧ WFA (adA A v p0 p1 p2 p3) ∧ CA (adA A v p0 p1 p2 p3) M' := by
  have hW' : WFA (adA A v p0 p1 p2 p3) := adA_WF hW hm hv h0 h1 h2 h3
  have h14 : M.1 1 4 = n3 (A 30 2) := CA_n hC
  have ep : Tu_push (n3 v) (n3 p0) (n3 p1) (n3 p2) (n3 p3) M = some (wI (wI (wI (wI (wI (wI M 2 (A 30 2) (n3 v)) 3 (4 * A 30 2) (n3 p0)) 3 (4 * A 30 2 + 1) (n3 p1)) 3 (4 * A 30 2 + 2) (n3 p2)) 3 (4 * A 30 2 + 3) (n3 p3)) 1 4 (n3 (A 30 2 + 1))) := by
    have cp : ∀ (M : hyM) (i x : Nat), i < 4 → Tu_changePitch (n3 (A 30 2)) (n3 i) (n3 x) M = wI M 3 (4 * A 30 2 + i) (n3 x) := by
      intro M i x hi
      unfold Tu_changePitch
      rw [l_4, n3_mul, n3_add, putf_in _ _ _ (by omega) (by decide), Nat.mul_comm]
    have c0 := fun M => cp M 0 p0 (by decide)
    have c1 := fun M => cp M 1 p1 (by decide)
    have c2 := fun M => cp M 2 p2 (by decide)
    have c3 := fun M => cp M 3 p3 (by decide)
    rw [Tu_push, h14, putf_in _ _ _ hm (by decide), Option.bind_some, rd_ne (by decide), h14, show (0 : Int32) = n3 0 from rfl, c0, Option.bind_some, rd_ne (by decide), rd_ne (by decide), h14, l_1, c1, Option.bind_some, rd_ne (by decide), rd_ne (by decide), rd_ne (by decide), h14, show (2 : Int32) = n3 2 from rfl, c2, Option.bind_some, rd_ne (by decide), rd_ne (by decide), rd_ne (by decide), rd_ne (by decide), h14, show (3 : Int32) = n3 3 from rfl, c3, Option.bind_some, rd_ne (by decide), rd_ne (by decide), rd_ne (by decide), rd_ne (by decide), rd_ne (by decide), h14, n3_add, Option.bind_some]
    rfl
  have hB : CB (adA A v p0 p1 p2 p3) (wI (wI (wI (wI (wI (wI M 2 (A 30 2) (n3 v)) 3 (4 * A 30 2) (n3 p0)) 3 (4 * A 30 2 + 1) (n3 p1)) 3 (4 * A 30 2 + 2) (n3 p2)) 3 (4 * A 30 2 + 3) (n3 p3)) 1 4 (n3 (A 30 2 + 1))) := by
    obtain ⟨⟨a1, a2, a3, a4, a5⟩, ⟨b1, b2⟩, cc, qq, vv, mm, ii⟩ := hC.1
    refine ⟨⟨a1, rfl, a3, uw (M := M) (B := A) (c := 2) (c' := 31) _ _ a4, ?_⟩, ⟨fun i hi => ?_, fun i hi => ?_⟩, cc, qq, vv, mm, ii⟩
    · exact uw (c := 3) (c' := 32) _ _ (uw (c := 3) (c' := 32) _ _ (uw (c := 3) (c' := 32) _ _ (uw (M := M) (B := A) (c := 3) (c' := 32) _ _ a5)))
    · show hbt (M.2 1 2) i = (decide (i < A 30 2 + 1) && sA (adA A v p0 p1 p2 p3) i)
      rw [b1 i hi, (adA_b A v p0 p1 p2 p3 i).1]
      by_cases q : i = A 30 2
      · rw [if_pos q]; simp [q]
      · rw [if_neg q]
        congr 1
        apply decide_eq_decide.mpr
        omega
    · show hbt (M.2 1 3) i = (decide (i < A 30 2 + 1) && eA (adA A v p0 p1 p2 p3) i)
      rw [b2 i hi, (adA_b A v p0 p1 p2 p3 i).2]
      by_cases q : i = A 30 2
      · rw [if_pos q]; simp [q]
      · rw [if_neg q]
        congr 1
        apply decide_eq_decide.mpr
        omega
  obtain ⟨M', m1, m2, -, -, -, -⟩ := lay_same hW' hB
  have e14 : M'.1 1 4 - 1 = n3 (A 30 2) := by
    rw [CA_n m2]
    show n3 (A 30 2 + 1) - 1 = _
    rw [l_1, n3_sub (by omega)]; rfl
  refine ⟨M', ?_, hW', m2⟩
  rw [Hp_addNote, show (1 : Int32) = n3 1 from rfl, show (8 : Int32) = n3 8 from rfl, rgOk M hv.1 hv.2 (by decide)]
  dsimp only
  rw [ckP M h0]
  dsimp only
  rw [ckP M h1]
  dsimp only
  rw [ckP M h2]
  dsimp only
  rw [ckP M h3]
  dsimp only
  rw [h14, if_pos (by rw [l_40, n3_lt (by omega) (by omega)]; exact hm), ep, Option.bind_some, m1, Option.bind_some, show (n3 1 : Int32) = 1 from rfl, e14]
  rfl
theorem p_dropNote {A : aS} {M : hyM} (hW : WFA A) (hC : CA A M) (hz : 0 < A 30 2) :
    ∃ M', (Hp_dropNote M).bind rtM = some (n3 (A 30 2 - 1), M') ∧ WFA (kpA (uA A 30 2 (A 30 2 - 1))) ∧ CA (kpA (uA A 30 2 (A 30 2 - 1))) M' := by
  have hn := hW.1.1
  have h14 : M.1 1 4 = n3 (A 30 2) := CA_n hC
  have hWn : WFn (uA A 30 2 (A 30 2 - 1)) := ⟨show A 30 2 - 1 ≤ 40 by omega, hW.1.2.1, fun i hi => hW.1.2.2.1 i (by have : i < A 30 2 - 1 := hi; omega), fun i hi => hW.1.2.2.2.1 i (by have : i < 4 * (A 30 2 - 1) := hi; omega), hW.1.2.2.2.2⟩
  have hW' : WFA (kpA (uA A 30 2 (A 30 2 - 1))) := kpA_WF (m0 := mA A) hWn hW.2.1.1 hW.2.1.2 hW.2.2.1 hW.2.2.2.1 hW.2.2.2.2.1 hW.2.2.2.2.2
  have ep : Tu_pop M = wL (wL (wI M 1 4 (n3 (A 30 2 - 1))) 1 2 (Hp_withBit (M.2 1 2) (n3 (A 30 2 - 1)) false M)) 1 3 (Hp_withBit (M.2 1 3) (n3 (A 30 2 - 1)) false M) := by
    unfold Tu_pop
    rw [h14, l_1, n3_sub (by omega)]
    rfl
  have hB : CBq (uA A 30 2 (A 30 2 - 1)) (rpA (uA A 30 2 (A 30 2 - 1))) (wL (wL (wI M 1 4 (n3 (A 30 2 - 1))) 1 2 (Hp_withBit (M.2 1 2) (n3 (A 30 2 - 1)) false M)) 1 3 (Hp_withBit (M.2 1 3) (n3 (A 30 2 - 1)) false M)) := by
    obtain ⟨⟨a1, a2, a3, a4, a5⟩, ⟨b1, b2⟩, cc, qq, v, mm, ii⟩ := hC.1
    refine ⟨⟨a1, rfl, a3, a4, a5⟩, ⟨fun i hi => ?_, fun i hi => ?_⟩, cc, qq, v, mm, ii⟩
    · show hbt (Hp_withBit (M.2 1 2) (n3 (A 30 2 - 1)) false M) i = (decide (i < A 30 2 - 1) && sA A i)
      rw [hbt_with _ _ _ (by omega) hi, b1 i hi]
      by_cases q : i = A 30 2 - 1
      · rw [if_pos q, show decide (i < A 30 2 - 1) = false from decide_eq_false (by omega)]; rfl
      · rw [if_neg q]
        congr 1
        apply decide_eq_decide.mpr
        omega
    · show hbt (Hp_withBit (M.2 1 3) (n3 (A 30 2 - 1)) false M) i = (decide (i < A 30 2 - 1) && eA A i)
      rw [hbt_with _ _ _ (by omega) hi, b2 i hi]
      by_cases q : i = A 30 2 - 1
      · rw [if_pos q, show decide (i < A 30 2 - 1) = false from decide_eq_false (by omega)]; rfl
      · rw [if_neg q]
        congr 1
        apply decide_eq_decide.mpr
        omega
  obtain ⟨M', m1, m2, -, -, -, -⟩ := lay_go hW' (kpA_CB hB) hW.2.1.1.1 (fun i => (hW.2.1.2 i).2.1) rfl
  refine ⟨M', ?_, hW', m2⟩
  rw [Hp_dropNote, h14, if_pos (by rw [l_0, n3_lt (by omega) (by omega)]; omega), ep, Option.bind_some, m1, Option.bind_some, CA_n m2]
  rfl
/-- a mark set or taken: c is the place of the marks in the state, 33 or 34 -/
def mkA (A : aS) (e : Bool) (i : Nat) (on : Bool) : aS := uA A (if e then 34 else 33) i on.toNat
theorem p_mark {A : aS} {M : hyM} (hW : WFA A) (hC : CA A M) {i : Nat} (hi : i < A 30 2) (e c : Bool) :
    ∃ M', (Hp_mark (n3 i) e c M).bind rtM = some (n3 (mA (mkA A e i c)), M') ∧ WFA (kpA (mkA A e i c)) ∧ CA (kpA (mkA A e i c)) M' := by
  have hn := hW.1.1
  have h14 : M.1 1 4 = n3 (A 30 2) := CA_n hC
  have hct : c.toNat ≤ 1 := by cases c <;> decide
  cases e
  · have hWn : WFn (uA A 33 i c.toNat) := by
      refine ⟨hW.1.1, hW.1.2.1, hW.1.2.2.1, hW.1.2.2.2.1, fun j => ?_⟩
      show uA A 33 i c.toNat 33 j ≤ 1 ∧ A 34 j ≤ 1
      refine ⟨?_, (hW.1.2.2.2.2 j).2⟩
      by_cases q : j = i
      · subst q; rw [uA_eq]; exact hct
      · rw [uA_nk q]; exact (hW.1.2.2.2.2 j).1
    have hW' : WFA (kpA (uA A 33 i c.toNat)) := kpA_WF (m0 := mA A) hWn hW.2.1.1 hW.2.1.2 hW.2.2.1 hW.2.2.2.1 hW.2.2.2.2.1 hW.2.2.2.2.2
    have hB : CBq (uA A 33 i c.toNat) (rpA (uA A 33 i c.toNat)) (wL M 1 2 (Hp_withBit (M.2 1 2) (n3 i) c M)) := by
      obtain ⟨aa, ⟨b1, b2⟩, cc, qq, v, mm, ii⟩ := hC.1
      refine ⟨aa, ⟨fun j hj => ?_, b2⟩, cc, qq, v, mm, ii⟩
      show hbt (Hp_withBit (M.2 1 2) (n3 i) c M) j = (decide (j < A 30 2) && Nat.beq (uA A 33 i c.toNat 33 j) 1)
      rw [hbt_with _ _ _ (by omega) hj, b1 j hj]
      by_cases q : j = i
      · subst q; rw [if_pos rfl, uA_eq, tn_beq, show decide (j < A 30 2) = true from decide_eq_true hi]; rfl
      · rw [if_neg q, uA_nk q]; rfl
    obtain ⟨M', m1, m2, m3, -, -, -⟩ := lay_go hW' (kpA_CB hB) hW.2.1.1.1 (fun i => (hW.2.1.2 i).2.1) rfl
    refine ⟨M', ?_, hW', m2⟩
    rw [Hp_mark, h14, ixOk M hi (by omega)]
    dsimp only
    rw [if_neg (by decide), Option.bind_some, m1, Option.bind_some, m3]
    rfl
  · have hWn : WFn (uA A 34 i c.toNat) := by
      refine ⟨hW.1.1, hW.1.2.1, hW.1.2.2.1, hW.1.2.2.2.1, fun j => ?_⟩
      show A 33 j ≤ 1 ∧ uA A 34 i c.toNat 34 j ≤ 1
      refine ⟨(hW.1.2.2.2.2 j).1, ?_⟩
      by_cases q : j = i
      · subst q; rw [uA_eq]; exact hct
      · rw [uA_nk q]; exact (hW.1.2.2.2.2 j).2
    have hW' : WFA (kpA (uA A 34 i c.toNat)) := kpA_WF (m0 := mA A) hWn hW.2.1.1 hW.2.1.2 hW.2.2.1 hW.2.2.2.1 hW.2.2.2.2.1 hW.2.2.2.2.2
    have hB : CBq (uA A 34 i c.toNat) (rpA (uA A 34 i c.toNat)) (wL M 1 3 (Hp_withBit (M.2 1 3) (n3 i) c M)) := by
      obtain ⟨aa, ⟨b1, b2⟩, cc, qq, v, mm, ii⟩ := hC.1
      refine ⟨aa, ⟨b1, fun j hj => ?_⟩, cc, qq, v, mm, ii⟩
      show hbt (Hp_withBit (M.2 1 3) (n3 i) c M) j = (decide (j < A 30 2) && Nat.beq (uA A 34 i c.toNat 34 j) 1)
      rw [hbt_with _ _ _ (by omega) hj, b2 j hj]
      by_cases q : j = i
      · subst q; rw [if_pos rfl, uA_eq, tn_beq, show decide (j < A 30 2) = true from decide_eq_true hi]; rfl
      · rw [if_neg q, uA_nk q]; rfl
    obtain ⟨M', m1, m2, m3, -, -, -⟩ := lay_go hW' (kpA_CB hB) hW.2.1.1.1 (fun i => (hW.2.1.2 i).2.1) rfl
    refine ⟨M', ?_, hW', m2⟩
    rw [Hp_mark, h14, ixOk M hi (by omega)]
    dsimp only
    rw [if_pos (by decide), Option.bind_some, m1, Option.bind_some, m3]
    rfl
theorem p_repeat {A : aS} {M : hyM} (hW : WFA A) (hC : CA A M) {f l s : Nat} (h3 : A 30 7 < 3) (hfl : f ≤ l) (hl : l < mA A) (hs : s ≤ l - f) (z : tcB (rpA A) f l (rpA A).1 = false) :
    ∃ M', (Hp_repeat (n3 f) (n3 l) (n3 s) M).bind rtM = some (n3 (LA (reA A f l s)).length, M') ∧ WFA (reA A f l s) ∧ CA (reA A f l s) M' := by
  have hn := hW.1.1
  have hm := mA_le A
  have h125 : M.1 12 5 = n3 (mA A) := hC.2.1.1
  have h53 : M.1 5 3 = n3 (A 30 7) := hC.1.2.2.2.1.1
  have hRQ : RQ (rpA A) M := hC.1.2.2.2.1.2
  have hw := hW.2.1.1
  have t1 := Re_touch_ok hw (by omega) h53 hRQ (f := f) (l := l) (by omega) (by omega)
  rw [z] at t1
  have hW' := reA_WF hW h3 hfl hl hs z
  have ep := Re_push_eq (M := M) (a := n3 f) (b := n3 l) (c := n3 s) h53 h3
  have hB : CB (reA A f l s) (wI (wI (wI (wI M 6 (A 30 7) (n3 f)) 7 (A 30 7) (n3 l)) 8 (A 30 7) (n3 s)) 5 3 (n3 (A 30 7 + 1))) := by
    obtain ⟨aa, bb, cc, qq, v, mm, ii⟩ := hC.1
    exact ⟨aa, bb, cc, ⟨rfl, uw (M := M) (B := A) (c := 6) (c' := 35) _ _ hRQ.1, uw (M := M) (B := A) (c := 7) (c' := 36) _ _ hRQ.2.1, uw (M := M) (B := A) (c := 8) (c' := 37) _ _ hRQ.2.2⟩, v, mm, ii⟩
  obtain ⟨M', m1, m2, -, m4, -, -⟩ := lay_same hW' hB
  refine ⟨M', ?_, hW', m2⟩
  rw [Hp_repeat, h125, ixOk M (show f < mA A by omega) (by omega)]
  dsimp only
  rw [ixOk M hl (by omega)]
  dsimp only
  rw [n3_sub hfl, show (0 : Int32) = n3 0 from rfl, rgOk M (Nat.zero_le _) hs (by omega)]
  dsimp only
  rw [h53, if_pos (by rw [show (3 : Int32) = n3 3 from rfl, n3_lt (by omega) (by omega)]; exact h3), t1, Option.bind_some, if_neg (by decide), ep, Option.bind_some, m1, Option.bind_some, m4]
  rfl
