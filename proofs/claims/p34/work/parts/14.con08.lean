set_option maxHeartbeats 1000000 in
set_option maxRecDepth 100000 in
theorem c_La_last {l : Launch} {G : hyG} (Mc Mo : hyM) (a1 : Int32) (M : hyM) {res : Int32} (h : La_last a1 M = some res) : hyC l yL_last (.code yL_last cL_last 4 (some .int)) 2 46 (0) G [.int a1, .ref (adr G 30), .ref (adr G 31)] (Mc, M, Mo) (.inr (some (.int res)), (Mc, M, Mo)) := by
  refine hy_of (by decide +kernel) (Nat.le_of_ble_eq_true rfl) ?_
  intro p e s m below meth c hx hb hml hown hts hr hlocks ht hX hP hS ls hl
  have hl : lv_has ls 4 [(0, .int a1), (1, .ref (adr G 30)), (2, .ref (adr G 31))] := hl
  rw [La_last] at h
  refine lv_aload_n hx hb dL_last_0 rfl (lv_at hl 1 rfl) ?_
  refine lv_iconst (v := 1) hx hb dL_last_1 rfl ?_
  obtain ⟨v1, hv1, h⟩ := hy_bind h
  obtain ⟨nv1, hv1⟩ := ldE_some hv1
  refine hy_iald (T := (Mc, M, Mo)) hx hb hX hP 30 6 (M.1 30) (hy34 G (by decide)) rfl nv1 dL_last_2 ?_
  rw [hv1]
  refine lv_iconst (v := 1) hx hb dL_last_3 rfl ?_
  refine lv_isub hx hb dL_last_4 ?_
  refine lv_istore_n (lv' := [(3, .int (v1 - 1)), (0, .int a1), (1, .ref (adr G 30)), (2, .ref (adr G 31))]) hx hb dL_last_5 rfl hl (by decide) rfl (fun ls hl => ?_)
  have L5 : ∀ (f : Nat) (x2 : Int32) (qL : (Int32)) (h : La_last_L6 a1 M f x2 = some qL) (H : Heap) (locs : List Loc) (ls : Array Slot) (hP : va_P G.1 vwCl (wld G (Mc, M, Mo)) H) (hS : va_S (hyA G) s.heap H locs) (hl : lv_has ls 4 [(0, .int a1), (1, .ref (adr G 30)), (2, .ref (adr G 31)), (3, .int x2)]) (kk : ∀ (y2 : Int32), qL = (y2) → ∀ (H : Heap) (locs : List Loc) (ls : Array Slot), va_P G.1 vwCl (wld G (Mc, M, Mo)) H → va_S (hyA G) s.heap H locs → lv_has ls 4 [(0, .int a1), (1, .ref (adr G 30)), (2, .ref (adr G 31)), (3, .int y2)] → W p l e { frames := 2, cells := 0, slots := 6 * 0, locals := 46 } s m ([.int a1, .ref (adr G 30), .ref (adr G 31)] : List Value).toArray below meth c H locs 0 0 (vx_MQ below (hyQ G (.inr (some (.int res)), (Mc, M, Mo))) (hyXQ G (.inr (some (.int res)), (Mc, M, Mo))) ([.int a1, .ref (adr G 30), .ref (adr G 31)] : List Value).toArray s 0 (6 * 0) (hyA G)) (F0 m 22 ls [])), W p l e { frames := 2, cells := 0, slots := 6 * 0, locals := 46 } s m ([.int a1, .ref (adr G 30), .ref (adr G 31)] : List Value).toArray below meth c H locs 0 0 (vx_MQ below (hyQ G (.inr (some (.int res)), (Mc, M, Mo))) (hyXQ G (.inr (some (.int res)), (Mc, M, Mo))) ([.int a1, .ref (adr G 30), .ref (adr G 31)] : List Value).toArray s 0 (6 * 0) (hyA G)) (F0 m 6 ls []) := by
    intro f
    induction f with
    | zero =>
      intro x2 qL h H locs ls hP hS hl kk
      rw [La_last_L6] at h
      cases h
    | succ f ih =>
      intro x2 qL h H locs ls hP hS hl kk
      rw [La_last_L6] at h
      refine lv_iload_n hx hb dL_last_6 rfl (lv_at hl 3 rfl) ?_
      refine lv_aload_n hx hb dL_last_7 rfl (lv_at hl 1 rfl) ?_
      refine lv_aload_n hx hb dL_last_8 rfl (lv_at hl 2 rfl) ?_
      obtain ⟨v3, hv3, h⟩ := hy_bind h
      refine hy_ret (hy_rS0 (T := (Mc, M, Mo)) (v := some (.int v3)) (T2 := (Mc, M, Mo)) (As := [.int x2, .ref (adr G 30), .ref (adr G 31)]) (rest := []) (n := 0) hx hb hml hown hts hX hP hS hl (c_La_phraseOf Mc Mo x2 M hv3) m_La_phraseOf q_653 rfl rfl (Nat.le_of_ble_eq_true rfl) dL_last_9 ⟨Nat.le_of_ble_eq_true rfl, Nat.le_of_ble_eq_true rfl⟩ ⟨Nat.zero_le _, Nat.zero_le _⟩) hS (fun H locs hP hS => ?_)
      refine lv_iload_n hx hb dL_last_12 rfl (lv_at hl 0 rfl) ?_
      refine lv_icmp_le (tgt := 22) hx hb dL_last_13 (by decide) (fun c4 => ?_) (fun c4 => ?_)
      · rw [if_pos c4] at h
        exact kk x2 (Option.some.inj h).symm _ _ ls hP hS (lv_sub hl [0, 1, 2, 3] rfl)
      · rw [if_neg c4] at h
        refine lv_iinc (v := (x2 + (-1))) (lv' := [(3, .int (x2 + (-1))), (0, .int a1), (1, .ref (adr G 30)), (2, .ref (adr G 31))]) hx hb dL_last_16 hl (k := 3) rfl rfl (by decide) rfl (fun ls hl => ?_)
        refine lv_goto (tgt := 6) hx hb dL_last_19 (by decide) ?_
        exact ih (x2 + (-1)) _ h  _ _ ls hP hS (lv_sub hl [1, 2, 3, 0] rfl) kk
  obtain ⟨q6, hq6, h⟩ := hy_bind h
  refine L5 hyFu (v1 - 1) q6 hq6 _ _ ls hP hS (lv_sub hl [1, 2, 3, 0] rfl) ?_
  intro y2 e9 H locs ls hP hS hl
  subst e9
  try dsimp only at h
  refine lv_iload_n hx hb dL_last_22 rfl (lv_at hl 3 rfl) ?_
  exact hy_iret (T := (Mc, M, Mo)) hx hb hr hlocks hP hS (Nat.zero_le _) (Nat.zero_le _) (by rw [← (Option.some.inj h)] <;> rfl) dL_last_23
set_option maxHeartbeats 1000000 in
set_option maxRecDepth 100000 in
theorem c_La_slurred {l : Launch} {G : hyG} (Mc Mo : hyM) (a1 : Int32) (M : hyM) {res : Bool} (h : La_slurred a1 M = some res) : hyC l yL_slurred (.code yL_slurred cL_slurred 3 (some .boolean)) 1 22 (0) G [.int a1, .ref (adr G 30), .ref (adr G 31)] (Mc, M, Mo) (.inr (some (.int (bI res))), (Mc, M, Mo)) := by
  refine hy_of (by decide +kernel) (Nat.le_of_ble_eq_true rfl) ?_
  intro p e s m below meth c hx hb hml hown hts hr hlocks ht hX hP hS ls hl
  have hl : lv_has ls 3 [(0, .int a1), (1, .ref (adr G 30)), (2, .ref (adr G 31))] := hl
  rw [La_slurred] at h
  refine lv_aload_n hx hb dL_slurred_0 rfl (lv_at hl 2 rfl) ?_
  refine lv_iconst (v := 5) hx hb dL_slurred_1 rfl ?_
  refine lv_iload_n hx hb dL_slurred_2 rfl (lv_at hl 0 rfl) ?_
  refine lv_imul hx hb dL_slurred_3 ?_
  obtain ⟨v1, hv1, h⟩ := hy_bind h
  obtain ⟨nv1, hv1⟩ := ldE_some hv1
  refine hy_iald (T := (Mc, M, Mo)) hx hb hX hP 31 60 (M.1 31) (hy34 G (by decide)) rfl nv1 dL_slurred_4 ?_
  rw [hv1]
  refine lv_iconst (v := 1) hx hb dL_slurred_5 rfl ?_
  refine lv_iand hx hb dL_slurred_6 ?_
  refine lv_iconst (v := 1) hx hb dL_slurred_7 rfl ?_
  have K7 : ∀ (H : Heap) (locs : List Loc), (if (v1 &&& 1) = 1 then (!decide (a1 ≤ 0)) else false) = true → va_P G.1 vwCl (wld G (Mc, M, Mo)) H → va_S (hyA G) s.heap H locs → W p l e { frames := 1, cells := 0, slots := 6 * 0, locals := 22 } s m ([.int a1, .ref (adr G 30), .ref (adr G 31)] : List Value).toArray below meth c H locs 0 0 (vx_MQ below (hyQ G (.inr (some (.int (bI res))), (Mc, M, Mo))) (hyXQ G (.inr (some (.int (bI res))), (Mc, M, Mo))) ([.int a1, .ref (adr G 30), .ref (adr G 31)] : List Value).toArray s 0 (6 * 0) (hyA G)) (F0 m 15 ls []) := by
    intro H locs cb hP hS
    rw [if_pos cb] at h
    refine lv_iload_n hx hb dL_slurred_15 rfl (lv_at hl 0 rfl) ?_
    refine lv_iconst (v := 1) hx hb dL_slurred_16 rfl ?_
    refine lv_isub hx hb dL_slurred_17 ?_
    refine lv_aload_n hx hb dL_slurred_18 rfl (lv_at hl 1 rfl) ?_
    refine lv_aload_n hx hb dL_slurred_19 rfl (lv_at hl 2 rfl) ?_
    obtain ⟨v4, hv4, h⟩ := hy_bind h
    refine hy_ret (hy_rS0 (T := (Mc, M, Mo)) (v := some (.int (bI v4))) (T2 := (Mc, M, Mo)) (As := [.int (a1 - 1), .ref (adr G 30), .ref (adr G 31)]) (rest := []) (n := 0) hx hb hml hown hts hX hP hS hl (c_La_end Mc Mo (a1 - 1) M hv4) m_La_end q_656 rfl rfl (Nat.le_of_ble_eq_true rfl) dL_slurred_20 ⟨Nat.le_of_ble_eq_true rfl, Nat.le_of_ble_eq_true rfl⟩ ⟨Nat.zero_le _, Nat.zero_le _⟩) hS (fun H locs hP hS => ?_)
    have J6 : ∀ (H : Heap) (locs : List Loc) (ls : Array Slot) (u1 : Int32), u1 = (bI (!v4)) → va_P G.1 vwCl (wld G (Mc, M, Mo)) H → va_S (hyA G) s.heap H locs → lv_has ls 3 [(0, .int a1), (1, .ref (adr G 30)), (2, .ref (adr G 31))] → W p l e { frames := 1, cells := 0, slots := 6 * 0, locals := 22 } s m ([.int a1, .ref (adr G 30), .ref (adr G 31)] : List Value).toArray below meth c H locs 0 0 (vx_MQ below (hyQ G (.inr (some (.int (bI res))), (Mc, M, Mo))) (hyXQ G (.inr (some (.int (bI res))), (Mc, M, Mo))) ([.int a1, .ref (adr G 30), .ref (adr G 31)] : List Value).toArray s 0 (6 * 0) (hyA G)) (F0 m 31 ls [.int u1]) := by
      intro H locs ls u1 eu1 hP hS hl
      subst eu1
      exact hy_zret (T := (Mc, M, Mo)) hx hb hr hlocks hP hS (Nat.zero_le _) (Nat.zero_le _) (bI_nar (!v4)) (by rw [← (Option.some.inj h)] <;> rfl) dL_slurred_31
    refine lv_if_ne (tgt := 30) hx hb dL_slurred_23 (by decide) (fun c5 => ?_) (fun c5 => ?_)
    · refine lv_iconst (v := 0) hx hb dL_slurred_30 rfl ?_
      exact J6 _ _ ls 0 (by rw [(bI_1 c5)] <;> rfl) hP hS (lv_sub hl [0, 1, 2] rfl)
    · refine lv_iconst (v := 1) hx hb dL_slurred_26 rfl ?_
      refine lv_goto (tgt := 31) hx hb dL_slurred_27 (by decide) ?_
      exact J6 _ _ ls 1 (by rw [(bI_z c5)] <;> rfl) hP hS (lv_sub hl [0, 1, 2] rfl)
  have K8 : ∀ (H : Heap) (locs : List Loc), ¬ (if (v1 &&& 1) = 1 then (!decide (a1 ≤ 0)) else false) = true → va_P G.1 vwCl (wld G (Mc, M, Mo)) H → va_S (hyA G) s.heap H locs → W p l e { frames := 1, cells := 0, slots := 6 * 0, locals := 22 } s m ([.int a1, .ref (adr G 30), .ref (adr G 31)] : List Value).toArray below meth c H locs 0 0 (vx_MQ below (hyQ G (.inr (some (.int (bI res))), (Mc, M, Mo))) (hyXQ G (.inr (some (.int (bI res))), (Mc, M, Mo))) ([.int a1, .ref (adr G 30), .ref (adr G 31)] : List Value).toArray s 0 (6 * 0) (hyA G)) (F0 m 30 ls []) := by
    intro H locs cb hP hS
    rw [if_neg cb] at h
    refine lv_iconst (v := 0) hx hb dL_slurred_30 rfl ?_
    exact hy_zret (T := (Mc, M, Mo)) hx hb hr hlocks hP hS (Nat.zero_le _) (Nat.zero_le _) (bI_nar false) (by rw [← (Option.some.inj h)] <;> rfl) dL_slurred_31
  refine lv_icmp_ne (tgt := 30) hx hb dL_slurred_8 (by decide) (fun c2 => ?_) (fun c2 => ?_)
  · exact K8 _ _ (by rw [if_neg c2] <;> first | rfl | decide) hP hS
  · refine lv_iload_n hx hb dL_slurred_11 rfl (lv_at hl 0 rfl) ?_
    refine lv_if_le (tgt := 30) hx hb dL_slurred_12 (by decide) (fun c3 => ?_) (fun c3 => ?_)
    · exact K8 _ _ (by rw [if_pos c2, decide_eq_true c3] <;> first | rfl | decide) hP hS
    · exact K7 _ _ (by rw [if_pos c2, decide_eq_false c3] <;> first | rfl | decide) hP hS
set_option maxHeartbeats 1000000 in
set_option maxRecDepth 100000 in
theorem c_La_syllables {l : Launch} {G : hyG} (Mc Mo : hyM) (a1 : Int32) (a2 : Int32) (M : hyM) {res : Int32} (h : La_syllables a1 a2 M = some res) : hyC l yL_syllables (.code yL_syllables cL_syllables 6 (some .int)) 2 44 (0) G [.int a1, .int a2, .ref (adr G 30), .ref (adr G 31)] (Mc, M, Mo) (.inr (some (.int res)), (Mc, M, Mo)) := by
  refine hy_of (by decide +kernel) (Nat.le_of_ble_eq_true rfl) ?_
  intro p e s m below meth c hx hb hml hown hts hr hlocks ht hX hP hS ls hl
  have hl : lv_has ls 6 [(0, .int a1), (1, .int a2), (2, .ref (adr G 30)), (3, .ref (adr G 31))] := hl
  rw [La_syllables] at h
  refine lv_iconst (v := 0) hx hb dL_syllables_0 rfl ?_
  refine lv_istore (lv' := [(4, .int 0), (0, .int a1), (1, .int a2), (2, .ref (adr G 30)), (3, .ref (adr G 31))]) hx hb dL_syllables_1 hl (by decide) rfl (fun ls hl => ?_)
  refine lv_iload_n hx hb dL_syllables_3 rfl (lv_at hl 1 rfl) ?_
  refine lv_istore (lv' := [(5, .int a1), (4, .int 0), (0, .int a1), (1, .int a2), (2, .ref (adr G 30)), (3, .ref (adr G 31))]) hx hb dL_syllables_4 hl (by decide) rfl (fun ls hl => ?_)
  have L7 : ∀ (f : Nat) (x1 : Int32) (x2 : Int32) (qL : (Int32 × Int32)) (h : La_syllables_L6 a2 M f x1 x2 = some qL) (H : Heap) (locs : List Loc) (ls : Array Slot) (hP : va_P G.1 vwCl (wld G (Mc, M, Mo)) H) (hS : va_S (hyA G) s.heap H locs) (hl : lv_has ls 6 [(0, .int a1), (1, .int a2), (2, .ref (adr G 30)), (3, .ref (adr G 31)), (4, .int x1), (5, .int x2)]) (kk : ∀ (y1 : Int32) (y2 : Int32), qL = (y1, y2) → ∀ (H : Heap) (locs : List Loc) (ls : Array Slot), va_P G.1 vwCl (wld G (Mc, M, Mo)) H → va_S (hyA G) s.heap H locs → lv_has ls 6 [(0, .int a1), (1, .int a2), (2, .ref (adr G 30)), (3, .ref (adr G 31)), (4, .int y1), (5, .int y2)] → W p l e { frames := 2, cells := 0, slots := 6 * 0, locals := 44 } s m ([.int a1, .int a2, .ref (adr G 30), .ref (adr G 31)] : List Value).toArray below meth c H locs 0 0 (vx_MQ below (hyQ G (.inr (some (.int res)), (Mc, M, Mo))) (hyXQ G (.inr (some (.int res)), (Mc, M, Mo))) ([.int a1, .int a2, .ref (adr G 30), .ref (adr G 31)] : List Value).toArray s 0 (6 * 0) (hyA G)) (F0 m 38 ls [])), W p l e { frames := 2, cells := 0, slots := 6 * 0, locals := 44 } s m ([.int a1, .int a2, .ref (adr G 30), .ref (adr G 31)] : List Value).toArray below meth c H locs 0 0 (vx_MQ below (hyQ G (.inr (some (.int res)), (Mc, M, Mo))) (hyXQ G (.inr (some (.int res)), (Mc, M, Mo))) ([.int a1, .int a2, .ref (adr G 30), .ref (adr G 31)] : List Value).toArray s 0 (6 * 0) (hyA G)) (F0 m 6 ls []) := by
    intro f
    induction f with
    | zero =>
      intro x1 x2 qL h H locs ls hP hS hl kk
      rw [La_syllables_L6] at h
      cases h
    | succ f ih =>
      intro x1 x2 qL h H locs ls hP hS hl kk
      rw [La_syllables_L6] at h
      refine lv_iload hx hb dL_syllables_6 (lv_at hl 5 rfl) ?_
      refine lv_iload_n hx hb dL_syllables_8 rfl (lv_at hl 1 rfl) ?_
      refine lv_icmp_gt (tgt := 38) hx hb dL_syllables_9 (by decide) (fun c3 => ?_) (fun c3 => ?_)
      · rw [if_pos c3] at h
        exact kk x1 x2 (Option.some.inj h).symm _ _ ls hP hS (lv_sub hl [0, 1, 2, 3, 4, 5] rfl)
      · rw [if_neg c3] at h
        refine lv_iload hx hb dL_syllables_12 (lv_at hl 4 rfl) ?_
        refine lv_iload hx hb dL_syllables_14 (lv_at hl 5 rfl) ?_
        refine lv_aload_n hx hb dL_syllables_16 rfl (lv_at hl 2 rfl) ?_
        refine lv_aload_n hx hb dL_syllables_17 rfl (lv_at hl 3 rfl) ?_
        obtain ⟨v4, hv4, h⟩ := hy_bind h
        refine hy_ret (hy_rS0 (T := (Mc, M, Mo)) (v := some (.int (bI v4))) (T2 := (Mc, M, Mo)) (As := [.int x2, .ref (adr G 30), .ref (adr G 31)]) (rest := [.int x1]) (n := 0) hx hb hml hown hts hX hP hS hl (c_La_slurred Mc Mo x2 M hv4) m_La_slurred q_711 rfl rfl (Nat.le_of_ble_eq_true rfl) dL_syllables_18 ⟨Nat.le_of_ble_eq_true rfl, Nat.le_of_ble_eq_true rfl⟩ ⟨Nat.zero_le _, Nat.zero_le _⟩) hS (fun H locs hP hS => ?_)
        have J6 : ∀ (H : Heap) (locs : List Loc) (ls : Array Slot) (u1 : Int32), u1 = (bI (!v4)) → va_P G.1 vwCl (wld G (Mc, M, Mo)) H → va_S (hyA G) s.heap H locs → lv_has ls 6 [(0, .int a1), (1, .int a2), (2, .ref (adr G 30)), (3, .ref (adr G 31)), (4, .int x1), (5, .int x2)] → W p l e { frames := 2, cells := 0, slots := 6 * 0, locals := 44 } s m ([.int a1, .int a2, .ref (adr G 30), .ref (adr G 31)] : List Value).toArray below meth c H locs 0 0 (vx_MQ below (hyQ G (.inr (some (.int res)), (Mc, M, Mo))) (hyXQ G (.inr (some (.int res)), (Mc, M, Mo))) ([.int a1, .int a2, .ref (adr G 30), .ref (adr G 31)] : List Value).toArray s 0 (6 * 0) (hyA G)) (F0 m 29 ls [.int u1, .int x1]) := by
          intro H locs ls u1 eu1 hP hS hl
          subst eu1
          refine lv_iadd hx hb dL_syllables_29 ?_
          refine lv_istore (lv' := [(4, .int (x1 + (bI (!v4)))), (0, .int a1), (1, .int a2), (2, .ref (adr G 30)), (3, .ref (adr G 31)), (5, .int x2)]) hx hb dL_syllables_30 hl (by decide) rfl (fun ls hl => ?_)
          refine lv_iinc (v := (x2 + 1)) (lv' := [(5, .int (x2 + 1)), (4, .int (x1 + (bI (!v4)))), (0, .int a1), (1, .int a2), (2, .ref (adr G 30)), (3, .ref (adr G 31))]) hx hb dL_syllables_32 hl (k := 5) rfl rfl (by decide) rfl (fun ls hl => ?_)
          refine lv_goto (tgt := 6) hx hb dL_syllables_35 (by decide) ?_
          exact ih (x1 + (bI (!v4))) (x2 + 1) _ h  _ _ ls hP hS (lv_sub hl [2, 3, 4, 5, 1, 0] rfl) kk
        refine lv_if_eq (tgt := 28) hx hb dL_syllables_21 (by decide) (fun c5 => ?_) (fun c5 => ?_)
        · refine lv_iconst (v := 1) hx hb dL_syllables_28 rfl ?_
          exact J6 _ _ ls 1 (by rw [(bI_z c5)] <;> rfl) hP hS (lv_sub hl [0, 1, 2, 3, 4, 5] rfl)
        · refine lv_iconst (v := 0) hx hb dL_syllables_24 rfl ?_
          refine lv_goto (tgt := 29) hx hb dL_syllables_25 (by decide) ?_
          exact J6 _ _ ls 0 (by rw [(bI_1 c5)] <;> rfl) hP hS (lv_sub hl [0, 1, 2, 3, 4, 5] rfl)
  obtain ⟨q8, hq8, h⟩ := hy_bind h
  refine L7 hyFu 0 a1 q8 hq8 _ _ ls hP hS (lv_sub hl [2, 3, 4, 5, 1, 0] rfl) ?_
  intro y1 y2 e9 H locs ls hP hS hl
  subst e9
  try dsimp only at h
  refine lv_iload hx hb dL_syllables_38 (lv_at hl 4 rfl) ?_
  exact hy_iret (T := (Mc, M, Mo)) hx hb hr hlocks hP hS (Nat.zero_le _) (Nat.zero_le _) (by rw [← (Option.some.inj h)] <;> rfl) dL_syllables_40
set_option maxHeartbeats 1000000 in
set_option maxRecDepth 100000 in
theorem c_La_sung {l : Launch} {G : hyG} (hex : 1 ≤ exn G) (Mc Mo : hyM) (M : hyM) {res : (Int32 × hyM)} (h : La_sung M = some res) : hyC l yL_sung (.code yL_sung cL_sung 9 (some .int)) 3 67 (0) G [.ref (adr G 30), .ref (adr G 31), .ref (adr G 32), .ref (adr G 34)] (Mc, M, Mo) (.inr (some (.int res.1)), (Mc, res.2, Mo)) := by
  refine hy_of (by decide +kernel) (Nat.le_of_ble_eq_true rfl) ?_
  intro p e s m below meth c hx hb hml hown hts hr hlocks ht hX hP hS ls hl
  have hl : lv_has ls 9 [(0, .ref (adr G 30)), (1, .ref (adr G 31)), (2, .ref (adr G 32)), (3, .ref (adr G 34))] := hl
  rw [La_sung] at h
  refine lv_iconst (v := 0) hx hb dL_sung_0 rfl ?_
  refine lv_istore (lv' := [(4, .int 0), (0, .ref (adr G 30)), (1, .ref (adr G 31)), (2, .ref (adr G 32)), (3, .ref (adr G 34))]) hx hb dL_sung_1 hl (by decide) rfl (fun ls hl => ?_)
  refine lv_iconst (v := 0) hx hb dL_sung_3 rfl ?_
  refine lv_istore (lv' := [(5, .int 0), (4, .int 0), (0, .ref (adr G 30)), (1, .ref (adr G 31)), (2, .ref (adr G 32)), (3, .ref (adr G 34))]) hx hb dL_sung_4 hl (by decide) rfl (fun ls hl => ?_)
  have L37 : ∀ (f : Nat) (x1 : Int32) (x2 : Int32) (M3 : hyM) (qL : (Int32 × Int32 × hyM)) (h : La_sung_L6  f x1 x2 M3 = some qL) (H : Heap) (locs : List Loc) (ls : Array Slot) (hP : va_P G.1 vwCl (wld G (Mc, M3, Mo)) H) (hS : va_S (hyA G) s.heap H locs) (hl : lv_has ls 9 [(0, .ref (adr G 30)), (1, .ref (adr G 31)), (2, .ref (adr G 32)), (3, .ref (adr G 34)), (4, .int x1), (5, .int x2)]) (kk : ∀ (y1 : Int32) (y2 : Int32) (NM3 : hyM), qL = (y1, y2, NM3) → ∀ (H : Heap) (locs : List Loc) (ls : Array Slot), va_P G.1 vwCl (wld G (Mc, NM3, Mo)) H → va_S (hyA G) s.heap H locs → lv_has ls 9 [(0, .ref (adr G 30)), (1, .ref (adr G 31)), (2, .ref (adr G 32)), (3, .ref (adr G 34)), (4, .int y1), (5, .int y2)] → W p l e { frames := 3, cells := 0, slots := 6 * 0, locals := 67 } s m ([.ref (adr G 30), .ref (adr G 31), .ref (adr G 32), .ref (adr G 34)] : List Value).toArray below meth c H locs 0 0 (vx_MQ below (hyQ G (.inr (some (.int res.1)), (Mc, res.2, Mo))) (hyXQ G (.inr (some (.int res.1)), (Mc, res.2, Mo))) ([.ref (adr G 30), .ref (adr G 31), .ref (adr G 32), .ref (adr G 34)] : List Value).toArray s 0 (6 * 0) (hyA G)) (F0 m 155 ls [])), W p l e { frames := 3, cells := 0, slots := 6 * 0, locals := 67 } s m ([.ref (adr G 30), .ref (adr G 31), .ref (adr G 32), .ref (adr G 34)] : List Value).toArray below meth c H locs 0 0 (vx_MQ below (hyQ G (.inr (some (.int res.1)), (Mc, res.2, Mo))) (hyXQ G (.inr (some (.int res.1)), (Mc, res.2, Mo))) ([.ref (adr G 30), .ref (adr G 31), .ref (adr G 32), .ref (adr G 34)] : List Value).toArray s 0 (6 * 0) (hyA G)) (F0 m 6 ls []) := by
    intro f
    induction f with
    | zero =>
      intro x1 x2 M3 qL h H locs ls hP hS hl kk
      rw [La_sung_L6] at h
      cases h
    | succ f ih =>
      intro x1 x2 M3 qL h H locs ls hP hS hl kk
      rw [La_sung_L6] at h
      refine lv_iload hx hb dL_sung_6 (lv_at hl 5 rfl) ?_
      refine lv_aload_n hx hb dL_sung_8 rfl (lv_at hl 0 rfl) ?_
      refine lv_aload_n hx hb dL_sung_9 rfl (lv_at hl 1 rfl) ?_
      obtain ⟨v4, hv4, h⟩ := hy_bind h
      refine hy_ret (hy_rS0 (T := (Mc, M3, Mo)) (v := some (.int v4)) (T2 := (Mc, M3, Mo)) (As := [.ref (adr G 30), .ref (adr G 31)]) (rest := [.int x2]) (n := 0) hx hb hml hown hts hX hP hS hl (c_La_phrases Mc Mo M3 hv4) m_La_phrases q_650 rfl rfl (Nat.le_of_ble_eq_true rfl) dL_sung_10 ⟨Nat.le_of_ble_eq_true rfl, Nat.le_of_ble_eq_true rfl⟩ ⟨Nat.zero_le _, Nat.zero_le _⟩) hS (fun H locs hP hS => ?_)
      refine lv_icmp_ge (tgt := 155) hx hb dL_sung_13 (by decide) (fun c5 => ?_) (fun c5 => ?_)
      · rw [if_pos c5] at h
        exact kk x1 x2 M3 (Option.some.inj h).symm _ _ ls hP hS (lv_sub hl [0, 1, 2, 3, 4, 5] rfl)
      · rw [if_neg c5] at h
        refine lv_iconst (v := (-1)) hx hb dL_sung_16 rfl ?_
        refine lv_istore (lv' := [(6, .int (-1)), (0, .ref (adr G 30)), (1, .ref (adr G 31)), (2, .ref (adr G 32)), (3, .ref (adr G 34)), (4, .int x1), (5, .int x2)]) hx hb dL_sung_17 hl (by decide) rfl (fun ls hl => ?_)
        refine lv_iconst (v := 0) hx hb dL_sung_19 rfl ?_
        refine lv_istore (lv' := [(7, .int 0), (6, .int (-1)), (0, .ref (adr G 30)), (1, .ref (adr G 31)), (2, .ref (adr G 32)), (3, .ref (adr G 34)), (4, .int x1), (5, .int x2)]) hx hb dL_sung_20 hl (by decide) rfl (fun ls hl => ?_)
        have L13 : ∀ (f : Nat) (x6 : Int32) (x7 : Int32) (qL : (Int32 × Int32)) (h : La_sung_L22 x2 M3 f x6 x7 = some qL) (H : Heap) (locs : List Loc) (ls : Array Slot) (hP : va_P G.1 vwCl (wld G (Mc, M3, Mo)) H) (hS : va_S (hyA G) s.heap H locs) (hl : lv_has ls 9 [(0, .ref (adr G 30)), (1, .ref (adr G 31)), (2, .ref (adr G 32)), (3, .ref (adr G 34)), (4, .int x1), (5, .int x2), (6, .int x6), (7, .int x7)]) (kk : ∀ (y6 : Int32) (y7 : Int32), qL = (y6, y7) → ∀ (H : Heap) (locs : List Loc) (ls : Array Slot), va_P G.1 vwCl (wld G (Mc, M3, Mo)) H → va_S (hyA G) s.heap H locs → lv_has ls 9 [(0, .ref (adr G 30)), (1, .ref (adr G 31)), (2, .ref (adr G 32)), (3, .ref (adr G 34)), (4, .int x1), (5, .int x2), (6, .int y6), (7, .int y7)] → W p l e { frames := 3, cells := 0, slots := 6 * 0, locals := 67 } s m ([.ref (adr G 30), .ref (adr G 31), .ref (adr G 32), .ref (adr G 34)] : List Value).toArray below meth c H locs 0 0 (vx_MQ below (hyQ G (.inr (some (.int res.1)), (Mc, res.2, Mo))) (hyXQ G (.inr (some (.int res.1)), (Mc, res.2, Mo))) ([.ref (adr G 30), .ref (adr G 31), .ref (adr G 32), .ref (adr G 34)] : List Value).toArray s 0 (6 * 0) (hyA G)) (F0 m 51 ls [])), W p l e { frames := 3, cells := 0, slots := 6 * 0, locals := 67 } s m ([.ref (adr G 30), .ref (adr G 31), .ref (adr G 32), .ref (adr G 34)] : List Value).toArray below meth c H locs 0 0 (vx_MQ below (hyQ G (.inr (some (.int res.1)), (Mc, res.2, Mo))) (hyXQ G (.inr (some (.int res.1)), (Mc, res.2, Mo))) ([.ref (adr G 30), .ref (adr G 31), .ref (adr G 32), .ref (adr G 34)] : List Value).toArray s 0 (6 * 0) (hyA G)) (F0 m 22 ls []) := by
          intro f
          induction f with
          | zero =>
            intro x6 x7 qL h H locs ls hP hS hl kk
            rw [La_sung_L22] at h
            cases h
          | succ f ih =>
            intro x6 x7 qL h H locs ls hP hS hl kk
            rw [La_sung_L22] at h
            refine lv_iload hx hb dL_sung_22 (lv_at hl 7 rfl) ?_
            refine lv_aload_n hx hb dL_sung_24 rfl (lv_at hl 0 rfl) ?_
            refine lv_iconst (v := 5) hx hb dL_sung_25 rfl ?_
            obtain ⟨v8, hv8, h⟩ := hy_bind h
            obtain ⟨nv8, hv8⟩ := ldE_some hv8
            refine hy_iald (T := (Mc, M3, Mo)) hx hb hX hP 30 6 (M3.1 30) (hy34 G (by decide)) rfl nv8 dL_sung_26 ?_
            rw [hv8]
            refine lv_icmp_ge (tgt := 51) hx hb dL_sung_27 (by decide) (fun c9 => ?_) (fun c9 => ?_)
            · rw [if_pos c9] at h
              exact kk x6 x7 (Option.some.inj h).symm _ _ ls hP hS (lv_sub hl [0, 1, 2, 3, 4, 5, 6, 7] rfl)
            · rw [if_neg c9] at h
              refine lv_aload_n hx hb dL_sung_30 rfl (lv_at hl 2 rfl) ?_
              refine lv_iconst (v := 3) hx hb dL_sung_31 rfl ?_
              refine lv_iload hx hb dL_sung_32 (lv_at hl 7 rfl) ?_
              refine lv_imul hx hb dL_sung_34 ?_
              obtain ⟨v10, hv10, h⟩ := hy_bind h
              obtain ⟨nv10, hv10⟩ := ldE_some hv10
              refine hy_iald (T := (Mc, M3, Mo)) hx hb hX hP 32 9 (M3.1 32) (hy34 G (by decide)) rfl nv10 dL_sung_35 ?_
              rw [hv10]
              refine lv_iload hx hb dL_sung_36 (lv_at hl 5 rfl) ?_
              have J12 : ∀ (H : Heap) (locs : List Loc) (ls : Array Slot) (u1 : Int32), u1 = ((if v10 = x2 then x7 else x6) : Int32) → va_P G.1 vwCl (wld G (Mc, M3, Mo)) H → va_S (hyA G) s.heap H locs → lv_has ls 9 [(0, .ref (adr G 30)), (1, .ref (adr G 31)), (2, .ref (adr G 32)), (3, .ref (adr G 34)), (4, .int x1), (5, .int x2), (6, .int u1), (7, .int x7)] → W p l e { frames := 3, cells := 0, slots := 6 * 0, locals := 67 } s m ([.ref (adr G 30), .ref (adr G 31), .ref (adr G 32), .ref (adr G 34)] : List Value).toArray below meth c H locs 0 0 (vx_MQ below (hyQ G (.inr (some (.int res.1)), (Mc, res.2, Mo))) (hyXQ G (.inr (some (.int res.1)), (Mc, res.2, Mo))) ([.ref (adr G 30), .ref (adr G 31), .ref (adr G 32), .ref (adr G 34)] : List Value).toArray s 0 (6 * 0) (hyA G)) (F0 m 45 ls []) := by
                intro H locs ls u1 eu1 hP hS hl
                subst eu1
                refine lv_iinc (v := (x7 + 1)) (lv' := [(7, .int (x7 + 1)), (0, .ref (adr G 30)), (1, .ref (adr G 31)), (2, .ref (adr G 32)), (3, .ref (adr G 34)), (4, .int x1), (5, .int x2), (6, .int ((if v10 = x2 then x7 else x6) : Int32))]) hx hb dL_sung_45 hl (k := 7) rfl rfl (by decide) rfl (fun ls hl => ?_)
                refine lv_goto (tgt := 22) hx hb dL_sung_48 (by decide) ?_
                exact ih ((if v10 = x2 then x7 else x6) : Int32) (x7 + 1) _ h  _ _ ls hP hS (lv_sub hl [1, 2, 3, 4, 5, 6, 7, 0] rfl) kk
              refine lv_icmp_ne (tgt := 45) hx hb dL_sung_38 (by decide) (fun c11 => ?_) (fun c11 => ?_)
              · exact J12 _ _ ls x6 (by rw [if_neg c11] <;> rfl) hP hS (lv_sub hl [0, 1, 2, 3, 4, 5, 6, 7] rfl)
              · refine lv_iload hx hb dL_sung_41 (lv_at hl 7 rfl) ?_
                refine lv_istore (lv' := [(6, .int x7), (0, .ref (adr G 30)), (1, .ref (adr G 31)), (2, .ref (adr G 32)), (3, .ref (adr G 34)), (4, .int x1), (5, .int x2), (7, .int x7)]) hx hb dL_sung_43 hl (by decide) rfl (fun ls hl => ?_)
                exact J12 _ _ ls x7 (by rw [if_pos c11] <;> rfl) hP hS (lv_sub hl [1, 2, 3, 4, 5, 6, 0, 7] rfl)
        obtain ⟨q36, hq36, h⟩ := hy_bind h
        refine L13 hyFu (-1) 0 q36 hq36 _ _ ls hP hS (lv_sub hl [2, 3, 4, 5, 6, 7, 1, 0] rfl) ?_
        intro y6 y7 e9 H locs ls hP hS hl
        subst e9
        try dsimp only at h
        refine lv_iload hx hb dL_sung_51 (lv_at hl 6 rfl) ?_
        refine lv_if_ge (tgt := 71) hx hb dL_sung_53 (by decide) (fun c14 => ?_) (fun c14 => ?_)
        · rw [if_pos c14] at h
          refine lv_iconst (v := 0) hx hb dL_sung_71 rfl ?_
          refine lv_istore (lv' := [(7, .int 0), (0, .ref (adr G 30)), (1, .ref (adr G 31)), (2, .ref (adr G 32)), (3, .ref (adr G 34)), (4, .int x1), (5, .int x2), (6, .int y6)]) hx hb dL_sung_72 hl (by decide) rfl (fun ls hl => ?_)
          have L32 : ∀ (f : Nat) (x15 : Int32) (x16 : Int32) (M17 : hyM) (qL : (Int32 × Int32 × hyM)) (h : La_sung_L74 y6 f x15 x16 M17 = some qL) (H : Heap) (locs : List Loc) (ls : Array Slot) (hP : va_P G.1 vwCl (wld G (Mc, M17, Mo)) H) (hS : va_S (hyA G) s.heap H locs) (hl : lv_has ls 9 [(0, .ref (adr G 30)), (1, .ref (adr G 31)), (2, .ref (adr G 32)), (3, .ref (adr G 34)), (4, .int x15), (5, .int x2), (6, .int y6), (7, .int x16)]) (kk : ∀ (y15 : Int32) (y16 : Int32) (NM17 : hyM), qL = (y15, y16, NM17) → ∀ (H : Heap) (locs : List Loc) (ls : Array Slot), va_P G.1 vwCl (wld G (Mc, NM17, Mo)) H → va_S (hyA G) s.heap H locs → lv_has ls 9 [(0, .ref (adr G 30)), (1, .ref (adr G 31)), (2, .ref (adr G 32)), (3, .ref (adr G 34)), (4, .int y15), (5, .int x2), (6, .int y6), (7, .int y16)] → W p l e { frames := 3, cells := 0, slots := 6 * 0, locals := 67 } s m ([.ref (adr G 30), .ref (adr G 31), .ref (adr G 32), .ref (adr G 34)] : List Value).toArray below meth c H locs 0 0 (vx_MQ below (hyQ G (.inr (some (.int res.1)), (Mc, res.2, Mo))) (hyXQ G (.inr (some (.int res.1)), (Mc, res.2, Mo))) ([.ref (adr G 30), .ref (adr G 31), .ref (adr G 32), .ref (adr G 34)] : List Value).toArray s 0 (6 * 0) (hyA G)) (F0 m 140 ls [])), W p l e { frames := 3, cells := 0, slots := 6 * 0, locals := 67 } s m ([.ref (adr G 30), .ref (adr G 31), .ref (adr G 32), .ref (adr G 34)] : List Value).toArray below meth c H locs 0 0 (vx_MQ below (hyQ G (.inr (some (.int res.1)), (Mc, res.2, Mo))) (hyXQ G (.inr (some (.int res.1)), (Mc, res.2, Mo))) ([.ref (adr G 30), .ref (adr G 31), .ref (adr G 32), .ref (adr G 34)] : List Value).toArray s 0 (6 * 0) (hyA G)) (F0 m 74 ls []) := by
            intro f
            induction f with
            | zero =>
              intro x15 x16 M17 qL h H locs ls hP hS hl kk
              rw [La_sung_L74] at h
              cases h
            | succ f ih =>
              intro x15 x16 M17 qL h H locs ls hP hS hl kk
              rw [La_sung_L74] at h
              refine lv_iload hx hb dL_sung_74 (lv_at hl 7 rfl) ?_
              refine lv_iconst (v := 2) hx hb dL_sung_76 rfl ?_
              refine lv_icmp_ge (tgt := 140) hx hb dL_sung_77 (by decide) (fun c18 => ?_) (fun c18 => ?_)
              · rw [if_pos c18] at h
                exact kk x15 x16 M17 (Option.some.inj h).symm _ _ ls hP hS (lv_sub hl [0, 1, 2, 3, 4, 5, 6, 7] rfl)
              · rw [if_neg c18] at h
                refine lv_aload_n hx hb dL_sung_80 rfl (lv_at hl 2 rfl) ?_
                refine lv_iconst (v := 3) hx hb dL_sung_81 rfl ?_
                refine lv_iload hx hb dL_sung_82 (lv_at hl 6 rfl) ?_
                refine lv_imul hx hb dL_sung_84 ?_
                obtain ⟨v19, hv19, h⟩ := hy_bind h
                obtain ⟨nv19, hv19⟩ := ldE_some hv19
                refine hy_iald (T := (Mc, M17, Mo)) hx hb hX hP 32 9 (M17.1 32) (hy34 G (by decide)) rfl nv19 dL_sung_85 ?_
                rw [hv19]
                refine lv_istore (lv' := [(8, .int v19), (0, .ref (adr G 30)), (1, .ref (adr G 31)), (2, .ref (adr G 32)), (3, .ref (adr G 34)), (4, .int x15), (5, .int x2), (6, .int y6), (7, .int x16)]) hx hb dL_sung_86 hl (by decide) rfl (fun ls hl => ?_)
                have L30 : ∀ (f : Nat) (x20 : Int32) (x21 : Int32) (M22 : hyM) (qL : (Int32 × Int32 × hyM)) (h : La_sung_L88 y6 x16 f x20 x21 M22 = some qL) (H : Heap) (locs : List Loc) (ls : Array Slot) (hP : va_P G.1 vwCl (wld G (Mc, M22, Mo)) H) (hS : va_S (hyA G) s.heap H locs) (hl : lv_has ls 9 [(0, .ref (adr G 30)), (1, .ref (adr G 31)), (2, .ref (adr G 32)), (3, .ref (adr G 34)), (4, .int x20), (5, .int x2), (6, .int y6), (7, .int x16), (8, .int x21)]) (kk : ∀ (y20 : Int32) (y21 : Int32) (NM22 : hyM), qL = (y20, y21, NM22) → ∀ (H : Heap) (locs : List Loc) (ls : Array Slot), va_P G.1 vwCl (wld G (Mc, NM22, Mo)) H → va_S (hyA G) s.heap H locs → lv_has ls 9 [(0, .ref (adr G 30)), (1, .ref (adr G 31)), (2, .ref (adr G 32)), (3, .ref (adr G 34)), (4, .int y20), (5, .int x2), (6, .int y6), (7, .int x16), (8, .int y21)] → W p l e { frames := 3, cells := 0, slots := 6 * 0, locals := 67 } s m ([.ref (adr G 30), .ref (adr G 31), .ref (adr G 32), .ref (adr G 34)] : List Value).toArray below meth c H locs 0 0 (vx_MQ below (hyQ G (.inr (some (.int res.1)), (Mc, res.2, Mo))) (hyXQ G (.inr (some (.int res.1)), (Mc, res.2, Mo))) ([.ref (adr G 30), .ref (adr G 31), .ref (adr G 32), .ref (adr G 34)] : List Value).toArray s 0 (6 * 0) (hyA G)) (F0 m 134 ls [])), W p l e { frames := 3, cells := 0, slots := 6 * 0, locals := 67 } s m ([.ref (adr G 30), .ref (adr G 31), .ref (adr G 32), .ref (adr G 34)] : List Value).toArray below meth c H locs 0 0 (vx_MQ below (hyQ G (.inr (some (.int res.1)), (Mc, res.2, Mo))) (hyXQ G (.inr (some (.int res.1)), (Mc, res.2, Mo))) ([.ref (adr G 30), .ref (adr G 31), .ref (adr G 32), .ref (adr G 34)] : List Value).toArray s 0 (6 * 0) (hyA G)) (F0 m 88 ls []) := by
                  intro f
                  induction f with
                  | zero =>
                    intro x20 x21 M22 qL h H locs ls hP hS hl kk
                    rw [La_sung_L88] at h
                    cases h
                  | succ f ih =>
                    intro x20 x21 M22 qL h H locs ls hP hS hl kk
                    rw [La_sung_L88] at h
                    refine lv_iload hx hb dL_sung_88 (lv_at hl 8 rfl) ?_
                    refine lv_aload_n hx hb dL_sung_90 rfl (lv_at hl 2 rfl) ?_
                    refine lv_iconst (v := 3) hx hb dL_sung_91 rfl ?_
                    refine lv_iload hx hb dL_sung_92 (lv_at hl 6 rfl) ?_
                    refine lv_imul hx hb dL_sung_94 ?_
                    refine lv_iconst (v := 1) hx hb dL_sung_95 rfl ?_
                    refine lv_iadd hx hb dL_sung_96 ?_
                    obtain ⟨v23, hv23, h⟩ := hy_bind h
                    obtain ⟨nv23, hv23⟩ := ldE_some hv23
                    refine hy_iald (T := (Mc, M22, Mo)) hx hb hX hP 32 9 (M22.1 32) (hy34 G (by decide)) rfl nv23 dL_sung_97 ?_
                    rw [hv23]
                    refine lv_iload hx hb dL_sung_98 (lv_at hl 7 rfl) ?_
                    refine lv_if_ne (tgt := 107) hx hb dL_sung_100 (by decide) (fun c24 => ?_) (fun c24 => ?_)
                    · rw [if_neg c24] at h
                      refine lv_aload_n hx hb dL_sung_107 rfl (lv_at hl 2 rfl) ?_
                      refine lv_iconst (v := 3) hx hb dL_sung_108 rfl ?_
                      refine lv_iload hx hb dL_sung_109 (lv_at hl 6 rfl) ?_
                      refine lv_imul hx hb dL_sung_111 ?_
                      refine lv_iconst (v := 2) hx hb dL_sung_112 rfl ?_
                      refine lv_iadd hx hb dL_sung_113 ?_
                      obtain ⟨v25, hv25, h⟩ := hy_bind h
                      obtain ⟨nv25, hv25⟩ := ldE_some hv25
                      refine hy_iald (T := (Mc, M22, Mo)) hx hb hX hP 32 9 (M22.1 32) (hy34 G (by decide)) rfl nv25 dL_sung_114 ?_
                      rw [hv25]
                      refine lv_isub hx hb dL_sung_115 ?_
                      refine lv_icmp_gt (tgt := 134) hx hb dL_sung_116 (by decide) (fun c26 => ?_) (fun c26 => ?_)
                      · rw [if_pos c26] at h
                        exact kk x20 x21 M22 (Option.some.inj h).symm _ _ ls hP hS (lv_sub hl [0, 1, 2, 3, 4, 5, 6, 7, 8] rfl)
                      · rw [if_neg c26] at h
                        refine lv_aload_n hx hb dL_sung_119 rfl (lv_at hl 3 rfl) ?_
                        refine lv_iload hx hb dL_sung_120 (lv_at hl 4 rfl) ?_
                        refine lv_iinc (v := (x20 + 1)) (lv' := [(4, .int (x20 + 1)), (0, .ref (adr G 30)), (1, .ref (adr G 31)), (2, .ref (adr G 32)), (3, .ref (adr G 34)), (5, .int x2), (6, .int y6), (7, .int x16), (8, .int x21)]) hx hb dL_sung_122 hl (k := 4) rfl rfl (by decide) rfl (fun ls hl => ?_)
                        refine lv_iload hx hb dL_sung_125 (lv_at hl 8 rfl) ?_
                        obtain ⟨M27, hM27, h⟩ := hy_bind h
                        obtain ⟨nM27, hM27⟩ := stE_some hM27
                        refine hy_iast (T := (Mc, M22, Mo)) (T2 := (Mc, (wI M22 34 x20.toNatClampNeg x21), Mo)) hx hb hX hP hS 34 30 (by omega) (fun _ _ => rfl) nM27 rfl dL_sung_127 (fun H locs hP hS => ?_)
                        rw [hM27] at hP
                        refine lv_iinc (v := (x21 + 1)) (lv' := [(8, .int (x21 + 1)), (4, .int (x20 + 1)), (0, .ref (adr G 30)), (1, .ref (adr G 31)), (2, .ref (adr G 32)), (3, .ref (adr G 34)), (5, .int x2), (6, .int y6), (7, .int x16)]) hx hb dL_sung_128 hl (k := 8) rfl rfl (by decide) rfl (fun ls hl => ?_)
                        refine lv_goto (tgt := 88) hx hb dL_sung_131 (by decide) ?_
                        exact ih (x20 + 1) (x21 + 1) M27 _ h  _ _ ls hP hS (lv_sub hl [2, 3, 4, 5, 1, 6, 7, 8, 0] rfl) kk
                    · rw [if_pos (c24)] at h
                      refine lv_iconst (v := 0) hx hb dL_sung_103 rfl ?_
                      refine lv_goto (tgt := 115) hx hb dL_sung_104 (by decide) ?_
                      refine lv_isub hx hb dL_sung_115 ?_
                      refine lv_icmp_gt (tgt := 134) hx hb dL_sung_116 (by decide) (fun c28 => ?_) (fun c28 => ?_)
                      · rw [if_pos c28] at h
                        exact kk x20 x21 M22 (Option.some.inj h).symm _ _ ls hP hS (lv_sub hl [0, 1, 2, 3, 4, 5, 6, 7, 8] rfl)
                      · rw [if_neg c28] at h
                        refine lv_aload_n hx hb dL_sung_119 rfl (lv_at hl 3 rfl) ?_
                        refine lv_iload hx hb dL_sung_120 (lv_at hl 4 rfl) ?_
                        refine lv_iinc (v := (x20 + 1)) (lv' := [(4, .int (x20 + 1)), (0, .ref (adr G 30)), (1, .ref (adr G 31)), (2, .ref (adr G 32)), (3, .ref (adr G 34)), (5, .int x2), (6, .int y6), (7, .int x16), (8, .int x21)]) hx hb dL_sung_122 hl (k := 4) rfl rfl (by decide) rfl (fun ls hl => ?_)
                        refine lv_iload hx hb dL_sung_125 (lv_at hl 8 rfl) ?_
                        obtain ⟨M29, hM29, h⟩ := hy_bind h
                        obtain ⟨nM29, hM29⟩ := stE_some hM29
                        refine hy_iast (T := (Mc, M22, Mo)) (T2 := (Mc, (wI M22 34 x20.toNatClampNeg x21), Mo)) hx hb hX hP hS 34 30 (by omega) (fun _ _ => rfl) nM29 rfl dL_sung_127 (fun H locs hP hS => ?_)
                        rw [hM29] at hP
                        refine lv_iinc (v := (x21 + 1)) (lv' := [(8, .int (x21 + 1)), (4, .int (x20 + 1)), (0, .ref (adr G 30)), (1, .ref (adr G 31)), (2, .ref (adr G 32)), (3, .ref (adr G 34)), (5, .int x2), (6, .int y6), (7, .int x16)]) hx hb dL_sung_128 hl (k := 8) rfl rfl (by decide) rfl (fun ls hl => ?_)
                        refine lv_goto (tgt := 88) hx hb dL_sung_131 (by decide) ?_
                        exact ih (x20 + 1) (x21 + 1) M29 _ h  _ _ ls hP hS (lv_sub hl [2, 3, 4, 5, 1, 6, 7, 8, 0] rfl) kk
                obtain ⟨q31, hq31, h⟩ := hy_bind h
                refine L30 hyFu x15 v19 M17 q31 hq31 _ _ ls hP hS (lv_sub hl [1, 2, 3, 4, 5, 6, 7, 8, 0] rfl) ?_
                intro y20 y21 NM22 e9 H locs ls hP hS hl
                subst e9
                try dsimp only at h
                refine lv_iinc (v := (x16 + 1)) (lv' := [(7, .int (x16 + 1)), (0, .ref (adr G 30)), (1, .ref (adr G 31)), (2, .ref (adr G 32)), (3, .ref (adr G 34)), (4, .int y20), (5, .int x2), (6, .int y6), (8, .int y21)]) hx hb dL_sung_134 hl (k := 7) rfl rfl (by decide) rfl (fun ls hl => ?_)
                refine lv_goto (tgt := 74) hx hb dL_sung_137 (by decide) ?_
                exact ih y20 (x16 + 1) NM22 _ h  _ _ ls hP hS (lv_sub hl [1, 2, 3, 4, 5, 6, 7, 0] rfl) kk
          obtain ⟨q34, hq34, h⟩ := hy_bind h
          refine L32 hyFu x1 0 M3 q34 hq34 _ _ ls hP hS (lv_sub hl [1, 2, 3, 4, 5, 6, 7, 0] rfl) ?_
          intro y15 y16 NM17 e9 H locs ls hP hS hl
          subst e9
          try dsimp only at h
          refine lv_aload_n hx hb dL_sung_140 rfl (lv_at hl 2 rfl) ?_
          refine lv_iconst (v := 3) hx hb dL_sung_141 rfl ?_
          refine lv_iload hx hb dL_sung_142 (lv_at hl 6 rfl) ?_
          refine lv_imul hx hb dL_sung_144 ?_
          refine lv_iconst (v := 1) hx hb dL_sung_145 rfl ?_
          refine lv_iadd hx hb dL_sung_146 ?_
          obtain ⟨v33, hv33, h⟩ := hy_bind h
          obtain ⟨nv33, hv33⟩ := ldE_some hv33
          refine hy_iald (T := (Mc, NM17, Mo)) hx hb hX hP 32 9 (NM17.1 32) (hy34 G (by decide)) rfl nv33 dL_sung_147 ?_
          rw [hv33]
          refine lv_iconst (v := 1) hx hb dL_sung_148 rfl ?_
          refine lv_iadd hx hb dL_sung_149 ?_
          refine lv_istore (lv' := [(5, .int (v33 + 1)), (0, .ref (adr G 30)), (1, .ref (adr G 31)), (2, .ref (adr G 32)), (3, .ref (adr G 34)), (4, .int y15), (6, .int y6), (7, .int y16)]) hx hb dL_sung_150 hl (by decide) rfl (fun ls hl => ?_)
          refine lv_goto (tgt := 6) hx hb dL_sung_152 (by decide) ?_
          exact ih y15 (v33 + 1) NM17 _ h  _ _ ls hP hS (lv_sub hl [1, 2, 3, 4, 5, 0] rfl) kk
        · rw [if_neg c14] at h
          refine lv_aload_n hx hb dL_sung_56 rfl (lv_at hl 3 rfl) ?_
          refine lv_iload hx hb dL_sung_57 (lv_at hl 4 rfl) ?_
          refine lv_iinc (v := (x1 + 1)) (lv' := [(4, .int (x1 + 1)), (0, .ref (adr G 30)), (1, .ref (adr G 31)), (2, .ref (adr G 32)), (3, .ref (adr G 34)), (5, .int x2), (6, .int y6), (7, .int y7)]) hx hb dL_sung_59 hl (k := 4) rfl rfl (by decide) rfl (fun ls hl => ?_)
          refine lv_iload hx hb dL_sung_62 (lv_at hl 5 rfl) ?_
          refine lv_iinc (v := (x2 + 1)) (lv' := [(5, .int (x2 + 1)), (4, .int (x1 + 1)), (0, .ref (adr G 30)), (1, .ref (adr G 31)), (2, .ref (adr G 32)), (3, .ref (adr G 34)), (6, .int y6), (7, .int y7)]) hx hb dL_sung_64 hl (k := 5) rfl rfl (by decide) rfl (fun ls hl => ?_)
          obtain ⟨M35, hM35, h⟩ := hy_bind h
          obtain ⟨nM35, hM35⟩ := stE_some hM35
          refine hy_iast (T := (Mc, M3, Mo)) (T2 := (Mc, (wI M3 34 x1.toNatClampNeg x2), Mo)) hx hb hX hP hS 34 30 (by omega) (fun _ _ => rfl) nM35 rfl dL_sung_67 (fun H locs hP hS => ?_)
          rw [hM35] at hP
          refine lv_goto (tgt := 6) hx hb dL_sung_68 (by decide) ?_
          exact ih (x1 + 1) (x2 + 1) M35 _ h  _ _ ls hP hS (lv_sub hl [2, 3, 4, 5, 1, 0] rfl) kk
  obtain ⟨q38, hq38, h⟩ := hy_bind h
  refine L37 hyFu 0 0 M q38 hq38 _ _ ls hP hS (lv_sub hl [2, 3, 4, 5, 1, 0] rfl) ?_
  intro y1 y2 NM3 e9 H locs ls hP hS hl
  subst e9
  try dsimp only at h
  refine lv_iload hx hb dL_sung_155 (lv_at hl 4 rfl) ?_
  exact hy_iret (T := (Mc, NM3, Mo)) hx hb hr hlocks hP hS (Nat.zero_le _) (Nat.zero_le _) (by rw [← (Option.some.inj h)] <;> rfl) dL_sung_157
set_option maxHeartbeats 1000000 in
set_option maxRecDepth 100000 in
theorem c_La_size {l : Launch} {G : hyG} (Mc Mo : hyM) (a1 : Int32) (M : hyM) {res : Int32} (h : La_size a1 M = some res) : hyC l yL_size (.code yL_size cL_size 2 (some .int)) 0 0 (0) G [.int a1] (Mc, M, Mo) (.inr (some (.int res)), (Mc, M, Mo)) := by
  refine hy_of (by decide +kernel) (Nat.le_of_ble_eq_true rfl) ?_
  intro p e s m below meth c hx hb hml hown hts hr hlocks ht hX hP hS ls hl
  have hl : lv_has ls 2 [(0, .int a1)] := hl
  rw [La_size] at h
  refine lv_iconst (v := 0) hx hb dL_size_0 rfl ?_
  refine lv_istore_n (lv' := [(1, .int 0), (0, .int a1)]) hx hb dL_size_1 rfl hl (by decide) rfl (fun ls hl => ?_)
  have L6 : ∀ (f : Nat) (x1 : Int32) (qL : (Int32)) (h : La_size_L2 a1 f x1 = some qL) (H : Heap) (locs : List Loc) (ls : Array Slot) (hP : va_P G.1 vwCl (wld G (Mc, M, Mo)) H) (hS : va_S (hyA G) s.heap H locs) (hl : lv_has ls 2 [(0, .int a1), (1, .int x1)]) (kk : ∀ (y1 : Int32), qL = (y1) → ∀ (H : Heap) (locs : List Loc) (ls : Array Slot), va_P G.1 vwCl (wld G (Mc, M, Mo)) H → va_S (hyA G) s.heap H locs → lv_has ls 2 [(0, .int a1), (1, .int y1)] → W p l e { frames := 0, cells := 0, slots := 6 * 0, locals := 0 } s m ([.int a1] : List Value).toArray below meth c H locs 0 0 (vx_MQ below (hyQ G (.inr (some (.int res)), (Mc, M, Mo))) (hyXQ G (.inr (some (.int res)), (Mc, M, Mo))) ([.int a1] : List Value).toArray s 0 (6 * 0) (hyA G)) (F0 m 25 ls [])), W p l e { frames := 0, cells := 0, slots := 6 * 0, locals := 0 } s m ([.int a1] : List Value).toArray below meth c H locs 0 0 (vx_MQ below (hyQ G (.inr (some (.int res)), (Mc, M, Mo))) (hyXQ G (.inr (some (.int res)), (Mc, M, Mo))) ([.int a1] : List Value).toArray s 0 (6 * 0) (hyA G)) (F0 m 2 ls []) := by
    intro f
    induction f with
    | zero =>
      intro x1 qL h H locs ls hP hS hl kk
      rw [La_size_L2] at h
      cases h
    | succ f ih =>
      intro x1 qL h H locs ls hP hS hl kk
      rw [La_size_L2] at h
      refine lv_iload_n hx hb dL_size_2 rfl (lv_at hl 1 rfl) ?_
      refine lv_bipush (v := 6) hx hb dL_size_3 rfl ?_
      have K4 : ∀ (H : Heap) (locs : List Loc), (if 6 ≤ x1 then false else (!decide (((a1 >>> ((4 * x1) &&& 31)) &&& 15) ≤ 0))) = true → va_P G.1 vwCl (wld G (Mc, M, Mo)) H → va_S (hyA G) s.heap H locs → W p l e { frames := 0, cells := 0, slots := 6 * 0, locals := 0 } s m ([.int a1] : List Value).toArray below meth c H locs 0 0 (vx_MQ below (hyQ G (.inr (some (.int res)), (Mc, M, Mo))) (hyXQ G (.inr (some (.int res)), (Mc, M, Mo))) ([.int a1] : List Value).toArray s 0 (6 * 0) (hyA G)) (F0 m 19 ls []) := by
        intro H locs cb hP hS
        rw [if_pos cb] at h
        refine lv_iinc (v := (x1 + 1)) (lv' := [(1, .int (x1 + 1)), (0, .int a1)]) hx hb dL_size_19 hl (k := 1) rfl rfl (by decide) rfl (fun ls hl => ?_)
        refine lv_goto (tgt := 2) hx hb dL_size_22 (by decide) ?_
        exact ih (x1 + 1) _ h  _ _ ls hP hS (lv_sub hl [1, 0] rfl) kk
      have K5 : ∀ (H : Heap) (locs : List Loc), ¬ (if 6 ≤ x1 then false else (!decide (((a1 >>> ((4 * x1) &&& 31)) &&& 15) ≤ 0))) = true → va_P G.1 vwCl (wld G (Mc, M, Mo)) H → va_S (hyA G) s.heap H locs → W p l e { frames := 0, cells := 0, slots := 6 * 0, locals := 0 } s m ([.int a1] : List Value).toArray below meth c H locs 0 0 (vx_MQ below (hyQ G (.inr (some (.int res)), (Mc, M, Mo))) (hyXQ G (.inr (some (.int res)), (Mc, M, Mo))) ([.int a1] : List Value).toArray s 0 (6 * 0) (hyA G)) (F0 m 25 ls []) := by
        intro H locs cb hP hS
        rw [if_neg cb] at h
        exact kk x1 (Option.some.inj h).symm _ _ ls hP hS (lv_sub hl [0, 1] rfl)
      refine lv_icmp_ge (tgt := 25) hx hb dL_size_5 (by decide) (fun c2 => ?_) (fun c2 => ?_)
      · exact K5 _ _ (by rw [if_pos c2] <;> first | rfl | decide) hP hS
      · refine lv_iload_n hx hb dL_size_8 rfl (lv_at hl 0 rfl) ?_
        refine lv_iconst (v := 4) hx hb dL_size_9 rfl ?_
        refine lv_iload_n hx hb dL_size_10 rfl (lv_at hl 1 rfl) ?_
        refine lv_imul hx hb dL_size_11 ?_
        refine lv_ishr hx hb dL_size_12 ?_
        refine lv_bipush (v := 15) hx hb dL_size_13 rfl ?_
        refine lv_iand hx hb dL_size_15 ?_
        refine lv_if_le (tgt := 25) hx hb dL_size_16 (by decide) (fun c3 => ?_) (fun c3 => ?_)
        · exact K5 _ _ (by rw [if_neg c2, decide_eq_true c3] <;> first | rfl | decide) hP hS
        · exact K4 _ _ (by rw [if_neg c2, decide_eq_false c3] <;> first | rfl | decide) hP hS
  obtain ⟨q7, hq7, h⟩ := hy_bind h
  refine L6 hyFu 0 q7 hq7 _ _ ls hP hS (lv_sub hl [1, 0] rfl) ?_
  intro y1 e9 H locs ls hP hS hl
  subst e9
  try dsimp only at h
  refine lv_iload_n hx hb dL_size_25 rfl (lv_at hl 1 rfl) ?_
  exact hy_iret (T := (Mc, M, Mo)) hx hb hr hlocks hP hS (Nat.zero_le _) (Nat.zero_le _) (by rw [← (Option.some.inj h)] <;> rfl) dL_size_26
set_option maxHeartbeats 1000000 in
set_option maxRecDepth 100000 in
theorem c_La_below {l : Launch} {G : hyG} (Mc Mo : hyM) (a1 : Int32) (a2 : Int32) (a3 : Int32) (M : hyM) {res : Int32} (h : La_below a1 a2 a3 M = some res) : hyC l yL_below (.code yL_below cL_below 7 (some .int)) 3 69 (0) G [.int a1, .int a2, .int a3, .ref (adr G 30), .ref (adr G 31), .ref (adr G 33)] (Mc, M, Mo) (.inr (some (.int res)), (Mc, M, Mo)) := by
  refine hy_of (by decide +kernel) (Nat.le_of_ble_eq_true rfl) ?_
  intro p e s m below meth c hx hb hml hown hts hr hlocks ht hX hP hS ls hl
  have hl : lv_has ls 7 [(0, .int a1), (1, .int a2), (2, .int a3), (3, .ref (adr G 30)), (4, .ref (adr G 31)), (5, .ref (adr G 33))] := hl
  rw [La_below] at h
  refine lv_iload_n hx hb dL_below_0 rfl (lv_at hl 2 rfl) ?_
  refine lv_aload_n hx hb dL_below_1 rfl (lv_at hl 3 rfl) ?_
  refine lv_aload hx hb dL_below_2 (lv_at hl 4 rfl) ?_
  obtain ⟨v1, hv1, h⟩ := hy_bind h
  refine hy_ret (hy_rS0 (T := (Mc, M, Mo)) (v := some (.int (bI v1))) (T2 := (Mc, M, Mo)) (As := [.int a3, .ref (adr G 30), .ref (adr G 31)]) (rest := []) (n := 0) hx hb hml hown hts hX hP hS hl (c_La_slurred Mc Mo a3 M hv1) m_La_slurred q_711 rfl rfl (Nat.le_of_ble_eq_true rfl) dL_below_4 ⟨Nat.le_of_ble_eq_true rfl, Nat.le_of_ble_eq_true rfl⟩ ⟨Nat.zero_le _, Nat.zero_le _⟩) hS (fun H locs hP hS => ?_)
  have K12 : ∀ (H : Heap) (locs : List Loc), (if v1 then true else (if 7 < a2 then true else (!decide (a1 ≤ 1)))) = true → va_P G.1 vwCl (wld G (Mc, M, Mo)) H → va_S (hyA G) s.heap H locs → W p l e { frames := 3, cells := 0, slots := 6 * 0, locals := 69 } s m ([.int a1, .int a2, .int a3, .ref (adr G 30), .ref (adr G 31), .ref (adr G 33)] : List Value).toArray below meth c H locs 0 0 (vx_MQ below (hyQ G (.inr (some (.int res)), (Mc, M, Mo))) (hyXQ G (.inr (some (.int res)), (Mc, M, Mo))) ([.int a1, .int a2, .int a3, .ref (adr G 30), .ref (adr G 31), .ref (adr G 33)] : List Value).toArray s 0 (6 * 0) (hyA G)) (F0 m 21 ls []) := by
    intro H locs cb hP hS
    rw [if_pos cb] at h
    refine lv_iconst (v := 0) hx hb dL_below_21 rfl ?_
    exact hy_iret (T := (Mc, M, Mo)) hx hb hr hlocks hP hS (Nat.zero_le _) (Nat.zero_le _) (by rw [← (Option.some.inj h)] <;> rfl) dL_below_22
  have K13 : ∀ (H : Heap) (locs : List Loc), ¬ (if v1 then true else (if 7 < a2 then true else (!decide (a1 ≤ 1)))) = true → va_P G.1 vwCl (wld G (Mc, M, Mo)) H → va_S (hyA G) s.heap H locs → W p l e { frames := 3, cells := 0, slots := 6 * 0, locals := 69 } s m ([.int a1, .int a2, .int a3, .ref (adr G 30), .ref (adr G 31), .ref (adr G 33)] : List Value).toArray below meth c H locs 0 0 (vx_MQ below (hyQ G (.inr (some (.int res)), (Mc, M, Mo))) (hyXQ G (.inr (some (.int res)), (Mc, M, Mo))) ([.int a1, .int a2, .int a3, .ref (adr G 30), .ref (adr G 31), .ref (adr G 33)] : List Value).toArray s 0 (6 * 0) (hyA G)) (F0 m 23 ls []) := by
    intro H locs cb hP hS
    rw [if_neg cb] at h
    refine lv_iload_n hx hb dL_below_23 rfl (lv_at hl 2 rfl) ?_
    refine lv_aload_n hx hb dL_below_24 rfl (lv_at hl 3 rfl) ?_
    refine lv_aload hx hb dL_below_25 (lv_at hl 4 rfl) ?_
    obtain ⟨v5, hv5, h⟩ := hy_bind h
    refine hy_ret (hy_rS0 (T := (Mc, M, Mo)) (v := some (.int v5)) (T2 := (Mc, M, Mo)) (As := [.int a3, .ref (adr G 30), .ref (adr G 31)]) (rest := []) (n := 0) hx hb hml hown hts hX hP hS hl (c_La_phraseOf Mc Mo a3 M hv5) m_La_phraseOf q_653 rfl rfl (Nat.le_of_ble_eq_true rfl) dL_below_27 ⟨Nat.le_of_ble_eq_true rfl, Nat.le_of_ble_eq_true rfl⟩ ⟨Nat.zero_le _, Nat.zero_le _⟩) hS (fun H locs hP hS => ?_)
    refine lv_aload_n hx hb dL_below_30 rfl (lv_at hl 3 rfl) ?_
    refine lv_aload hx hb dL_below_31 (lv_at hl 4 rfl) ?_
    obtain ⟨v6, hv6, h⟩ := hy_bind h
    refine hy_ret (hy_rS0 (T := (Mc, M, Mo)) (v := some (.int v6)) (T2 := (Mc, M, Mo)) (As := [.int v5, .ref (adr G 30), .ref (adr G 31)]) (rest := []) (n := 0) hx hb hml hown hts hX hP hS hl (c_La_first Mc Mo v5 M hv6) m_La_first q_714 rfl rfl (Nat.le_of_ble_eq_true rfl) dL_below_33 ⟨Nat.le_of_ble_eq_true rfl, Nat.le_of_ble_eq_true rfl⟩ ⟨Nat.zero_le _, Nat.zero_le _⟩) hS (fun H locs hP hS => ?_)
    refine lv_iload_n hx hb dL_below_36 rfl (lv_at hl 2 rfl) ?_
    refine lv_aload_n hx hb dL_below_37 rfl (lv_at hl 3 rfl) ?_
    refine lv_aload hx hb dL_below_38 (lv_at hl 4 rfl) ?_
    obtain ⟨v7, hv7, h⟩ := hy_bind h
    refine hy_ret (hy_rS0 (T := (Mc, M, Mo)) (v := some (.int v7)) (T2 := (Mc, M, Mo)) (As := [.int v6, .int a3, .ref (adr G 30), .ref (adr G 31)]) (rest := []) (n := 0) hx hb hml hown hts hX hP hS hl (c_La_syllables Mc Mo v6 a3 M hv7) m_La_syllables q_723 rfl rfl (Nat.le_of_ble_eq_true rfl) dL_below_40 ⟨Nat.le_of_ble_eq_true rfl, Nat.le_of_ble_eq_true rfl⟩ ⟨Nat.zero_le _, Nat.zero_le _⟩) hS (fun H locs hP hS => ?_)
    refine lv_iconst (v := 1) hx hb dL_below_43 rfl ?_
    refine lv_isub hx hb dL_below_44 ?_
    refine lv_istore (lv' := [(6, .int (v7 - 1)), (0, .int a1), (1, .int a2), (2, .int a3), (3, .ref (adr G 30)), (4, .ref (adr G 31)), (5, .ref (adr G 33))]) hx hb dL_below_45 hl (by decide) rfl (fun ls hl => ?_)
    refine lv_iload hx hb dL_below_47 (lv_at hl 0 rfl) ?_
    refine lv_aload hx hb dL_below_49 (lv_at hl 6 rfl) ?_
    refine lv_bipush (v := 8) hx hb dL_below_51 rfl ?_
    refine lv_iload_n hx hb dL_below_53 rfl (lv_at hl 1 rfl) ?_
    refine lv_imul hx hb dL_below_54 ?_
    refine lv_iload_n hx hb dL_below_55 rfl (lv_at hl 2 rfl) ?_
    refine lv_iadd hx hb dL_below_56 ?_
    obtain ⟨v8, hv8, h⟩ := hy_bind h
    obtain ⟨nv8, hv8⟩ := ldE_some hv8
    refine hy_iald (T := (Mc, M, Mo)) hx hb hX hP 33 16 (M.1 33) (hy34 G (by decide)) rfl nv8 dL_below_57 ?_
    rw [hv8]
    obtain ⟨v9, hv9, h⟩ := hy_bind h
    refine hy_ret (hy_rS0 (T := (Mc, M, Mo)) (v := some (.int v9)) (T2 := (Mc, M, Mo)) (As := [.int v8]) (rest := [.int (v7 - 1)]) (n := 0) hx hb hml hown hts hX hP hS hl (c_La_size Mc Mo v8 M hv9) m_La_size q_726 rfl rfl (Nat.le_of_ble_eq_true rfl) dL_below_58 ⟨Nat.le_of_ble_eq_true rfl, Nat.le_of_ble_eq_true rfl⟩ ⟨Nat.zero_le _, Nat.zero_le _⟩) hS (fun H locs hP hS => ?_)
    refine lv_icmp_ge (tgt := 84) hx hb dL_below_61 (by decide) (fun c10 => ?_) (fun c10 => ?_)
    · rw [if_pos c10] at h
      refine lv_iconst (v := 0) hx hb dL_below_84 rfl ?_
      exact hy_iret (T := (Mc, M, Mo)) hx hb hr hlocks hP hS (Nat.zero_le _) (Nat.zero_le _) (by rw [← (Option.some.inj h)] <;> rfl) dL_below_85
    · rw [if_neg c10] at h
      refine lv_aload hx hb dL_below_64 (lv_at hl 6 rfl) ?_
      refine lv_bipush (v := 8) hx hb dL_below_66 rfl ?_
      refine lv_iload_n hx hb dL_below_68 rfl (lv_at hl 1 rfl) ?_
      refine lv_imul hx hb dL_below_69 ?_
      refine lv_iload_n hx hb dL_below_70 rfl (lv_at hl 2 rfl) ?_
      refine lv_iadd hx hb dL_below_71 ?_
      obtain ⟨v11, hv11, h⟩ := hy_bind h
      obtain ⟨nv11, hv11⟩ := ldE_some hv11
      refine hy_iald (T := (Mc, M, Mo)) hx hb hX hP 33 16 (M.1 33) (hy34 G (by decide)) rfl nv11 dL_below_72 ?_
      rw [hv11]
      refine lv_iconst (v := 4) hx hb dL_below_73 rfl ?_
      refine lv_iload hx hb dL_below_74 (lv_at hl 0 rfl) ?_
      refine lv_imul hx hb dL_below_76 ?_
      refine lv_ishr hx hb dL_below_77 ?_
      refine lv_bipush (v := 15) hx hb dL_below_78 rfl ?_
      refine lv_iand hx hb dL_below_80 ?_
      refine lv_goto (tgt := 85) hx hb dL_below_81 (by decide) ?_
      exact hy_iret (T := (Mc, M, Mo)) hx hb hr hlocks hP hS (Nat.zero_le _) (Nat.zero_le _) (by rw [← (Option.some.inj h)] <;> rfl) dL_below_85
  refine lv_if_ne (tgt := 21) hx hb dL_below_7 (by decide) (fun c2 => ?_) (fun c2 => ?_)
  · exact K12 _ _ (by rw [if_pos (bI_1 c2)] <;> first | rfl | decide) hP hS
  · refine lv_iload_n hx hb dL_below_10 rfl (lv_at hl 1 rfl) ?_
    refine lv_bipush (v := 7) hx hb dL_below_11 rfl ?_
    refine lv_icmp_gt (tgt := 21) hx hb dL_below_13 (by decide) (fun c3 => ?_) (fun c3 => ?_)
    · exact K12 _ _ (by rw [if_neg (bI_0 c2), if_pos c3] <;> first | rfl | decide) hP hS
    · refine lv_iload_n hx hb dL_below_16 rfl (lv_at hl 0 rfl) ?_
      refine lv_iconst (v := 1) hx hb dL_below_17 rfl ?_
      refine lv_icmp_le (tgt := 23) hx hb dL_below_18 (by decide) (fun c4 => ?_) (fun c4 => ?_)
      · exact K13 _ _ (by rw [if_neg (bI_0 c2), if_neg c3, decide_eq_true c4] <;> first | rfl | decide) hP hS
      · exact K12 _ _ (by rw [if_neg (bI_0 c2), if_neg c3, decide_eq_false c4] <;> first | rfl | decide) hP hS
set_option maxHeartbeats 1000000 in
set_option maxRecDepth 100000 in
theorem c_La_column {l : Launch} {G : hyG} (hex : 1 ≤ exn G) (Mc Mo : hyM) (a1 : Int32) (a2 : Int32) (M : hyM) {res : Int32} (h : La_column a1 a2 M = some res) : hyC l yL_column (.code yL_column cL_column 10 (some .int)) 4 95 (0) G [.int a1, .int a2, .ref (adr G 34), .ref (adr G 30), .ref (adr G 31), .ref (adr G 33)] (Mc, M, Mo) (.inr (some (.int res)), (Mc, M, Mo)) := by
  refine hy_of (by decide +kernel) (Nat.le_of_ble_eq_true rfl) ?_
  intro p e s m below meth c hx hb hml hown hts hr hlocks ht hX hP hS ls hl
  have hl : lv_has ls 10 [(0, .int a1), (1, .int a2), (2, .ref (adr G 34)), (3, .ref (adr G 30)), (4, .ref (adr G 31)), (5, .ref (adr G 33))] := hl
  rw [La_column] at h
  refine lv_iconst (v := 3) hx hb dL_column_0 rfl ?_
  refine lv_istore (lv' := [(6, .int 3), (0, .int a1), (1, .int a2), (2, .ref (adr G 34)), (3, .ref (adr G 30)), (4, .ref (adr G 31)), (5, .ref (adr G 33))]) hx hb dL_column_1 hl (by decide) rfl (fun ls hl => ?_)
  refine lv_iconst (v := 0) hx hb dL_column_3 rfl ?_
  refine lv_istore (lv' := [(7, .int 0), (6, .int 3), (0, .int a1), (1, .int a2), (2, .ref (adr G 34)), (3, .ref (adr G 30)), (4, .ref (adr G 31)), (5, .ref (adr G 33))]) hx hb dL_column_4 hl (by decide) rfl (fun ls hl => ?_)
  have L17 : ∀ (f : Nat) (x1 : Int32) (x2 : Int32) (qL : (Int32 × Int32)) (h : La_column_L6 a1 a2 M f x1 x2 = some qL) (H : Heap) (locs : List Loc) (ls : Array Slot) (hP : va_P G.1 vwCl (wld G (Mc, M, Mo)) H) (hS : va_S (hyA G) s.heap H locs) (hl : lv_has ls 10 [(0, .int a1), (1, .int a2), (2, .ref (adr G 34)), (3, .ref (adr G 30)), (4, .ref (adr G 31)), (5, .ref (adr G 33)), (6, .int x1), (7, .int x2)]) (kk : ∀ (y1 : Int32) (y2 : Int32), qL = (y1, y2) → ∀ (H : Heap) (locs : List Loc) (ls : Array Slot), va_P G.1 vwCl (wld G (Mc, M, Mo)) H → va_S (hyA G) s.heap H locs → lv_has ls 10 [(0, .int a1), (1, .int a2), (2, .ref (adr G 34)), (3, .ref (adr G 30)), (4, .ref (adr G 31)), (5, .ref (adr G 33)), (6, .int y1), (7, .int y2)] → W p l e { frames := 4, cells := 0, slots := 6 * 0, locals := 95 } s m ([.int a1, .int a2, .ref (adr G 34), .ref (adr G 30), .ref (adr G 31), .ref (adr G 33)] : List Value).toArray below meth c H locs 0 0 (vx_MQ below (hyQ G (.inr (some (.int res)), (Mc, M, Mo))) (hyXQ G (.inr (some (.int res)), (Mc, M, Mo))) ([.int a1, .int a2, .ref (adr G 34), .ref (adr G 30), .ref (adr G 31), .ref (adr G 33)] : List Value).toArray s 0 (6 * 0) (hyA G)) (F0 m 86 ls [])), W p l e { frames := 4, cells := 0, slots := 6 * 0, locals := 95 } s m ([.int a1, .int a2, .ref (adr G 34), .ref (adr G 30), .ref (adr G 31), .ref (adr G 33)] : List Value).toArray below meth c H locs 0 0 (vx_MQ below (hyQ G (.inr (some (.int res)), (Mc, M, Mo))) (hyXQ G (.inr (some (.int res)), (Mc, M, Mo))) ([.int a1, .int a2, .ref (adr G 34), .ref (adr G 30), .ref (adr G 31), .ref (adr G 33)] : List Value).toArray s 0 (6 * 0) (hyA G)) (F0 m 6 ls []) := by
    intro f
    induction f with
    | zero =>
      intro x1 x2 qL h H locs ls hP hS hl kk
      rw [La_column_L6] at h
      cases h
    | succ f ih =>
      intro x1 x2 qL h H locs ls hP hS hl kk
      rw [La_column_L6] at h
      refine lv_iload hx hb dL_column_6 (lv_at hl 7 rfl) ?_
      refine lv_iload_n hx hb dL_column_8 rfl (lv_at hl 1 rfl) ?_
      refine lv_icmp_ge (tgt := 86) hx hb dL_column_9 (by decide) (fun c3 => ?_) (fun c3 => ?_)
      · rw [if_pos c3] at h
        exact kk x1 x2 (Option.some.inj h).symm _ _ ls hP hS (lv_sub hl [0, 1, 2, 3, 4, 5, 6, 7] rfl)
      · rw [if_neg c3] at h
        refine lv_iconst (v := 0) hx hb dL_column_12 rfl ?_
        refine lv_istore (lv' := [(8, .int 0), (0, .int a1), (1, .int a2), (2, .ref (adr G 34)), (3, .ref (adr G 30)), (4, .ref (adr G 31)), (5, .ref (adr G 33)), (6, .int x1), (7, .int x2)]) hx hb dL_column_13 hl (by decide) rfl (fun ls hl => ?_)
        have L15 : ∀ (f : Nat) (x4 : Int32) (x5 : Int32) (qL : (Int32 × Int32)) (h : La_column_L15 a1 M x2 f x4 x5 = some qL) (H : Heap) (locs : List Loc) (ls : Array Slot) (hP : va_P G.1 vwCl (wld G (Mc, M, Mo)) H) (hS : va_S (hyA G) s.heap H locs) (hl : lv_has ls 10 [(0, .int a1), (1, .int a2), (2, .ref (adr G 34)), (3, .ref (adr G 30)), (4, .ref (adr G 31)), (5, .ref (adr G 33)), (6, .int x4), (7, .int x2), (8, .int x5)]) (kk : ∀ (y4 : Int32) (y5 : Int32), qL = (y4, y5) → ∀ (H : Heap) (locs : List Loc) (ls : Array Slot), va_P G.1 vwCl (wld G (Mc, M, Mo)) H → va_S (hyA G) s.heap H locs → lv_has ls 10 [(0, .int a1), (1, .int a2), (2, .ref (adr G 34)), (3, .ref (adr G 30)), (4, .ref (adr G 31)), (5, .ref (adr G 33)), (6, .int y4), (7, .int x2), (8, .int y5)] → W p l e { frames := 4, cells := 0, slots := 6 * 0, locals := 95 } s m ([.int a1, .int a2, .ref (adr G 34), .ref (adr G 30), .ref (adr G 31), .ref (adr G 33)] : List Value).toArray below meth c H locs 0 0 (vx_MQ below (hyQ G (.inr (some (.int res)), (Mc, M, Mo))) (hyXQ G (.inr (some (.int res)), (Mc, M, Mo))) ([.int a1, .int a2, .ref (adr G 34), .ref (adr G 30), .ref (adr G 31), .ref (adr G 33)] : List Value).toArray s 0 (6 * 0) (hyA G)) (F0 m 80 ls [])), W p l e { frames := 4, cells := 0, slots := 6 * 0, locals := 95 } s m ([.int a1, .int a2, .ref (adr G 34), .ref (adr G 30), .ref (adr G 31), .ref (adr G 33)] : List Value).toArray below meth c H locs 0 0 (vx_MQ below (hyQ G (.inr (some (.int res)), (Mc, M, Mo))) (hyXQ G (.inr (some (.int res)), (Mc, M, Mo))) ([.int a1, .int a2, .ref (adr G 34), .ref (adr G 30), .ref (adr G 31), .ref (adr G 33)] : List Value).toArray s 0 (6 * 0) (hyA G)) (F0 m 15 ls []) := by
          intro f
          induction f with
          | zero =>
            intro x4 x5 qL h H locs ls hP hS hl kk
            rw [La_column_L15] at h
            cases h
          | succ f ih =>
            intro x4 x5 qL h H locs ls hP hS hl kk
            rw [La_column_L15] at h
            refine lv_iload hx hb dL_column_15 (lv_at hl 8 rfl) ?_
            refine lv_iconst (v := 2) hx hb dL_column_17 rfl ?_
            refine lv_icmp_ge (tgt := 80) hx hb dL_column_18 (by decide) (fun c6 => ?_) (fun c6 => ?_)
            · rw [if_pos c6] at h
              exact kk x4 x5 (Option.some.inj h).symm _ _ ls hP hS (lv_sub hl [0, 1, 2, 3, 4, 5, 6, 7, 8] rfl)
            · rw [if_neg c6] at h
              refine lv_aload_n hx hb dL_column_21 rfl (lv_at hl 2 rfl) ?_
              refine lv_iload hx hb dL_column_22 (lv_at hl 7 rfl) ?_
              obtain ⟨v7, hv7, h⟩ := hy_bind h
              obtain ⟨nv7, hv7⟩ := ldE_some hv7
              refine hy_iald (T := (Mc, M, Mo)) hx hb hX hP 34 30 (M.1 34) (by omega) rfl nv7 dL_column_24 ?_
              rw [hv7]
              refine lv_iload_n hx hb dL_column_25 rfl (lv_at hl 0 rfl) ?_
              refine lv_aload_n hx hb dL_column_26 rfl (lv_at hl 3 rfl) ?_
              refine lv_aload hx hb dL_column_27 (lv_at hl 4 rfl) ?_
              obtain ⟨v8, hv8, h⟩ := hy_bind h
              refine hy_ret (hy_rS0 (T := (Mc, M, Mo)) (v := some (.int v8)) (T2 := (Mc, M, Mo)) (As := [.int a1, .ref (adr G 30), .ref (adr G 31)]) (rest := [.int v7]) (n := 0) hx hb hml hown hts hX hP hS hl (c_La_phraseOf Mc Mo a1 M hv8) m_La_phraseOf q_653 rfl rfl (Nat.le_of_ble_eq_true rfl) dL_column_29 ⟨Nat.le_of_ble_eq_true rfl, Nat.le_of_ble_eq_true rfl⟩ ⟨Nat.zero_le _, Nat.zero_le _⟩) hS (fun H locs hP hS => ?_)
              refine lv_icmp_ne (tgt := 51) hx hb dL_column_32 (by decide) (fun c9 => ?_) (fun c9 => ?_)
              · rw [if_neg c9] at h
                refine lv_iconst (v := 0) hx hb dL_column_51 rfl ?_
                refine lv_istore (lv' := [(9, .int 0), (0, .int a1), (1, .int a2), (2, .ref (adr G 34)), (3, .ref (adr G 30)), (4, .ref (adr G 31)), (5, .ref (adr G 33)), (6, .int x4), (7, .int x2), (8, .int x5)]) hx hb dL_column_52 hl (by decide) rfl (fun ls hl => ?_)
                refine lv_iload hx hb dL_column_54 (lv_at hl 0 rfl) ?_
                refine lv_iconst (v := 1) hx hb dL_column_56 rfl ?_
                refine lv_iadd hx hb dL_column_57 ?_
                refine lv_iload hx hb dL_column_58 (lv_at hl 7 rfl) ?_
                have J11 : ∀ (H : Heap) (locs : List Loc) (ls : Array Slot) (u1 : Int32), u1 = ((if (0 + 1) ≤ x4 then x4 else (0 + 1)) : Int32) → va_P G.1 vwCl (wld G (Mc, M, Mo)) H → va_S (hyA G) s.heap H locs → lv_has ls 10 [(0, .int a1), (1, .int a2), (2, .ref (adr G 34)), (3, .ref (adr G 30)), (4, .ref (adr G 31)), (5, .ref (adr G 33)), (6, .int x4), (7, .int x2), (8, .int x5), (9, .int 0)] → W p l e { frames := 4, cells := 0, slots := 6 * 0, locals := 95 } s m ([.int a1, .int a2, .ref (adr G 34), .ref (adr G 30), .ref (adr G 31), .ref (adr G 33)] : List Value).toArray below meth c H locs 0 0 (vx_MQ below (hyQ G (.inr (some (.int res)), (Mc, M, Mo))) (hyXQ G (.inr (some (.int res)), (Mc, M, Mo))) ([.int a1, .int a2, .ref (adr G 34), .ref (adr G 30), .ref (adr G 31), .ref (adr G 33)] : List Value).toArray s 0 (6 * 0) (hyA G)) (F0 m 72 ls [.int u1]) := by
                  intro H locs ls u1 eu1 hP hS hl
                  subst eu1
                  refine lv_istore (lv' := [(6, .int ((if (0 + 1) ≤ x4 then x4 else (0 + 1)) : Int32)), (0, .int a1), (1, .int a2), (2, .ref (adr G 34)), (3, .ref (adr G 30)), (4, .ref (adr G 31)), (5, .ref (adr G 33)), (7, .int x2), (8, .int x5), (9, .int 0)]) hx hb dL_column_72 hl (by decide) rfl (fun ls hl => ?_)
                  refine lv_iinc (v := (x5 + 1)) (lv' := [(8, .int (x5 + 1)), (6, .int ((if (0 + 1) ≤ x4 then x4 else (0 + 1)) : Int32)), (0, .int a1), (1, .int a2), (2, .ref (adr G 34)), (3, .ref (adr G 30)), (4, .ref (adr G 31)), (5, .ref (adr G 33)), (7, .int x2), (9, .int 0)]) hx hb dL_column_74 hl (k := 8) rfl rfl (by decide) rfl (fun ls hl => ?_)
                  refine lv_goto (tgt := 15) hx hb dL_column_77 (by decide) ?_
                  exact ih ((if (0 + 1) ≤ x4 then x4 else (0 + 1)) : Int32) (x5 + 1) _ h  _ _ ls hP hS (lv_sub hl [2, 3, 4, 5, 6, 7, 1, 8, 0] rfl) kk
                refine lv_icmp_le (tgt := 70) hx hb dL_column_60 (by decide) (fun c10 => ?_) (fun c10 => ?_)
                · refine lv_iload hx hb dL_column_70 (lv_at hl 7 rfl) ?_
                  exact J11 _ _ ls x4 (by rw [if_pos c10] <;> rfl) hP hS (lv_sub hl [1, 2, 3, 4, 5, 6, 7, 8, 9, 0] rfl)
                · refine lv_iload hx hb dL_column_63 (lv_at hl 0 rfl) ?_
                  refine lv_iconst (v := 1) hx hb dL_column_65 rfl ?_
                  refine lv_iadd hx hb dL_column_66 ?_
                  refine lv_goto (tgt := 72) hx hb dL_column_67 (by decide) ?_
                  exact J11 _ _ ls (0 + 1) (by rw [if_neg c10] <;> rfl) hP hS (lv_sub hl [1, 2, 3, 4, 5, 6, 7, 8, 9, 0] rfl)
              · rw [if_pos (c9)] at h
                refine lv_iload hx hb dL_column_35 (lv_at hl 8 rfl) ?_
                refine lv_iload hx hb dL_column_37 (lv_at hl 7 rfl) ?_
                refine lv_iload_n hx hb dL_column_39 rfl (lv_at hl 0 rfl) ?_
                refine lv_aload_n hx hb dL_column_40 rfl (lv_at hl 3 rfl) ?_
                refine lv_aload hx hb dL_column_41 (lv_at hl 4 rfl) ?_
                refine lv_aload hx hb dL_column_43 (lv_at hl 5 rfl) ?_
                obtain ⟨v12, hv12, h⟩ := hy_bind h
                refine hy_ret (hy_rS0 (T := (Mc, M, Mo)) (v := some (.int v12)) (T2 := (Mc, M, Mo)) (As := [.int x5, .int x2, .int a1, .ref (adr G 30), .ref (adr G 31), .ref (adr G 33)]) (rest := []) (n := 0) hx hb hml hown hts hX hP hS hl (c_La_below Mc Mo x5 x2 a1 M hv12) m_La_below q_720 rfl rfl (Nat.le_of_ble_eq_true rfl) dL_column_45 ⟨Nat.le_of_ble_eq_true rfl, Nat.le_of_ble_eq_true rfl⟩ ⟨Nat.zero_le _, Nat.zero_le _⟩) hS (fun H locs hP hS => ?_)
                refine lv_goto (tgt := 52) hx hb dL_column_48 (by decide) ?_
                refine lv_istore (lv' := [(9, .int v12), (0, .int a1), (1, .int a2), (2, .ref (adr G 34)), (3, .ref (adr G 30)), (4, .ref (adr G 31)), (5, .ref (adr G 33)), (6, .int x4), (7, .int x2), (8, .int x5)]) hx hb dL_column_52 hl (by decide) rfl (fun ls hl => ?_)
                refine lv_iload hx hb dL_column_54 (lv_at hl 0 rfl) ?_
                refine lv_iconst (v := 1) hx hb dL_column_56 rfl ?_
                refine lv_iadd hx hb dL_column_57 ?_
                refine lv_iload hx hb dL_column_58 (lv_at hl 7 rfl) ?_
                have J14 : ∀ (H : Heap) (locs : List Loc) (ls : Array Slot) (u1 : Int32), u1 = ((if (v12 + 1) ≤ x4 then x4 else (v12 + 1)) : Int32) → va_P G.1 vwCl (wld G (Mc, M, Mo)) H → va_S (hyA G) s.heap H locs → lv_has ls 10 [(0, .int a1), (1, .int a2), (2, .ref (adr G 34)), (3, .ref (adr G 30)), (4, .ref (adr G 31)), (5, .ref (adr G 33)), (6, .int x4), (7, .int x2), (8, .int x5), (9, .int v12)] → W p l e { frames := 4, cells := 0, slots := 6 * 0, locals := 95 } s m ([.int a1, .int a2, .ref (adr G 34), .ref (adr G 30), .ref (adr G 31), .ref (adr G 33)] : List Value).toArray below meth c H locs 0 0 (vx_MQ below (hyQ G (.inr (some (.int res)), (Mc, M, Mo))) (hyXQ G (.inr (some (.int res)), (Mc, M, Mo))) ([.int a1, .int a2, .ref (adr G 34), .ref (adr G 30), .ref (adr G 31), .ref (adr G 33)] : List Value).toArray s 0 (6 * 0) (hyA G)) (F0 m 72 ls [.int u1]) := by
                  intro H locs ls u1 eu1 hP hS hl
                  subst eu1
                  refine lv_istore (lv' := [(6, .int ((if (v12 + 1) ≤ x4 then x4 else (v12 + 1)) : Int32)), (0, .int a1), (1, .int a2), (2, .ref (adr G 34)), (3, .ref (adr G 30)), (4, .ref (adr G 31)), (5, .ref (adr G 33)), (7, .int x2), (8, .int x5), (9, .int v12)]) hx hb dL_column_72 hl (by decide) rfl (fun ls hl => ?_)
                  refine lv_iinc (v := (x5 + 1)) (lv' := [(8, .int (x5 + 1)), (6, .int ((if (v12 + 1) ≤ x4 then x4 else (v12 + 1)) : Int32)), (0, .int a1), (1, .int a2), (2, .ref (adr G 34)), (3, .ref (adr G 30)), (4, .ref (adr G 31)), (5, .ref (adr G 33)), (7, .int x2), (9, .int v12)]) hx hb dL_column_74 hl (k := 8) rfl rfl (by decide) rfl (fun ls hl => ?_)
                  refine lv_goto (tgt := 15) hx hb dL_column_77 (by decide) ?_
                  exact ih ((if (v12 + 1) ≤ x4 then x4 else (v12 + 1)) : Int32) (x5 + 1) _ h  _ _ ls hP hS (lv_sub hl [2, 3, 4, 5, 6, 7, 1, 8, 0] rfl) kk
                refine lv_icmp_le (tgt := 70) hx hb dL_column_60 (by decide) (fun c13 => ?_) (fun c13 => ?_)
                · refine lv_iload hx hb dL_column_70 (lv_at hl 7 rfl) ?_
                  exact J14 _ _ ls x4 (by rw [if_pos c13] <;> rfl) hP hS (lv_sub hl [1, 2, 3, 4, 5, 6, 7, 8, 9, 0] rfl)
                · refine lv_iload hx hb dL_column_63 (lv_at hl 0 rfl) ?_
                  refine lv_iconst (v := 1) hx hb dL_column_65 rfl ?_
                  refine lv_iadd hx hb dL_column_66 ?_
                  refine lv_goto (tgt := 72) hx hb dL_column_67 (by decide) ?_
                  exact J14 _ _ ls (v12 + 1) (by rw [if_neg c13] <;> rfl) hP hS (lv_sub hl [1, 2, 3, 4, 5, 6, 7, 8, 9, 0] rfl)
        obtain ⟨q16, hq16, h⟩ := hy_bind h
        refine L15 hyFu x1 0 q16 hq16 _ _ ls hP hS (lv_sub hl [1, 2, 3, 4, 5, 6, 7, 8, 0] rfl) ?_
        intro y4 y5 e9 H locs ls hP hS hl
        subst e9
        try dsimp only at h
        refine lv_iinc (v := (x2 + 1)) (lv' := [(7, .int (x2 + 1)), (0, .int a1), (1, .int a2), (2, .ref (adr G 34)), (3, .ref (adr G 30)), (4, .ref (adr G 31)), (5, .ref (adr G 33)), (6, .int y4), (8, .int y5)]) hx hb dL_column_80 hl (k := 7) rfl rfl (by decide) rfl (fun ls hl => ?_)
        refine lv_goto (tgt := 6) hx hb dL_column_83 (by decide) ?_
        exact ih y4 (x2 + 1) _ h  _ _ ls hP hS (lv_sub hl [1, 2, 3, 4, 5, 6, 7, 0] rfl) kk
  obtain ⟨q18, hq18, h⟩ := hy_bind h
  refine L17 hyFu 3 0 q18 hq18 _ _ ls hP hS (lv_sub hl [2, 3, 4, 5, 6, 7, 1, 0] rfl) ?_
  intro y1 y2 e9 H locs ls hP hS hl
  subst e9
  try dsimp only at h
  refine lv_iload hx hb dL_column_86 (lv_at hl 6 rfl) ?_
  exact hy_iret (T := (Mc, M, Mo)) hx hb hr hlocks hP hS (Nat.zero_le _) (Nat.zero_le _) (by rw [← (Option.some.inj h)] <;> rfl) dL_column_88
set_option maxHeartbeats 1000000 in
set_option maxRecDepth 100000 in
theorem c_La_semitones {l : Launch} {G : hyG} (Mc Mo : hyM) (a1 : Int32) (M : hyM) {res : Int32} (h : La_semitones a1 M = res) : hyC l yL_semitones (.code yL_semitones cL_semitones 1 (some .int)) 0 0 (0) G [.int a1] (Mc, M, Mo) (.inr (some (.int res)), (Mc, M, Mo)) := by
  refine hy_of (by decide +kernel) (Nat.le_of_ble_eq_true rfl) ?_
  intro p e s m below meth c hx hb hml hown hts hr hlocks ht hX hP hS ls hl
  have hl : lv_has ls 1 [(0, .int a1)] := hl
  rw [La_semitones] at h
  refine lv_iload_n hx hb dL_semitones_0 rfl (lv_at hl 0 rfl) ?_
  refine lv_iconst (v := 3) hx hb dL_semitones_1 rfl ?_
  have J2 : ∀ (H : Heap) (locs : List Loc) (ls : Array Slot) (u1 : Int32), u1 = ((if 3 ≤ a1 then ((2 * a1) - 1) else (2 * a1)) : Int32) → va_P G.1 vwCl (wld G (Mc, M, Mo)) H → va_S (hyA G) s.heap H locs → lv_has ls 1 [(0, .int a1)] → W p l e { frames := 0, cells := 0, slots := 6 * 0, locals := 0 } s m ([.int a1] : List Value).toArray below meth c H locs 0 0 (vx_MQ below (hyQ G (.inr (some (.int res)), (Mc, M, Mo))) (hyXQ G (.inr (some (.int res)), (Mc, M, Mo))) ([.int a1] : List Value).toArray s 0 (6 * 0) (hyA G)) (F0 m 16 ls [.int u1]) := by
    intro H locs ls u1 eu1 hP hS hl
    subst eu1
    exact hy_iret (T := (Mc, M, Mo)) hx hb hr hlocks hP hS (Nat.zero_le _) (Nat.zero_le _) (by rw [← h] <;> rfl) dL_semitones_16
  refine lv_icmp_ge (tgt := 11) hx hb dL_semitones_2 (by decide) (fun c1 => ?_) (fun c1 => ?_)
  · refine lv_iconst (v := 2) hx hb dL_semitones_11 rfl ?_
    refine lv_iload_n hx hb dL_semitones_12 rfl (lv_at hl 0 rfl) ?_
    refine lv_imul hx hb dL_semitones_13 ?_
    refine lv_iconst (v := 1) hx hb dL_semitones_14 rfl ?_
    refine lv_isub hx hb dL_semitones_15 ?_
    exact J2 _ _ ls ((2 * a1) - 1) (by rw [if_pos c1] <;> rfl) hP hS (lv_sub hl [0] rfl)
  · refine lv_iconst (v := 2) hx hb dL_semitones_5 rfl ?_
    refine lv_iload_n hx hb dL_semitones_6 rfl (lv_at hl 0 rfl) ?_
    refine lv_imul hx hb dL_semitones_7 ?_
    refine lv_goto (tgt := 16) hx hb dL_semitones_8 (by decide) ?_
    exact J2 _ _ ls (2 * a1) (by rw [if_neg c1] <;> rfl) hP hS (lv_sub hl [0] rfl)
set_option maxHeartbeats 1000000 in
set_option maxRecDepth 100000 in
theorem c_La_degree {l : Launch} {G : hyG} (Mc Mo : hyM) (a1 : Int32) (M : hyM) {res : Int32} (h : La_degree a1 M = some res) : hyC l yL_degree (.code yL_degree cL_degree 3 (some .int)) 1 20 (0) G [.int a1, .ref (adr G 30)] (Mc, M, Mo) (.inr (some (.int res)), (Mc, M, Mo)) := by
  refine hy_of (by decide +kernel) (Nat.le_of_ble_eq_true rfl) ?_
  intro p e s m below meth c hx hb hml hown hts hr hlocks ht hX hP hS ls hl
  have hl : lv_has ls 3 [(0, .int a1), (1, .ref (adr G 30))] := hl
  rw [La_degree] at h
  refine lv_iconst (v := 0) hx hb dL_degree_0 rfl ?_
  refine lv_istore_n (lv' := [(2, .int 0), (0, .int a1), (1, .ref (adr G 30))]) hx hb dL_degree_1 rfl hl (by decide) rfl (fun ls hl => ?_)
  have L5 : ∀ (f : Nat) (x1 : Int32) (qL : (Int32 ⊕ (Int32))) (h : La_degree_L2 a1 M f x1 = some qL) (hq : ∀ r9, qL = .inl r9 → res = r9) (H : Heap) (locs : List Loc) (ls : Array Slot) (hP : va_P G.1 vwCl (wld G (Mc, M, Mo)) H) (hS : va_S (hyA G) s.heap H locs) (hl : lv_has ls 3 [(0, .int a1), (1, .ref (adr G 30)), (2, .int x1)]) (kk : ∀ (y1 : Int32), qL = .inr (y1) → ∀ (H : Heap) (locs : List Loc) (ls : Array Slot), va_P G.1 vwCl (wld G (Mc, M, Mo)) H → va_S (hyA G) s.heap H locs → lv_has ls 3 [(0, .int a1), (1, .ref (adr G 30)), (2, .int y1)] → W p l e { frames := 1, cells := 0, slots := 6 * 0, locals := 20 } s m ([.int a1, .ref (adr G 30)] : List Value).toArray below meth c H locs 0 0 (vx_MQ below (hyQ G (.inr (some (.int res)), (Mc, M, Mo))) (hyXQ G (.inr (some (.int res)), (Mc, M, Mo))) ([.int a1, .ref (adr G 30)] : List Value).toArray s 0 (6 * 0) (hyA G)) (F0 m 35 ls [])), W p l e { frames := 1, cells := 0, slots := 6 * 0, locals := 20 } s m ([.int a1, .ref (adr G 30)] : List Value).toArray below meth c H locs 0 0 (vx_MQ below (hyQ G (.inr (some (.int res)), (Mc, M, Mo))) (hyXQ G (.inr (some (.int res)), (Mc, M, Mo))) ([.int a1, .ref (adr G 30)] : List Value).toArray s 0 (6 * 0) (hyA G)) (F0 m 2 ls []) := by
    intro f
    induction f with
    | zero =>
      intro x1 qL h hq H locs ls hP hS hl kk
      rw [La_degree_L2] at h
      cases h
    | succ f ih =>
      intro x1 qL h hq H locs ls hP hS hl kk
      rw [La_degree_L2] at h
      refine lv_iload_n hx hb dL_degree_2 rfl (lv_at hl 2 rfl) ?_
      refine lv_bipush (v := 7) hx hb dL_degree_3 rfl ?_
      refine lv_icmp_ge (tgt := 35) hx hb dL_degree_5 (by decide) (fun c2 => ?_) (fun c2 => ?_)
      · rw [if_pos c2] at h
        exact kk x1 (Option.some.inj h).symm _ _ ls hP hS (lv_sub hl [0, 1, 2] rfl)
      · rw [if_neg c2] at h
        refine lv_iload_n hx hb dL_degree_8 rfl (lv_at hl 0 rfl) ?_
        refine lv_bipush (v := 120) hx hb dL_degree_9 rfl ?_
        refine lv_iadd hx hb dL_degree_11 ?_
        refine lv_aload_n hx hb dL_degree_12 rfl (lv_at hl 1 rfl) ?_
        refine lv_iconst (v := 0) hx hb dL_degree_13 rfl ?_
        obtain ⟨v3, hv3, h⟩ := hy_bind h
        obtain ⟨nv3, hv3⟩ := ldE_some hv3
        refine hy_iald (T := (Mc, M, Mo)) hx hb hX hP 30 6 (M.1 30) (hy34 G (by decide)) rfl nv3 dL_degree_14 ?_
        rw [hv3]
        refine lv_isub hx hb dL_degree_15 ?_
        refine lv_iload_n hx hb dL_degree_16 rfl (lv_at hl 2 rfl) ?_
        refine hy_ret (hy_rS0 (T := (Mc, M, Mo)) (v := some (.int (La_semitones x1 M))) (T2 := (Mc, M, Mo)) (As := [.int x1]) (rest := [.int ((a1 + 120) - v3)]) (n := 0) hx hb hml hown hts hX hP hS hl (c_La_semitones Mc Mo x1 M rfl) m_La_semitones q_735 rfl rfl (Nat.le_of_ble_eq_true rfl) dL_degree_17 ⟨Nat.le_of_ble_eq_true rfl, Nat.le_of_ble_eq_true rfl⟩ ⟨Nat.zero_le _, Nat.zero_le _⟩) hS (fun H locs hP hS => ?_)
        refine lv_isub hx hb dL_degree_20 ?_
        refine lv_bipush (v := 12) hx hb dL_degree_21 rfl ?_
        refine lv_irem hx hb dL_degree_23 (by decide) ?_
        refine lv_if_ne (tgt := 29) hx hb dL_degree_24 (by decide) (fun c4 => ?_) (fun c4 => ?_)
        · rw [if_neg c4] at h
          refine lv_iinc (v := (x1 + 1)) (lv' := [(2, .int (x1 + 1)), (0, .int a1), (1, .ref (adr G 30))]) hx hb dL_degree_29 hl (k := 2) rfl rfl (by decide) rfl (fun ls hl => ?_)
          refine lv_goto (tgt := 2) hx hb dL_degree_32 (by decide) ?_
          exact ih (x1 + 1) _ h hq _ _ ls hP hS (lv_sub hl [1, 2, 0] rfl) kk
        · rw [if_pos (c4)] at h
          refine lv_iload_n hx hb dL_degree_27 rfl (lv_at hl 2 rfl) ?_
          exact hy_iret (T := (Mc, M, Mo)) hx hb hr hlocks hP hS (Nat.zero_le _) (Nat.zero_le _) (by rw [← (hq _ (Option.some.inj h).symm).symm] <;> rfl) dL_degree_28
  obtain ⟨q6, hq6, h⟩ := hy_bind h
  refine L5 hyFu 0 q6 hq6 (fun r9 e9 => by subst e9; exact (Option.some.inj h).symm) _ _ ls hP hS (lv_sub hl [1, 2, 0] rfl) ?_
  intro y1 e9 H locs ls hP hS hl
  subst e9
  try dsimp only at h
  refine lv_iconst (v := (-1)) hx hb dL_degree_35 rfl ?_
  exact hy_iret (T := (Mc, M, Mo)) hx hb hr hlocks hP hS (Nat.zero_le _) (Nat.zero_le _) (by rw [← (Option.some.inj h)] <;> rfl) dL_degree_36
