set_option maxHeartbeats 1000000 in
set_option maxRecDepth 100000 in
theorem c_Rf_clearRepeats {l : Launch} {G : hyG} (Mc Mo : hyM) (M : hyM) {res : (Int32 × hyM)} (h : Rf_clearRepeats M = res) : hyC l yX11_clearRepeats (.code yX11_clearRepeats cX11_clearRepeats 2 (some .int)) 0 0 (0) G [.ref (adr G 30)] (Mc, M, Mo) (.inr (some (.int res.1)), (Mc, res.2, Mo)) := by
  refine hy_of (by decide +kernel) (Nat.le_of_ble_eq_true rfl) ?_
  intro p e s m below meth c hx hb hml hown hts hr hlocks ht hX hP hS ls hl
  have hl : lv_has ls 2 [(0, .ref (adr G 30))] := hl
  rw [Rf_clearRepeats] at h
  refine lv_aload_n hx hb dX11_clearRepeats_0 rfl (lv_at hl 0 rfl) ?_
  refine lv_iconst (v := 0) hx hb dX11_clearRepeats_1 rfl ?_
  refine hy_putI (ty := .int) (T := (Mc, M, Mo)) (T2 := (Mc, (wI M 30 0 0), Mo)) (o := 30) (k := 0) hx hb hown hts hX hP hS (by decide) rfl rfl rfl rfl inX11g tyX11_ok nmX11 (by decide) q_1192 rfl rfl rfl rfl (Nat.le_of_ble_eq_true rfl) dX11_clearRepeats_2 (fun H locs hP hS => ?_)
  refine lv_aload_n hx hb dX11_clearRepeats_5 rfl (lv_at hl 0 rfl) ?_
  refine hy_get (T := (Mc, (wI M 30 0 0), Mo)) (o := 30) (k := 7) (v := .int ((wI M 30 0 0).1 30 7)) hx hb hown hts hX hP (by decide) rfl rfl inX11g (by decide) q_1199 rfl dX11_clearRepeats_6 ?_
  refine lv_istore_n (lv' := [(1, .int ((wI M 30 0 0).1 30 7)), (0, .ref (adr G 30))]) hx hb dX11_clearRepeats_9 rfl hl (by decide) rfl (fun ls hl => ?_)
  refine lv_aload_n hx hb dX11_clearRepeats_10 rfl (lv_at hl 1 rfl) ?_
  refine lv_iconst (v := 0) hx hb dX11_clearRepeats_11 rfl ?_
  refine hy_putI (ty := .int) (T := (Mc, (wI M 30 0 0), Mo)) (T2 := (Mc, (wI (wI M 30 0 0) 30 7 0), Mo)) (o := 30) (k := 7) hx hb hown hts hX hP hS (by decide) rfl rfl rfl rfl inX11g tyX11_ok nmX11 (by decide) q_1199 rfl rfl rfl rfl (Nat.le_of_ble_eq_true rfl) dX11_clearRepeats_12 (fun H locs hP hS => ?_)
  refine lv_iload_n hx hb dX11_clearRepeats_15 rfl (lv_at hl 0 rfl) ?_
  exact hy_iret (T := (Mc, (wI (wI M 30 0 0) 30 7 0), Mo)) hx hb hr hlocks hP hS (Nat.zero_le _) (Nat.zero_le _) (by rw [← h] <;> rfl) dX11_clearRepeats_16
set_option maxHeartbeats 1000000 in
set_option maxRecDepth 100000 in
theorem c_Rf_canTranspose {l : Launch} {G : hyG} (Mc Mo : hyM) (a1 : Int32) (M : hyM) {res : Bool} (h : Rf_canTranspose a1 M = some res) : hyC l yX11_canTranspose (.code yX11_canTranspose cX11_canTranspose 4 (some .boolean)) 2 42 (0) G [.ref (adr G 30), .int a1] (Mc, M, Mo) (.inr (some (.int (bI res))), (Mc, M, Mo)) := by
  refine hy_of (by decide +kernel) (Nat.le_of_ble_eq_true rfl) ?_
  intro p e s m below meth c hx hb hml hown hts hr hlocks ht hX hP hS ls hl
  have hl : lv_has ls 4 [(0, .ref (adr G 30)), (1, .int a1)] := hl
  rw [Rf_canTranspose] at h
  refine lv_iconst (v := 1) hx hb dX11_canTranspose_0 rfl ?_
  refine lv_istore_n (lv' := [(2, .int 1), (0, .ref (adr G 30)), (1, .int a1)]) hx hb dX11_canTranspose_1 rfl hl (by decide) rfl (fun ls hl => ?_)
  refine lv_iconst (v := 0) hx hb dX11_canTranspose_2 rfl ?_
  refine lv_istore_n (lv' := [(3, .int 0), (2, .int 1), (0, .ref (adr G 30)), (1, .int a1)]) hx hb dX11_canTranspose_3 rfl hl (by decide) rfl (fun ls hl => ?_)
  have L8 : ∀ (f : Nat) (x1 : Bool) (x2 : Int32) (qL : (Bool × Int32)) (h : Rf_canTranspose_L4 a1 M f x1 x2 = some qL) (H : Heap) (locs : List Loc) (ls : Array Slot) (hP : va_P G.1 vwCl (wld G (Mc, M, Mo)) H) (hS : va_S (hyA G) s.heap H locs) (hl : lv_has ls 4 [(0, .ref (adr G 30)), (1, .int a1), (2, .int (bI x1)), (3, .int x2)]) (kk : ∀ (y1 : Bool) (y2 : Int32), qL = (y1, y2) → ∀ (H : Heap) (locs : List Loc) (ls : Array Slot), va_P G.1 vwCl (wld G (Mc, M, Mo)) H → va_S (hyA G) s.heap H locs → lv_has ls 4 [(0, .ref (adr G 30)), (1, .int a1), (2, .int (bI y1)), (3, .int y2)] → W p l e { frames := 2, cells := 0, slots := 6 * 0, locals := 42 } s m ([.ref (adr G 30), .int a1] : List Value).toArray below meth c H locs 0 0 (vx_MQ below (hyQ G (.inr (some (.int (bI res))), (Mc, M, Mo))) (hyXQ G (.inr (some (.int (bI res))), (Mc, M, Mo))) ([.ref (adr G 30), .int a1] : List Value).toArray s 0 (6 * 0) (hyA G)) (F0 m 44 ls [])), W p l e { frames := 2, cells := 0, slots := 6 * 0, locals := 42 } s m ([.ref (adr G 30), .int a1] : List Value).toArray below meth c H locs 0 0 (vx_MQ below (hyQ G (.inr (some (.int (bI res))), (Mc, M, Mo))) (hyXQ G (.inr (some (.int (bI res))), (Mc, M, Mo))) ([.ref (adr G 30), .int a1] : List Value).toArray s 0 (6 * 0) (hyA G)) (F0 m 4 ls []) := by
    intro f
    induction f with
    | zero =>
      intro x1 x2 qL h H locs ls hP hS hl kk
      rw [Rf_canTranspose_L4] at h
      cases h
    | succ f ih =>
      intro x1 x2 qL h H locs ls hP hS hl kk
      rw [Rf_canTranspose_L4] at h
      refine lv_iload_n hx hb dX11_canTranspose_4 rfl (lv_at hl 3 rfl) ?_
      refine lv_iconst (v := 4) hx hb dX11_canTranspose_5 rfl ?_
      refine lv_aload_n hx hb dX11_canTranspose_6 rfl (lv_at hl 0 rfl) ?_
      refine hy_get (T := (Mc, M, Mo)) (o := 30) (k := 2) (v := .int (M.1 30 2)) hx hb hown hts hX hP (by decide) rfl rfl inX11g (by decide) q_1194 rfl dX11_canTranspose_7 ?_
      refine lv_imul hx hb dX11_canTranspose_10 ?_
      refine lv_icmp_ge (tgt := 44) hx hb dX11_canTranspose_11 (by decide) (fun c3 => ?_) (fun c3 => ?_)
      · rw [if_pos c3] at h
        exact kk x1 x2 (Option.some.inj h).symm _ _ ls hP hS (lv_sub hl [0, 1, 2, 3] rfl)
      · rw [if_neg c3] at h
        refine lv_iload_n hx hb dX11_canTranspose_14 rfl (lv_at hl 2 rfl) ?_
        refine lv_if_eq (tgt := 36) hx hb dX11_canTranspose_15 (by decide) (fun c4 => ?_) (fun c4 => ?_)
        · rw [if_neg (bI_0 c4)] at h
          refine lv_iconst (v := 0) hx hb dX11_canTranspose_36 rfl ?_
          refine lv_istore_n (lv' := [(2, .int 0), (0, .ref (adr G 30)), (1, .int a1), (3, .int x2)]) hx hb dX11_canTranspose_37 rfl hl (by decide) rfl (fun ls hl => ?_)
          refine lv_iinc (v := (x2 + 1)) (lv' := [(3, .int (x2 + 1)), (2, .int 0), (0, .ref (adr G 30)), (1, .int a1)]) hx hb dX11_canTranspose_38 hl (k := 3) rfl rfl (by decide) rfl (fun ls hl => ?_)
          refine lv_goto (tgt := 4) hx hb dX11_canTranspose_41 (by decide) ?_
          exact ih false (x2 + 1) _ h  _ _ ls hP hS (lv_sub hl [2, 3, 1, 0] rfl) kk
        · rw [if_pos (bI_1 c4)] at h
          refine lv_aload_n hx hb dX11_canTranspose_18 rfl (lv_at hl 0 rfl) ?_
          refine hy_get (T := (Mc, M, Mo)) (o := 30) (k := 4) (v := .ref (adr G 32)) hx hb hown hts hX hP (by decide) rfl rfl inX11g (by decide) q_1196 rfl dX11_canTranspose_19 ?_
          refine lv_iload_n hx hb dX11_canTranspose_22 rfl (lv_at hl 3 rfl) ?_
          obtain ⟨v5, hv5, h⟩ := hy_bind h
          obtain ⟨nv5, hv5⟩ := ldE_some hv5
          refine hy_iald (T := (Mc, M, Mo)) hx hb hX hP 32 160 (M.1 32) (by decide) rfl nv5 dX11_canTranspose_23 ?_
          rw [hv5]
          refine lv_iload_n hx hb dX11_canTranspose_24 rfl (lv_at hl 1 rfl) ?_
          refine lv_iadd hx hb dX11_canTranspose_25 ?_
          refine hy_ret (hy_rS0 (T := (Mc, M, Mo)) (v := some (.int (bI (Rf_isPitch (v5 + a1) M)))) (T2 := (Mc, M, Mo)) (As := [.int (v5 + a1)]) (rest := []) (n := 0) hx hb hml hown hts hX hP hS hl (c_Rf_isPitch Mc Mo (v5 + a1) M rfl) m_Rf_isPitch q_1317 rfl rfl (Nat.le_of_ble_eq_true rfl) dX11_canTranspose_26 ⟨Nat.le_of_ble_eq_true rfl, Nat.le_of_ble_eq_true rfl⟩ ⟨Nat.zero_le _, Nat.zero_le _⟩) hS (fun H locs hP hS => ?_)
          have J7 : ∀ (H : Heap) (locs : List Loc) (ls : Array Slot) (u1 : Int32), u1 = (bI (Rf_isPitch (v5 + a1) M)) → va_P G.1 vwCl (wld G (Mc, M, Mo)) H → va_S (hyA G) s.heap H locs → lv_has ls 4 [(0, .ref (adr G 30)), (1, .int a1), (2, .int (bI x1)), (3, .int x2)] → W p l e { frames := 2, cells := 0, slots := 6 * 0, locals := 42 } s m ([.ref (adr G 30), .int a1] : List Value).toArray below meth c H locs 0 0 (vx_MQ below (hyQ G (.inr (some (.int (bI res))), (Mc, M, Mo))) (hyXQ G (.inr (some (.int (bI res))), (Mc, M, Mo))) ([.ref (adr G 30), .int a1] : List Value).toArray s 0 (6 * 0) (hyA G)) (F0 m 37 ls [.int u1]) := by
            intro H locs ls u1 eu1 hP hS hl
            subst eu1
            refine lv_istore_n (lv' := [(2, .int (bI (Rf_isPitch (v5 + a1) M))), (0, .ref (adr G 30)), (1, .int a1), (3, .int x2)]) hx hb dX11_canTranspose_37 rfl hl (by decide) rfl (fun ls hl => ?_)
            refine lv_iinc (v := (x2 + 1)) (lv' := [(3, .int (x2 + 1)), (2, .int (bI (Rf_isPitch (v5 + a1) M))), (0, .ref (adr G 30)), (1, .int a1)]) hx hb dX11_canTranspose_38 hl (k := 3) rfl rfl (by decide) rfl (fun ls hl => ?_)
            refine lv_goto (tgt := 4) hx hb dX11_canTranspose_41 (by decide) ?_
            exact ih (Rf_isPitch (v5 + a1) M) (x2 + 1) _ h  _ _ ls hP hS (lv_sub hl [2, 3, 1, 0] rfl) kk
          refine lv_if_eq (tgt := 36) hx hb dX11_canTranspose_29 (by decide) (fun c6 => ?_) (fun c6 => ?_)
          · refine lv_iconst (v := 0) hx hb dX11_canTranspose_36 rfl ?_
            exact J7 _ _ ls 0 (by rw [(bI_z c6)] <;> rfl) hP hS (lv_sub hl [0, 1, 2, 3] rfl)
          · refine lv_iconst (v := 1) hx hb dX11_canTranspose_32 rfl ?_
            refine lv_goto (tgt := 37) hx hb dX11_canTranspose_33 (by decide) ?_
            exact J7 _ _ ls 1 (by rw [(bI_1 c6)] <;> rfl) hP hS (lv_sub hl [0, 1, 2, 3] rfl)
  obtain ⟨q9, hq9, h⟩ := hy_bind h
  refine L8 hyFu true 0 q9 hq9 _ _ ls hP hS (lv_sub hl [2, 3, 1, 0] rfl) ?_
  intro y1 y2 e9 H locs ls hP hS hl
  subst e9
  try dsimp only at h
  refine lv_iload_n hx hb dX11_canTranspose_44 rfl (lv_at hl 2 rfl) ?_
  exact hy_zret (T := (Mc, M, Mo)) hx hb hr hlocks hP hS (Nat.zero_le _) (Nat.zero_le _) (bI_nar y1) (by rw [← (Option.some.inj h)] <;> rfl) dX11_canTranspose_45
set_option maxHeartbeats 1000000 in
set_option maxRecDepth 100000 in
theorem c_Rf_transpose {l : Launch} {G : hyG} (Mc Mo : hyM) (a1 : Int32) (M : hyM) {res : (Int32 × hyM)} (h : Rf_transpose a1 M = some res) : hyC l yX11_transpose (.code yX11_transpose cX11_transpose 3 (some .int)) 3 65 (0) G [.ref (adr G 30), .int a1] (Mc, M, Mo) (.inr (some (.int res.1)), (Mc, res.2, Mo)) := by
  refine hy_of (by decide +kernel) (Nat.le_of_ble_eq_true rfl) ?_
  intro p e s m below meth c hx hb hml hown hts hr hlocks ht hX hP hS ls hl
  have hl : lv_has ls 3 [(0, .ref (adr G 30)), (1, .int a1)] := hl
  rw [Rf_transpose] at h
  refine lv_aload_n hx hb dX11_transpose_0 rfl (lv_at hl 0 rfl) ?_
  refine lv_iload_n hx hb dX11_transpose_1 rfl (lv_at hl 1 rfl) ?_
  refine lv_bipush (v := (-24)) hx hb dX11_transpose_2 rfl ?_
  refine lv_bipush (v := 24) hx hb dX11_transpose_4 rfl ?_
  refine hy_ret (hy_rS0 (T := (Mc, M, Mo)) (v := some (.int (bI (Rf_within a1 (-24) 24 M)))) (T2 := (Mc, M, Mo)) (As := [.int a1, .int (-24), .int 24]) (rest := [.ref (adr G 30)]) (n := 0) hx hb hml hown hts hX hP hS hl (c_Rf_within Mc Mo a1 (-24) 24 M rfl) m_Rf_within q_1310 rfl rfl (Nat.le_of_ble_eq_true rfl) dX11_transpose_6 ⟨Nat.le_of_ble_eq_true rfl, Nat.le_of_ble_eq_true rfl⟩ ⟨Nat.zero_le _, Nat.zero_le _⟩) hS (fun H locs hP hS => ?_)
  refine lv_if_ne (tgt := 16) hx hb dX11_transpose_9 (by decide) (fun c1 => ?_) (fun c1 => ?_)
  · rw [if_pos (bI_1 c1)] at h
    refine lv_aload_n hx hb dX11_transpose_16 rfl (lv_at hl 0 rfl) ?_
    refine lv_iload_n hx hb dX11_transpose_17 rfl (lv_at hl 1 rfl) ?_
    obtain ⟨v2, hv2, h⟩ := hy_bind h
    refine hy_ret (hy_rV0 (T := (Mc, M, Mo)) (v := some (.int (bI v2))) (T2 := (Mc, M, Mo)) (As := [.int a1]) (rest := [.ref (adr G 30)]) (n := 0) hx hb hml hown hts hX hP hS hl (c_Rf_canTranspose Mc Mo a1 M hv2) m_Rf_canTranspose q_1376 (hy_recv hX hP 30 10 (by decide) rfl rfl) rfl rfl (Nat.le_of_ble_eq_true rfl) dX11_transpose_18 ⟨Nat.le_of_ble_eq_true rfl, Nat.le_of_ble_eq_true rfl⟩ ⟨Nat.zero_le _, Nat.zero_le _⟩) hS (fun H locs hP hS => ?_)
    have J14 : ∀ (H : Heap) (locs : List Loc) (ls : Array Slot) (u1 : Int32), u1 = (if v2 then 0 else 2) → va_P G.1 vwCl (wld G (Mc, M, Mo)) H → va_S (hyA G) s.heap H locs → lv_has ls 3 [(0, .ref (adr G 30)), (1, .int a1)] → W p l e { frames := 3, cells := 0, slots := 6 * 0, locals := 65 } s m ([.ref (adr G 30), .int a1] : List Value).toArray below meth c H locs 0 0 (vx_MQ below (hyQ G (.inr (some (.int res.1)), (Mc, res.2, Mo))) (hyXQ G (.inr (some (.int res.1)), (Mc, res.2, Mo))) ([.ref (adr G 30), .int a1] : List Value).toArray s 0 (6 * 0) (hyA G)) (F0 m 29 ls [.int u1, .ref (adr G 30)]) := by
      intro H locs ls u1 eu1 hP hS hl
      subst eu1
      refine hy_putI (ty := .int) (T := (Mc, M, Mo)) (T2 := (Mc, (wI M 30 0 (if v2 then 0 else 2)), Mo)) (o := 30) (k := 0) hx hb hown hts hX hP hS (by decide) rfl rfl rfl rfl inX11g tyX11_ok nmX11 (by decide) q_1192 rfl rfl rfl rfl (Nat.le_of_ble_eq_true rfl) dX11_transpose_29 (fun H locs hP hS => ?_)
      obtain ⟨M4, hM4, h⟩ := hy_bind h
      rw [Option.some.inj hM4] at hP
      refine lv_aload_n hx hb dX11_transpose_32 rfl (lv_at hl 0 rfl) ?_
      refine hy_get (T := (Mc, M4, Mo)) (o := 30) (k := 0) (v := .int (M4.1 30 0)) hx hb hown hts hX hP (by decide) rfl rfl inX11g (by decide) q_1192 rfl dX11_transpose_33 ?_
      refine lv_if_le (tgt := 41) hx hb dX11_transpose_36 (by decide) (fun c5 => ?_) (fun c5 => ?_)
      · rw [if_pos c5] at h
        refine lv_iconst (v := 0) hx hb dX11_transpose_41 rfl ?_
        refine lv_istore_n (lv' := [(2, .int 0), (0, .ref (adr G 30)), (1, .int a1)]) hx hb dX11_transpose_42 rfl hl (by decide) rfl (fun ls hl => ?_)
        have L11 : ∀ (f : Nat) (x6 : Int32) (M7 : hyM) (qL : (Int32 × hyM)) (h : Rf_transpose_L43 a1 f x6 M7 = some qL) (H : Heap) (locs : List Loc) (ls : Array Slot) (hP : va_P G.1 vwCl (wld G (Mc, M7, Mo)) H) (hS : va_S (hyA G) s.heap H locs) (hl : lv_has ls 3 [(0, .ref (adr G 30)), (1, .int a1), (2, .int x6)]) (kk : ∀ (y6 : Int32) (NM7 : hyM), qL = (y6, NM7) → ∀ (H : Heap) (locs : List Loc) (ls : Array Slot), va_P G.1 vwCl (wld G (Mc, NM7, Mo)) H → va_S (hyA G) s.heap H locs → lv_has ls 3 [(0, .ref (adr G 30)), (1, .int a1), (2, .int y6)] → W p l e { frames := 3, cells := 0, slots := 6 * 0, locals := 65 } s m ([.ref (adr G 30), .int a1] : List Value).toArray below meth c H locs 0 0 (vx_MQ below (hyQ G (.inr (some (.int res.1)), (Mc, res.2, Mo))) (hyXQ G (.inr (some (.int res.1)), (Mc, res.2, Mo))) ([.ref (adr G 30), .int a1] : List Value).toArray s 0 (6 * 0) (hyA G)) (F0 m 69 ls [])), W p l e { frames := 3, cells := 0, slots := 6 * 0, locals := 65 } s m ([.ref (adr G 30), .int a1] : List Value).toArray below meth c H locs 0 0 (vx_MQ below (hyQ G (.inr (some (.int res.1)), (Mc, res.2, Mo))) (hyXQ G (.inr (some (.int res.1)), (Mc, res.2, Mo))) ([.ref (adr G 30), .int a1] : List Value).toArray s 0 (6 * 0) (hyA G)) (F0 m 43 ls []) := by
          intro f
          induction f with
          | zero =>
            intro x6 M7 qL h H locs ls hP hS hl kk
            rw [Rf_transpose_L43] at h
            cases h
          | succ f ih =>
            intro x6 M7 qL h H locs ls hP hS hl kk
            rw [Rf_transpose_L43] at h
            refine lv_iload_n hx hb dX11_transpose_43 rfl (lv_at hl 2 rfl) ?_
            refine lv_iconst (v := 4) hx hb dX11_transpose_44 rfl ?_
            refine lv_aload_n hx hb dX11_transpose_45 rfl (lv_at hl 0 rfl) ?_
            refine hy_get (T := (Mc, M7, Mo)) (o := 30) (k := 2) (v := .int (M7.1 30 2)) hx hb hown hts hX hP (by decide) rfl rfl inX11g (by decide) q_1194 rfl dX11_transpose_46 ?_
            refine lv_imul hx hb dX11_transpose_49 ?_
            refine lv_icmp_ge (tgt := 69) hx hb dX11_transpose_50 (by decide) (fun c8 => ?_) (fun c8 => ?_)
            · rw [if_pos c8] at h
              exact kk x6 M7 (Option.some.inj h).symm _ _ ls hP hS (lv_sub hl [0, 1, 2] rfl)
            · rw [if_neg c8] at h
              refine lv_aload_n hx hb dX11_transpose_53 rfl (lv_at hl 0 rfl) ?_
              refine hy_get (T := (Mc, M7, Mo)) (o := 30) (k := 4) (v := .ref (adr G 32)) hx hb hown hts hX hP (by decide) rfl rfl inX11g (by decide) q_1196 rfl dX11_transpose_54 ?_
              refine lv_iload_n hx hb dX11_transpose_57 rfl (lv_at hl 2 rfl) ?_
              refine lv_dup2_11 hx hb dX11_transpose_58 rfl rfl ?_
              obtain ⟨v9, hv9, h⟩ := hy_bind h
              obtain ⟨nv9, hv9⟩ := ldE_some hv9
              refine hy_iald (T := (Mc, M7, Mo)) hx hb hX hP 32 160 (M7.1 32) (by decide) rfl nv9 dX11_transpose_59 ?_
              rw [hv9]
              refine lv_iload_n hx hb dX11_transpose_60 rfl (lv_at hl 1 rfl) ?_
              refine lv_iadd hx hb dX11_transpose_61 ?_
              obtain ⟨M10, hM10, h⟩ := hy_bind h
              obtain ⟨nM10, hM10⟩ := stE_some hM10
              refine hy_iast (T := (Mc, M7, Mo)) (T2 := (Mc, (wI M7 32 x6.toNatClampNeg (v9 + a1)), Mo)) hx hb hX hP hS 32 160 (by decide) (fun _ _ => rfl) nM10 rfl dX11_transpose_62 (fun H locs hP hS => ?_)
              rw [hM10] at hP
              refine lv_iinc (v := (x6 + 1)) (lv' := [(2, .int (x6 + 1)), (0, .ref (adr G 30)), (1, .int a1)]) hx hb dX11_transpose_63 hl (k := 2) rfl rfl (by decide) rfl (fun ls hl => ?_)
              refine lv_goto (tgt := 43) hx hb dX11_transpose_66 (by decide) ?_
              exact ih (x6 + 1) M10 _ h  _ _ ls hP hS (lv_sub hl [1, 2, 0] rfl) kk
        obtain ⟨q13, hq13, h⟩ := hy_bind h
        refine L11 hyFu 0 M4 q13 hq13 _ _ ls hP hS (lv_sub hl [1, 2, 0] rfl) ?_
        intro y6 NM7 e9 H locs ls hP hS hl
        subst e9
        try dsimp only at h
        refine lv_aload_n hx hb dX11_transpose_69 rfl (lv_at hl 0 rfl) ?_
        refine lv_aload_n hx hb dX11_transpose_70 rfl (lv_at hl 0 rfl) ?_
        refine hy_get (T := (Mc, NM7, Mo)) (o := 30) (k := 1) (v := .int (NM7.1 30 1)) hx hb hown hts hX hP (by decide) rfl rfl inX11g (by decide) q_1193 rfl dX11_transpose_71 ?_
        refine lv_iload_n hx hb dX11_transpose_74 rfl (lv_at hl 1 rfl) ?_
        refine lv_iadd hx hb dX11_transpose_75 ?_
        refine lv_bipush (v := 24) hx hb dX11_transpose_76 rfl ?_
        refine lv_iadd hx hb dX11_transpose_78 ?_
        refine lv_bipush (v := 12) hx hb dX11_transpose_79 rfl ?_
        refine lv_irem hx hb dX11_transpose_81 (by decide) ?_
        refine hy_putI (ty := .int) (T := (Mc, NM7, Mo)) (T2 := (Mc, (wI NM7 30 1 ((((NM7.1 30 1) + a1) + 24) - (((NM7.1 30 1) + a1) + 24) / 12 * 12)), Mo)) (o := 30) (k := 1) hx hb hown hts hX hP hS (by decide) rfl rfl rfl rfl inX11g tyX11_ok nmX11 (by decide) q_1193 rfl rfl rfl rfl (Nat.le_of_ble_eq_true rfl) dX11_transpose_82 (fun H locs hP hS => ?_)
        obtain ⟨M12, hM12, h⟩ := hy_bind h
        rw [Option.some.inj hM12] at hP
        refine lv_aload_n hx hb dX11_transpose_85 rfl (lv_at hl 0 rfl) ?_
        refine hy_get (T := (Mc, M12, Mo)) (o := 30) (k := 1) (v := .int (M12.1 30 1)) hx hb hown hts hX hP (by decide) rfl rfl inX11g (by decide) q_1193 rfl dX11_transpose_86 ?_
        exact hy_iret (T := (Mc, M12, Mo)) hx hb hr hlocks hP hS (Nat.zero_le _) (Nat.zero_le _) (by rw [← (Option.some.inj h)] <;> rfl) dX11_transpose_89
      · rw [if_neg c5] at h
        refine lv_iconst (v := 0) hx hb dX11_transpose_39 rfl ?_
        exact hy_iret (T := (Mc, M4, Mo)) hx hb hr hlocks hP hS (Nat.zero_le _) (Nat.zero_le _) (by rw [← (Option.some.inj h)] <;> rfl) dX11_transpose_40
    refine lv_if_eq (tgt := 28) hx hb dX11_transpose_21 (by decide) (fun c3 => ?_) (fun c3 => ?_)
    · refine lv_iconst (v := 2) hx hb dX11_transpose_28 rfl ?_
      exact J14 _ _ ls 2 (by rw [if_neg (bI_0 c3)] <;> rfl) hP hS (lv_sub hl [0, 1] rfl)
    · refine lv_iconst (v := 0) hx hb dX11_transpose_24 rfl ?_
      refine lv_goto (tgt := 29) hx hb dX11_transpose_25 (by decide) ?_
      exact J14 _ _ ls 0 (by rw [if_pos (bI_1 c3)] <;> rfl) hP hS (lv_sub hl [0, 1] rfl)
  · rw [if_neg (bI_0 c1)] at h
    refine lv_iconst (v := 1) hx hb dX11_transpose_12 rfl ?_
    refine lv_goto (tgt := 29) hx hb dX11_transpose_13 (by decide) ?_
    refine hy_putI (ty := .int) (T := (Mc, M, Mo)) (T2 := (Mc, (wI M 30 0 1), Mo)) (o := 30) (k := 0) hx hb hown hts hX hP hS (by decide) rfl rfl rfl rfl inX11g tyX11_ok nmX11 (by decide) q_1192 rfl rfl rfl rfl (Nat.le_of_ble_eq_true rfl) dX11_transpose_29 (fun H locs hP hS => ?_)
    obtain ⟨M15, hM15, h⟩ := hy_bind h
    rw [Option.some.inj hM15] at hP
    refine lv_aload_n hx hb dX11_transpose_32 rfl (lv_at hl 0 rfl) ?_
    refine hy_get (T := (Mc, M15, Mo)) (o := 30) (k := 0) (v := .int (M15.1 30 0)) hx hb hown hts hX hP (by decide) rfl rfl inX11g (by decide) q_1192 rfl dX11_transpose_33 ?_
    refine lv_if_le (tgt := 41) hx hb dX11_transpose_36 (by decide) (fun c16 => ?_) (fun c16 => ?_)
    · rw [if_pos c16] at h
      refine lv_iconst (v := 0) hx hb dX11_transpose_41 rfl ?_
      refine lv_istore_n (lv' := [(2, .int 0), (0, .ref (adr G 30)), (1, .int a1)]) hx hb dX11_transpose_42 rfl hl (by decide) rfl (fun ls hl => ?_)
      have L22 : ∀ (f : Nat) (x17 : Int32) (M18 : hyM) (qL : (Int32 × hyM)) (h : Rf_transpose_L43b a1 f x17 M18 = some qL) (H : Heap) (locs : List Loc) (ls : Array Slot) (hP : va_P G.1 vwCl (wld G (Mc, M18, Mo)) H) (hS : va_S (hyA G) s.heap H locs) (hl : lv_has ls 3 [(0, .ref (adr G 30)), (1, .int a1), (2, .int x17)]) (kk : ∀ (y17 : Int32) (NM18 : hyM), qL = (y17, NM18) → ∀ (H : Heap) (locs : List Loc) (ls : Array Slot), va_P G.1 vwCl (wld G (Mc, NM18, Mo)) H → va_S (hyA G) s.heap H locs → lv_has ls 3 [(0, .ref (adr G 30)), (1, .int a1), (2, .int y17)] → W p l e { frames := 3, cells := 0, slots := 6 * 0, locals := 65 } s m ([.ref (adr G 30), .int a1] : List Value).toArray below meth c H locs 0 0 (vx_MQ below (hyQ G (.inr (some (.int res.1)), (Mc, res.2, Mo))) (hyXQ G (.inr (some (.int res.1)), (Mc, res.2, Mo))) ([.ref (adr G 30), .int a1] : List Value).toArray s 0 (6 * 0) (hyA G)) (F0 m 69 ls [])), W p l e { frames := 3, cells := 0, slots := 6 * 0, locals := 65 } s m ([.ref (adr G 30), .int a1] : List Value).toArray below meth c H locs 0 0 (vx_MQ below (hyQ G (.inr (some (.int res.1)), (Mc, res.2, Mo))) (hyXQ G (.inr (some (.int res.1)), (Mc, res.2, Mo))) ([.ref (adr G 30), .int a1] : List Value).toArray s 0 (6 * 0) (hyA G)) (F0 m 43 ls []) := by
        intro f
        induction f with
        | zero =>
          intro x17 M18 qL h H locs ls hP hS hl kk
          rw [Rf_transpose_L43b] at h
          cases h
        | succ f ih =>
          intro x17 M18 qL h H locs ls hP hS hl kk
          rw [Rf_transpose_L43b] at h
          refine lv_iload_n hx hb dX11_transpose_43 rfl (lv_at hl 2 rfl) ?_
          refine lv_iconst (v := 4) hx hb dX11_transpose_44 rfl ?_
          refine lv_aload_n hx hb dX11_transpose_45 rfl (lv_at hl 0 rfl) ?_
          refine hy_get (T := (Mc, M18, Mo)) (o := 30) (k := 2) (v := .int (M18.1 30 2)) hx hb hown hts hX hP (by decide) rfl rfl inX11g (by decide) q_1194 rfl dX11_transpose_46 ?_
          refine lv_imul hx hb dX11_transpose_49 ?_
          refine lv_icmp_ge (tgt := 69) hx hb dX11_transpose_50 (by decide) (fun c19 => ?_) (fun c19 => ?_)
          · rw [if_pos c19] at h
            exact kk x17 M18 (Option.some.inj h).symm _ _ ls hP hS (lv_sub hl [0, 1, 2] rfl)
          · rw [if_neg c19] at h
            refine lv_aload_n hx hb dX11_transpose_53 rfl (lv_at hl 0 rfl) ?_
            refine hy_get (T := (Mc, M18, Mo)) (o := 30) (k := 4) (v := .ref (adr G 32)) hx hb hown hts hX hP (by decide) rfl rfl inX11g (by decide) q_1196 rfl dX11_transpose_54 ?_
            refine lv_iload_n hx hb dX11_transpose_57 rfl (lv_at hl 2 rfl) ?_
            refine lv_dup2_11 hx hb dX11_transpose_58 rfl rfl ?_
            obtain ⟨v20, hv20, h⟩ := hy_bind h
            obtain ⟨nv20, hv20⟩ := ldE_some hv20
            refine hy_iald (T := (Mc, M18, Mo)) hx hb hX hP 32 160 (M18.1 32) (by decide) rfl nv20 dX11_transpose_59 ?_
            rw [hv20]
            refine lv_iload_n hx hb dX11_transpose_60 rfl (lv_at hl 1 rfl) ?_
            refine lv_iadd hx hb dX11_transpose_61 ?_
            obtain ⟨M21, hM21, h⟩ := hy_bind h
            obtain ⟨nM21, hM21⟩ := stE_some hM21
            refine hy_iast (T := (Mc, M18, Mo)) (T2 := (Mc, (wI M18 32 x17.toNatClampNeg (v20 + a1)), Mo)) hx hb hX hP hS 32 160 (by decide) (fun _ _ => rfl) nM21 rfl dX11_transpose_62 (fun H locs hP hS => ?_)
            rw [hM21] at hP
            refine lv_iinc (v := (x17 + 1)) (lv' := [(2, .int (x17 + 1)), (0, .ref (adr G 30)), (1, .int a1)]) hx hb dX11_transpose_63 hl (k := 2) rfl rfl (by decide) rfl (fun ls hl => ?_)
            refine lv_goto (tgt := 43) hx hb dX11_transpose_66 (by decide) ?_
            exact ih (x17 + 1) M21 _ h  _ _ ls hP hS (lv_sub hl [1, 2, 0] rfl) kk
      obtain ⟨q24, hq24, h⟩ := hy_bind h
      refine L22 hyFu 0 M15 q24 hq24 _ _ ls hP hS (lv_sub hl [1, 2, 0] rfl) ?_
      intro y17 NM18 e9 H locs ls hP hS hl
      subst e9
      try dsimp only at h
      refine lv_aload_n hx hb dX11_transpose_69 rfl (lv_at hl 0 rfl) ?_
      refine lv_aload_n hx hb dX11_transpose_70 rfl (lv_at hl 0 rfl) ?_
      refine hy_get (T := (Mc, NM18, Mo)) (o := 30) (k := 1) (v := .int (NM18.1 30 1)) hx hb hown hts hX hP (by decide) rfl rfl inX11g (by decide) q_1193 rfl dX11_transpose_71 ?_
      refine lv_iload_n hx hb dX11_transpose_74 rfl (lv_at hl 1 rfl) ?_
      refine lv_iadd hx hb dX11_transpose_75 ?_
      refine lv_bipush (v := 24) hx hb dX11_transpose_76 rfl ?_
      refine lv_iadd hx hb dX11_transpose_78 ?_
      refine lv_bipush (v := 12) hx hb dX11_transpose_79 rfl ?_
      refine lv_irem hx hb dX11_transpose_81 (by decide) ?_
      refine hy_putI (ty := .int) (T := (Mc, NM18, Mo)) (T2 := (Mc, (wI NM18 30 1 ((((NM18.1 30 1) + a1) + 24) - (((NM18.1 30 1) + a1) + 24) / 12 * 12)), Mo)) (o := 30) (k := 1) hx hb hown hts hX hP hS (by decide) rfl rfl rfl rfl inX11g tyX11_ok nmX11 (by decide) q_1193 rfl rfl rfl rfl (Nat.le_of_ble_eq_true rfl) dX11_transpose_82 (fun H locs hP hS => ?_)
      obtain ⟨M23, hM23, h⟩ := hy_bind h
      rw [Option.some.inj hM23] at hP
      refine lv_aload_n hx hb dX11_transpose_85 rfl (lv_at hl 0 rfl) ?_
      refine hy_get (T := (Mc, M23, Mo)) (o := 30) (k := 1) (v := .int (M23.1 30 1)) hx hb hown hts hX hP (by decide) rfl rfl inX11g (by decide) q_1193 rfl dX11_transpose_86 ?_
      exact hy_iret (T := (Mc, M23, Mo)) hx hb hr hlocks hP hS (Nat.zero_le _) (Nat.zero_le _) (by rw [← (Option.some.inj h)] <;> rfl) dX11_transpose_89
    · rw [if_neg c16] at h
      refine lv_iconst (v := 0) hx hb dX11_transpose_39 rfl ?_
      exact hy_iret (T := (Mc, M15, Mo)) hx hb hr hlocks hP hS (Nat.zero_le _) (Nat.zero_le _) (by rw [← (Option.some.inj h)] <;> rfl) dX11_transpose_40
set_option maxHeartbeats 1000000 in
set_option maxRecDepth 100000 in
theorem c_Rf_setWidth {l : Launch} {G : hyG} (Mc Mo : hyM) (a1 : Int32) (M : hyM) {res : (Int32 × hyM)} (h : Rf_setWidth a1 M = some res) : hyC l yX11_setWidth (.code yX11_setWidth cX11_setWidth 2 (some .int)) 6 140 (0) G [.ref (adr G 30), .int a1] (Mc, M, Mo) (.inr (some (.int res.1)), (Mc, res.2, Mo)) := by
  refine hy_of (by decide +kernel) (Nat.le_of_ble_eq_true rfl) ?_
  intro p e s m below meth c hx hb hml hown hts hr hlocks ht hX hP hS ls hl
  have hl : lv_has ls 2 [(0, .ref (adr G 30)), (1, .int a1)] := hl
  rw [Rf_setWidth] at h
  refine lv_aload_n hx hb dX11_setWidth_0 rfl (lv_at hl 0 rfl) ?_
  refine lv_iload_n hx hb dX11_setWidth_1 rfl (lv_at hl 1 rfl) ?_
  refine lv_bipush (v := 20) hx hb dX11_setWidth_2 rfl ?_
  refine lv_sipush (v := 200) hx hb dX11_setWidth_4 rfl ?_
  refine hy_ret (hy_rS0 (T := (Mc, M, Mo)) (v := some (.int (bI (Rf_within a1 20 200 M)))) (T2 := (Mc, M, Mo)) (As := [.int a1, .int 20, .int 200]) (rest := [.ref (adr G 30)]) (n := 0) hx hb hml hown hts hX hP hS hl (c_Rf_within Mc Mo a1 20 200 M rfl) m_Rf_within q_1310 rfl rfl (Nat.le_of_ble_eq_true rfl) dX11_setWidth_7 ⟨Nat.le_of_ble_eq_true rfl, Nat.le_of_ble_eq_true rfl⟩ ⟨Nat.zero_le _, Nat.zero_le _⟩) hS (fun H locs hP hS => ?_)
  have J6 : ∀ (H : Heap) (locs : List Loc) (ls : Array Slot) (u1 : Int32), u1 = (bI (!(Rf_within a1 20 200 M))) → va_P G.1 vwCl (wld G (Mc, M, Mo)) H → va_S (hyA G) s.heap H locs → lv_has ls 2 [(0, .ref (adr G 30)), (1, .int a1)] → W p l e { frames := 6, cells := 0, slots := 6 * 0, locals := 140 } s m ([.ref (adr G 30), .int a1] : List Value).toArray below meth c H locs 0 0 (vx_MQ below (hyQ G (.inr (some (.int res.1)), (Mc, res.2, Mo))) (hyXQ G (.inr (some (.int res.1)), (Mc, res.2, Mo))) ([.ref (adr G 30), .int a1] : List Value).toArray s 0 (6 * 0) (hyA G)) (F0 m 18 ls [.int u1, .ref (adr G 30)]) := by
    intro H locs ls u1 eu1 hP hS hl
    subst eu1
    refine hy_putI (ty := .int) (T := (Mc, M, Mo)) (T2 := (Mc, (wI M 30 0 (bI (!(Rf_within a1 20 200 M)))), Mo)) (o := 30) (k := 0) hx hb hown hts hX hP hS (by decide) rfl rfl rfl rfl inX11g tyX11_ok nmX11 (by decide) q_1192 rfl rfl rfl rfl (Nat.le_of_ble_eq_true rfl) dX11_setWidth_18 (fun H locs hP hS => ?_)
    obtain ⟨M2, hM2, h⟩ := hy_bind h
    rw [Option.some.inj hM2] at hP
    refine lv_aload_n hx hb dX11_setWidth_21 rfl (lv_at hl 0 rfl) ?_
    refine hy_get (T := (Mc, M2, Mo)) (o := 30) (k := 0) (v := .int (M2.1 30 0)) hx hb hown hts hX hP (by decide) rfl rfl inX11g (by decide) q_1192 rfl dX11_setWidth_22 ?_
    refine lv_if_le (tgt := 30) hx hb dX11_setWidth_25 (by decide) (fun c3 => ?_) (fun c3 => ?_)
    · rw [if_pos c3] at h
      refine lv_aload_n hx hb dX11_setWidth_30 rfl (lv_at hl 0 rfl) ?_
      refine lv_iload_n hx hb dX11_setWidth_31 rfl (lv_at hl 1 rfl) ?_
      refine hy_putI (ty := .int) (T := (Mc, M2, Mo)) (T2 := (Mc, (wI M2 30 13 a1), Mo)) (o := 30) (k := 13) hx hb hown hts hX hP hS (by decide) rfl rfl rfl rfl inX11g tyX11_ok nmX11 (by decide) q_1205 rfl rfl rfl rfl (Nat.le_of_ble_eq_true rfl) dX11_setWidth_32 (fun H locs hP hS => ?_)
      obtain ⟨M4, hM4, h⟩ := hy_bind h
      rw [Option.some.inj hM4] at hP
      refine lv_aload_n hx hb dX11_setWidth_35 rfl (lv_at hl 0 rfl) ?_
      obtain ⟨M5, hM5, h⟩ := hy_bind h
      refine hy_ret (hy_rV0 (T := (Mc, M4, Mo)) (v := none) (T2 := (Mc, M5, Mo)) (As := []) (rest := []) (n := 0) hx hb hml hown hts hX hP hS hl (c_Rf_lay Mc Mo M4 hM5) m_Rf_lay q_1384 (hy_recv hX hP 30 10 (by decide) rfl rfl) rfl rfl (Nat.le_of_ble_eq_true rfl) dX11_setWidth_36 ⟨Nat.le_of_ble_eq_true rfl, Nat.le_of_ble_eq_true rfl⟩ ⟨Nat.zero_le _, Nat.zero_le _⟩) hS (fun H locs hP hS => ?_)
      refine lv_aload_n hx hb dX11_setWidth_39 rfl (lv_at hl 0 rfl) ?_
      refine hy_get (T := (Mc, M5, Mo)) (o := 30) (k := 30) (v := .int (M5.1 30 30)) hx hb hown hts hX hP (by decide) rfl rfl inX11g (by decide) q_1222 rfl dX11_setWidth_40 ?_
      exact hy_iret (T := (Mc, M5, Mo)) hx hb hr hlocks hP hS (Nat.zero_le _) (Nat.zero_le _) (by rw [← (Option.some.inj h)] <;> rfl) dX11_setWidth_43
    · rw [if_neg c3] at h
      refine lv_iconst (v := 0) hx hb dX11_setWidth_28 rfl ?_
      exact hy_iret (T := (Mc, M2, Mo)) hx hb hr hlocks hP hS (Nat.zero_le _) (Nat.zero_le _) (by rw [← (Option.some.inj h)] <;> rfl) dX11_setWidth_29
  refine lv_if_eq (tgt := 17) hx hb dX11_setWidth_10 (by decide) (fun c1 => ?_) (fun c1 => ?_)
  · refine lv_iconst (v := 1) hx hb dX11_setWidth_17 rfl ?_
    exact J6 _ _ ls 1 (by rw [(bI_z c1)] <;> rfl) hP hS (lv_sub hl [0, 1] rfl)
  · refine lv_iconst (v := 0) hx hb dX11_setWidth_13 rfl ?_
    refine lv_goto (tgt := 18) hx hb dX11_setWidth_14 (by decide) ?_
    exact J6 _ _ ls 0 (by rw [(bI_1 c1)] <;> rfl) hP hS (lv_sub hl [0, 1] rfl)
set_option maxHeartbeats 1000000 in
set_option maxRecDepth 100000 in
theorem c_Rf_append {l : Launch} {G : hyG} (Mc Mo : hyM) (a1 : Int32) (M : hyM) {res : (Int32 × hyM)} (h : Rf_append a1 M = some res) : hyC l yX11_append (.code yX11_append cX11_append 2 (some .int)) 1 22 (0) G [.ref (adr G 30), .int a1] (Mc, M, Mo) (.inr (some (.int res.1)), (Mc, res.2, Mo)) := by
  refine hy_of (by decide +kernel) (Nat.le_of_ble_eq_true rfl) ?_
  intro p e s m below meth c hx hb hml hown hts hr hlocks ht hX hP hS ls hl
  have hl : lv_has ls 2 [(0, .ref (adr G 30)), (1, .int a1)] := hl
  rw [Rf_append] at h
  refine lv_aload_n hx hb dX11_append_0 rfl (lv_at hl 0 rfl) ?_
  refine lv_iload_n hx hb dX11_append_1 rfl (lv_at hl 1 rfl) ?_
  refine lv_bipush (v := 32) hx hb dX11_append_2 rfl ?_
  refine lv_bipush (v := 126) hx hb dX11_append_4 rfl ?_
  refine hy_ret (hy_rS0 (T := (Mc, M, Mo)) (v := some (.int (bI (Rf_within a1 32 126 M)))) (T2 := (Mc, M, Mo)) (As := [.int a1, .int 32, .int 126]) (rest := [.ref (adr G 30)]) (n := 0) hx hb hml hown hts hX hP hS hl (c_Rf_within Mc Mo a1 32 126 M rfl) m_Rf_within q_1310 rfl rfl (Nat.le_of_ble_eq_true rfl) dX11_append_6 ⟨Nat.le_of_ble_eq_true rfl, Nat.le_of_ble_eq_true rfl⟩ ⟨Nat.zero_le _, Nat.zero_le _⟩) hS (fun H locs hP hS => ?_)
  have J7 : ∀ (H : Heap) (locs : List Loc) (ls : Array Slot) (u1 : Int32), u1 = (if (Rf_within a1 32 126 M) then (if (M.1 30 19) = 60 then 2 else 0) else 1) → va_P G.1 vwCl (wld G (Mc, M, Mo)) H → va_S (hyA G) s.heap H locs → lv_has ls 2 [(0, .ref (adr G 30)), (1, .int a1)] → W p l e { frames := 1, cells := 0, slots := 6 * 0, locals := 22 } s m ([.ref (adr G 30), .int a1] : List Value).toArray below meth c H locs 0 0 (vx_MQ below (hyQ G (.inr (some (.int res.1)), (Mc, res.2, Mo))) (hyXQ G (.inr (some (.int res.1)), (Mc, res.2, Mo))) ([.ref (adr G 30), .int a1] : List Value).toArray s 0 (6 * 0) (hyA G)) (F0 m 30 ls [.int u1, .ref (adr G 30)]) := by
    intro H locs ls u1 eu1 hP hS hl
    subst eu1
    refine hy_putI (ty := .int) (T := (Mc, M, Mo)) (T2 := (Mc, (wI M 30 0 (if (Rf_within a1 32 126 M) then (if (M.1 30 19) = 60 then 2 else 0) else 1)), Mo)) (o := 30) (k := 0) hx hb hown hts hX hP hS (by decide) rfl rfl rfl rfl inX11g tyX11_ok nmX11 (by decide) q_1192 rfl rfl rfl rfl (Nat.le_of_ble_eq_true rfl) dX11_append_30 (fun H locs hP hS => ?_)
    obtain ⟨M3, hM3, h⟩ := hy_bind h
    rw [Option.some.inj hM3] at hP
    refine lv_aload_n hx hb dX11_append_33 rfl (lv_at hl 0 rfl) ?_
    refine hy_get (T := (Mc, M3, Mo)) (o := 30) (k := 0) (v := .int (M3.1 30 0)) hx hb hown hts hX hP (by decide) rfl rfl inX11g (by decide) q_1192 rfl dX11_append_34 ?_
    refine lv_if_le (tgt := 42) hx hb dX11_append_37 (by decide) (fun c4 => ?_) (fun c4 => ?_)
    · rw [if_pos c4] at h
      refine lv_aload_n hx hb dX11_append_42 rfl (lv_at hl 0 rfl) ?_
      refine hy_get (T := (Mc, M3, Mo)) (o := 30) (k := 20) (v := .ref (adr G 42)) hx hb hown hts hX hP (by decide) rfl rfl inX11g (by decide) q_1212 rfl dX11_append_43 ?_
      refine lv_aload_n hx hb dX11_append_46 rfl (lv_at hl 0 rfl) ?_
      refine hy_get (T := (Mc, M3, Mo)) (o := 30) (k := 19) (v := .int (M3.1 30 19)) hx hb hown hts hX hP (by decide) rfl rfl inX11g (by decide) q_1211 rfl dX11_append_47 ?_
      refine lv_iload_n hx hb dX11_append_50 rfl (lv_at hl 1 rfl) ?_
      obtain ⟨M5, hM5, h⟩ := hy_bind h
      obtain ⟨nM5, hM5⟩ := stE_some hM5
      refine hy_iast (T := (Mc, M3, Mo)) (T2 := (Mc, (wI M3 42 (M3.1 30 19).toNatClampNeg a1), Mo)) hx hb hX hP hS 42 60 (by decide) (fun _ _ => rfl) nM5 rfl dX11_append_51 (fun H locs hP hS => ?_)
      rw [hM5] at hP
      refine lv_aload_n hx hb dX11_append_52 rfl (lv_at hl 0 rfl) ?_
      refine lv_dup hx hb dX11_append_53 rfl ?_
      refine hy_get (T := (Mc, M5, Mo)) (o := 30) (k := 19) (v := .int (M5.1 30 19)) hx hb hown hts hX hP (by decide) rfl rfl inX11g (by decide) q_1211 rfl dX11_append_54 ?_
      refine lv_iconst (v := 1) hx hb dX11_append_57 rfl ?_
      refine lv_iadd hx hb dX11_append_58 ?_
      refine hy_putI (ty := .int) (T := (Mc, M5, Mo)) (T2 := (Mc, (wI M5 30 19 ((M5.1 30 19) + 1)), Mo)) (o := 30) (k := 19) hx hb hown hts hX hP hS (by decide) rfl rfl rfl rfl inX11g tyX11_ok nmX11 (by decide) q_1211 rfl rfl rfl rfl (Nat.le_of_ble_eq_true rfl) dX11_append_59 (fun H locs hP hS => ?_)
      obtain ⟨M6, hM6, h⟩ := hy_bind h
      rw [Option.some.inj hM6] at hP
      refine lv_aload_n hx hb dX11_append_62 rfl (lv_at hl 0 rfl) ?_
      refine hy_get (T := (Mc, M6, Mo)) (o := 30) (k := 19) (v := .int (M6.1 30 19)) hx hb hown hts hX hP (by decide) rfl rfl inX11g (by decide) q_1211 rfl dX11_append_63 ?_
      exact hy_iret (T := (Mc, M6, Mo)) hx hb hr hlocks hP hS (Nat.zero_le _) (Nat.zero_le _) (by rw [← (Option.some.inj h)] <;> rfl) dX11_append_66
    · rw [if_neg c4] at h
      refine lv_iconst (v := 0) hx hb dX11_append_40 rfl ?_
      exact hy_iret (T := (Mc, M3, Mo)) hx hb hr hlocks hP hS (Nat.zero_le _) (Nat.zero_le _) (by rw [← (Option.some.inj h)] <;> rfl) dX11_append_41
  refine lv_if_ne (tgt := 16) hx hb dX11_append_9 (by decide) (fun c1 => ?_) (fun c1 => ?_)
  · refine lv_aload_n hx hb dX11_append_16 rfl (lv_at hl 0 rfl) ?_
    refine hy_get (T := (Mc, M, Mo)) (o := 30) (k := 19) (v := .int (M.1 30 19)) hx hb hown hts hX hP (by decide) rfl rfl inX11g (by decide) q_1211 rfl dX11_append_17 ?_
    refine lv_bipush (v := 60) hx hb dX11_append_20 rfl ?_
    refine lv_icmp_ne (tgt := 29) hx hb dX11_append_22 (by decide) (fun c2 => ?_) (fun c2 => ?_)
    · refine lv_iconst (v := 0) hx hb dX11_append_29 rfl ?_
      exact J7 _ _ ls 0 (by rw [if_pos (bI_1 c1), if_neg c2] <;> rfl) hP hS (lv_sub hl [0, 1] rfl)
    · refine lv_iconst (v := 2) hx hb dX11_append_25 rfl ?_
      refine lv_goto (tgt := 30) hx hb dX11_append_26 (by decide) ?_
      exact J7 _ _ ls 2 (by rw [if_pos (bI_1 c1), if_pos c2] <;> rfl) hP hS (lv_sub hl [0, 1] rfl)
  · refine lv_iconst (v := 1) hx hb dX11_append_12 rfl ?_
    refine lv_goto (tgt := 30) hx hb dX11_append_13 (by decide) ?_
    exact J7 _ _ ls 1 (by rw [if_neg (bI_0 c1)] <;> rfl) hP hS (lv_sub hl [0, 1] rfl)
set_option maxHeartbeats 1000000 in
set_option maxRecDepth 100000 in
theorem c_Rf_clearInput {l : Launch} {G : hyG} (Mc Mo : hyM) (M : hyM) {res : (Int32 × hyM)} (h : Rf_clearInput M = res) : hyC l yX11_clearInput (.code yX11_clearInput cX11_clearInput 2 (some .int)) 0 0 (0) G [.ref (adr G 30)] (Mc, M, Mo) (.inr (some (.int res.1)), (Mc, res.2, Mo)) := by
  refine hy_of (by decide +kernel) (Nat.le_of_ble_eq_true rfl) ?_
  intro p e s m below meth c hx hb hml hown hts hr hlocks ht hX hP hS ls hl
  have hl : lv_has ls 2 [(0, .ref (adr G 30))] := hl
  rw [Rf_clearInput] at h
  refine lv_aload_n hx hb dX11_clearInput_0 rfl (lv_at hl 0 rfl) ?_
  refine lv_iconst (v := 0) hx hb dX11_clearInput_1 rfl ?_
  refine hy_putI (ty := .int) (T := (Mc, M, Mo)) (T2 := (Mc, (wI M 30 0 0), Mo)) (o := 30) (k := 0) hx hb hown hts hX hP hS (by decide) rfl rfl rfl rfl inX11g tyX11_ok nmX11 (by decide) q_1192 rfl rfl rfl rfl (Nat.le_of_ble_eq_true rfl) dX11_clearInput_2 (fun H locs hP hS => ?_)
  refine lv_aload_n hx hb dX11_clearInput_5 rfl (lv_at hl 0 rfl) ?_
  refine hy_get (T := (Mc, (wI M 30 0 0), Mo)) (o := 30) (k := 19) (v := .int ((wI M 30 0 0).1 30 19)) hx hb hown hts hX hP (by decide) rfl rfl inX11g (by decide) q_1211 rfl dX11_clearInput_6 ?_
  refine lv_istore_n (lv' := [(1, .int ((wI M 30 0 0).1 30 19)), (0, .ref (adr G 30))]) hx hb dX11_clearInput_9 rfl hl (by decide) rfl (fun ls hl => ?_)
  refine lv_aload_n hx hb dX11_clearInput_10 rfl (lv_at hl 1 rfl) ?_
  refine lv_iconst (v := 0) hx hb dX11_clearInput_11 rfl ?_
  refine hy_putI (ty := .int) (T := (Mc, (wI M 30 0 0), Mo)) (T2 := (Mc, (wI (wI M 30 0 0) 30 19 0), Mo)) (o := 30) (k := 19) hx hb hown hts hX hP hS (by decide) rfl rfl rfl rfl inX11g tyX11_ok nmX11 (by decide) q_1211 rfl rfl rfl rfl (Nat.le_of_ble_eq_true rfl) dX11_clearInput_12 (fun H locs hP hS => ?_)
  refine lv_iload_n hx hb dX11_clearInput_15 rfl (lv_at hl 0 rfl) ?_
  exact hy_iret (T := (Mc, (wI (wI M 30 0 0) 30 19 0), Mo)) hx hb hr hlocks hP hS (Nat.zero_le _) (Nat.zero_le _) (by rw [← h] <;> rfl) dX11_clearInput_16
set_option maxHeartbeats 1000000 in
set_option maxRecDepth 100000 in
theorem c_Rf_rightLine {l : Launch} {G : hyG} (Mc Mo : hyM) (M : hyM) {res : (Int32 × hyM)} (h : Rf_rightLine M = some res) : hyC l yX11_rightLine (.code yX11_rightLine cX11_rightLine 4 (some .int)) 2 42 (0) G [.ref (adr G 30)] (Mc, M, Mo) (.inr (some (.int res.1)), (Mc, res.2, Mo)) := by
  refine hy_of (by decide +kernel) (Nat.le_of_ble_eq_true rfl) ?_
  intro p e s m below meth c hx hb hml hown hts hr hlocks ht hX hP hS ls hl
  have hl : lv_has ls 4 [(0, .ref (adr G 30))] := hl
  rw [Rf_rightLine] at h
  refine lv_aload_n hx hb dX11_rightLine_0 rfl (lv_at hl 0 rfl) ?_
  refine lv_iconst (v := 0) hx hb dX11_rightLine_1 rfl ?_
  refine hy_putI (ty := .int) (T := (Mc, M, Mo)) (T2 := (Mc, (wI M 30 31 0), Mo)) (o := 30) (k := 31) hx hb hown hts hX hP hS (by decide) rfl rfl rfl rfl inX11g tyX11_ok nmX11 (by decide) q_1223 rfl rfl rfl rfl (Nat.le_of_ble_eq_true rfl) dX11_rightLine_2 (fun H locs hP hS => ?_)
  obtain ⟨M1, hM1, h⟩ := hy_bind h
  rw [Option.some.inj hM1] at hP
  refine lv_iconst (v := 0) hx hb dX11_rightLine_5 rfl ?_
  refine lv_istore_n (lv' := [(1, .int 0), (0, .ref (adr G 30))]) hx hb dX11_rightLine_6 rfl hl (by decide) rfl (fun ls hl => ?_)
  refine lv_iconst (v := 1) hx hb dX11_rightLine_7 rfl ?_
  refine lv_istore_n (lv' := [(2, .int 1), (1, .int 0), (0, .ref (adr G 30))]) hx hb dX11_rightLine_8 rfl hl (by decide) rfl (fun ls hl => ?_)
  have L51 : ∀ (f : Nat) (x2 : Int32) (x3 : Bool) (M4 : hyM) (qL : (Int32 × Bool × hyM)) (h : Rf_rightLine_L9  f x2 x3 M4 = some qL) (H : Heap) (locs : List Loc) (ls : Array Slot) (hP : va_P G.1 vwCl (wld G (Mc, M4, Mo)) H) (hS : va_S (hyA G) s.heap H locs) (hl : lv_has ls 4 [(0, .ref (adr G 30)), (1, .int x2), (2, .int (bI x3))]) (kk : ∀ (y2 : Int32) (y3 : Bool) (NM4 : hyM), qL = (y2, y3, NM4) → ∀ (H : Heap) (locs : List Loc) (ls : Array Slot), va_P G.1 vwCl (wld G (Mc, NM4, Mo)) H → va_S (hyA G) s.heap H locs → lv_has ls 4 [(0, .ref (adr G 30)), (1, .int y2), (2, .int (bI y3))] → W p l e { frames := 2, cells := 0, slots := 6 * 0, locals := 42 } s m ([.ref (adr G 30)] : List Value).toArray below meth c H locs 0 0 (vx_MQ below (hyQ G (.inr (some (.int res.1)), (Mc, res.2, Mo))) (hyXQ G (.inr (some (.int res.1)), (Mc, res.2, Mo))) ([.ref (adr G 30)] : List Value).toArray s 0 (6 * 0) (hyA G)) (F0 m 131 ls [])), W p l e { frames := 2, cells := 0, slots := 6 * 0, locals := 42 } s m ([.ref (adr G 30)] : List Value).toArray below meth c H locs 0 0 (vx_MQ below (hyQ G (.inr (some (.int res.1)), (Mc, res.2, Mo))) (hyXQ G (.inr (some (.int res.1)), (Mc, res.2, Mo))) ([.ref (adr G 30)] : List Value).toArray s 0 (6 * 0) (hyA G)) (F0 m 9 ls []) := by
    intro f
    induction f with
    | zero =>
      intro x2 x3 M4 qL h H locs ls hP hS hl kk
      rw [Rf_rightLine_L9] at h
      cases h
    | succ f ih =>
      intro x2 x3 M4 qL h H locs ls hP hS hl kk
      rw [Rf_rightLine_L9] at h
      refine lv_iload_n hx hb dX11_rightLine_9 rfl (lv_at hl 1 rfl) ?_
      refine lv_aload_n hx hb dX11_rightLine_10 rfl (lv_at hl 0 rfl) ?_
      refine hy_get (T := (Mc, M4, Mo)) (o := 30) (k := 19) (v := .int (M4.1 30 19)) hx hb hown hts hX hP (by decide) rfl rfl inX11g (by decide) q_1211 rfl dX11_rightLine_11 ?_
      have K49 : ∀ (H : Heap) (locs : List Loc), (if (M4.1 30 19) ≤ x2 then false else x3) = true → va_P G.1 vwCl (wld G (Mc, M4, Mo)) H → va_S (hyA G) s.heap H locs → W p l e { frames := 2, cells := 0, slots := 6 * 0, locals := 42 } s m ([.ref (adr G 30)] : List Value).toArray below meth c H locs 0 0 (vx_MQ below (hyQ G (.inr (some (.int res.1)), (Mc, res.2, Mo))) (hyXQ G (.inr (some (.int res.1)), (Mc, res.2, Mo))) ([.ref (adr G 30)] : List Value).toArray s 0 (6 * 0) (hyA G)) (F0 m 21 ls []) := by
        intro H locs cb hP hS
        rw [if_pos cb] at h
        refine lv_aload_n hx hb dX11_rightLine_21 rfl (lv_at hl 0 rfl) ?_
        refine hy_get (T := (Mc, M4, Mo)) (o := 30) (k := 20) (v := .ref (adr G 42)) hx hb hown hts hX hP (by decide) rfl rfl inX11g (by decide) q_1212 rfl dX11_rightLine_22 ?_
        refine lv_iload_n hx hb dX11_rightLine_25 rfl (lv_at hl 1 rfl) ?_
        obtain ⟨v7, hv7, h⟩ := hy_bind h
        obtain ⟨nv7, hv7⟩ := ldE_some hv7
        refine hy_iald (T := (Mc, M4, Mo)) hx hb hX hP 42 60 (M4.1 42) (by decide) rfl nv7 dX11_rightLine_26 ?_
        rw [hv7]
        refine hy_ret (hy_rS0 (T := (Mc, M4, Mo)) (v := some (.int (bI (Rf_isLetter v7 M4)))) (T2 := (Mc, M4, Mo)) (As := [.int v7]) (rest := []) (n := 0) hx hb hml hown hts hX hP hS hl (c_Rf_isLetter Mc Mo v7 M4 rfl) m_Rf_isLetter q_1416 rfl rfl (Nat.le_of_ble_eq_true rfl) dX11_rightLine_27 ⟨Nat.le_of_ble_eq_true rfl, Nat.le_of_ble_eq_true rfl⟩ ⟨Nat.zero_le _, Nat.zero_le _⟩) hS (fun H locs hP hS => ?_)
        refine lv_istore_n (lv' := [(3, .int (bI (Rf_isLetter v7 M4))), (0, .ref (adr G 30)), (1, .int x2), (2, .int (bI x3))]) hx hb dX11_rightLine_30 rfl hl (by decide) rfl (fun ls hl => ?_)
        refine lv_iload_n hx hb dX11_rightLine_31 rfl (lv_at hl 0 rfl) ?_
        refine lv_if_eq (tgt := 52) hx hb dX11_rightLine_32 (by decide) (fun c8 => ?_) (fun c8 => ?_)
        · rw [if_neg (bI_0 c8)] at h
          refine lv_aload_n hx hb dX11_rightLine_52 rfl (lv_at hl 1 rfl) ?_
          refine hy_get (T := (Mc, M4, Mo)) (o := 30) (k := 31) (v := .int (M4.1 30 31)) hx hb hown hts hX hP (by decide) rfl rfl inX11g (by decide) q_1223 rfl dX11_rightLine_53 ?_
          refine lv_if_le (tgt := 85) hx hb dX11_rightLine_56 (by decide) (fun c9 => ?_) (fun c9 => ?_)
          · rw [if_pos c9] at h
            refine lv_iconst (v := 0) hx hb dX11_rightLine_85 rfl ?_
            refine lv_istore_n (lv' := [(2, .int 0), (3, .int (bI (Rf_isLetter v7 M4))), (0, .ref (adr G 30)), (1, .int x2)]) hx hb dX11_rightLine_86 rfl hl (by decide) rfl (fun ls hl => ?_)
            refine lv_aload_n hx hb dX11_rightLine_87 rfl (lv_at hl 2 rfl) ?_
            refine lv_iload_n hx hb dX11_rightLine_88 rfl (lv_at hl 0 rfl) ?_
            refine lv_if_ne (tgt := 99) hx hb dX11_rightLine_89 (by decide) (fun c11 => by first | exact absurd c11 (by decide) | exact absurd (by decide) c11) (fun c11 => ?_)
            refine lv_aload_n hx hb dX11_rightLine_92 rfl (lv_at hl 2 rfl) ?_
            refine hy_get (T := (Mc, M4, Mo)) (o := 30) (k := 31) (v := .int (M4.1 30 31)) hx hb hown hts hX hP (by decide) rfl rfl inX11g (by decide) q_1223 rfl dX11_rightLine_93 ?_
            refine lv_goto (tgt := 113) hx hb dX11_rightLine_96 (by decide) ?_
            refine hy_putI (ty := .int) (T := (Mc, M4, Mo)) (T2 := (Mc, (wI M4 30 31 (M4.1 30 31)), Mo)) (o := 30) (k := 31) hx hb hown hts hX hP hS (by decide) rfl rfl rfl rfl inX11g tyX11_ok nmX11 (by decide) q_1223 rfl rfl rfl rfl (Nat.le_of_ble_eq_true rfl) dX11_rightLine_113 (fun H locs hP hS => ?_)
            obtain ⟨M17, hM17, h⟩ := hy_bind h
            rw [Option.some.inj hM17] at hP
            refine lv_iload_n hx hb dX11_rightLine_116 rfl (lv_at hl 3 rfl) ?_
            refine lv_iload_n hx hb dX11_rightLine_117 rfl (lv_at hl 0 rfl) ?_
            refine lv_if_eq (tgt := 125) hx hb dX11_rightLine_118 (by decide) (fun c19 => ?_) (fun c19 => by first | exact absurd (by decide) c19 | exact absurd c19 (by decide))
            refine lv_iconst (v := 0) hx hb dX11_rightLine_125 rfl ?_
            refine lv_iadd hx hb dX11_rightLine_126 ?_
            refine lv_istore_n (lv' := [(1, .int (x2 + 0)), (2, .int 0), (3, .int (bI (Rf_isLetter v7 M4))), (0, .ref (adr G 30))]) hx hb dX11_rightLine_127 rfl hl (by decide) rfl (fun ls hl => ?_)
            refine lv_goto (tgt := 9) hx hb dX11_rightLine_128 (by decide) ?_
            exact ih (x2 + 0) false M17 _ h  _ _ ls hP hS (lv_sub hl [3, 0, 1] rfl) kk
          · rw [if_neg c9] at h
            refine lv_aload_n hx hb dX11_rightLine_59 rfl (lv_at hl 1 rfl) ?_
            refine hy_get (T := (Mc, M4, Mo)) (o := 30) (k := 20) (v := .ref (adr G 42)) hx hb hown hts hX hP (by decide) rfl rfl inX11g (by decide) q_1212 rfl dX11_rightLine_60 ?_
            refine lv_iload_n hx hb dX11_rightLine_63 rfl (lv_at hl 2 rfl) ?_
            obtain ⟨v20, hv20, h⟩ := hy_bind h
            obtain ⟨nv20, hv20⟩ := ldE_some hv20
            refine hy_iald (T := (Mc, M4, Mo)) hx hb hX hP 42 60 (M4.1 42) (by decide) rfl nv20 dX11_rightLine_64 ?_
            rw [hv20]
            refine lv_bipush (v := 32) hx hb dX11_rightLine_65 rfl ?_
            refine lv_icmp_eq (tgt := 81) hx hb dX11_rightLine_67 (by decide) (fun c21 => ?_) (fun c21 => ?_)
            · rw [if_pos c21] at h
              refine lv_iconst (v := 1) hx hb dX11_rightLine_81 rfl ?_
              refine lv_goto (tgt := 86) hx hb dX11_rightLine_82 (by decide) ?_
              refine lv_istore_n (lv' := [(2, .int 1), (3, .int (bI (Rf_isLetter v7 M4))), (0, .ref (adr G 30)), (1, .int x2)]) hx hb dX11_rightLine_86 rfl hl (by decide) rfl (fun ls hl => ?_)
              refine lv_aload_n hx hb dX11_rightLine_87 rfl (lv_at hl 2 rfl) ?_
              refine lv_iload_n hx hb dX11_rightLine_88 rfl (lv_at hl 0 rfl) ?_
              refine lv_if_ne (tgt := 99) hx hb dX11_rightLine_89 (by decide) (fun c23 => ?_) (fun c23 => by first | exact absurd (by decide) c23 | exact absurd c23 (by decide))
              refine lv_iload_n hx hb dX11_rightLine_99 rfl (lv_at hl 1 rfl) ?_
              have J28 : ∀ (H : Heap) (locs : List Loc) (ls : Array Slot) (u1 : Int32), u1 = (if (Rf_isLetter v7 M4) then ((M4.1 30 31) + 1) else 0) → va_P G.1 vwCl (wld G (Mc, M4, Mo)) H → va_S (hyA G) s.heap H locs → lv_has ls 4 [(0, .ref (adr G 30)), (1, .int x2), (2, .int 1), (3, .int (bI (Rf_isLetter v7 M4)))] → W p l e { frames := 2, cells := 0, slots := 6 * 0, locals := 42 } s m ([.ref (adr G 30)] : List Value).toArray below meth c H locs 0 0 (vx_MQ below (hyQ G (.inr (some (.int res.1)), (Mc, res.2, Mo))) (hyXQ G (.inr (some (.int res.1)), (Mc, res.2, Mo))) ([.ref (adr G 30)] : List Value).toArray s 0 (6 * 0) (hyA G)) (F0 m 113 ls [.int u1, .ref (adr G 30)]) := by
                intro H locs ls u1 eu1 hP hS hl
                subst eu1
                refine hy_putI (ty := .int) (T := (Mc, M4, Mo)) (T2 := (Mc, (wI M4 30 31 (if (Rf_isLetter v7 M4) then ((M4.1 30 31) + 1) else 0)), Mo)) (o := 30) (k := 31) hx hb hown hts hX hP hS (by decide) rfl rfl rfl rfl inX11g tyX11_ok nmX11 (by decide) q_1223 rfl rfl rfl rfl (Nat.le_of_ble_eq_true rfl) dX11_rightLine_113 (fun H locs hP hS => ?_)
                obtain ⟨M25, hM25, h⟩ := hy_bind h
                rw [Option.some.inj hM25] at hP
                refine lv_iload_n hx hb dX11_rightLine_116 rfl (lv_at hl 1 rfl) ?_
                refine lv_iload_n hx hb dX11_rightLine_117 rfl (lv_at hl 2 rfl) ?_
                refine lv_if_eq (tgt := 125) hx hb dX11_rightLine_118 (by decide) (fun c27 => by first | exact absurd c27 (by decide) | exact absurd (by decide) c27) (fun c27 => ?_)
                refine lv_iconst (v := 1) hx hb dX11_rightLine_121 rfl ?_
                refine lv_goto (tgt := 126) hx hb dX11_rightLine_122 (by decide) ?_
                refine lv_iadd hx hb dX11_rightLine_126 ?_
                refine lv_istore_n (lv' := [(1, .int (x2 + 1)), (0, .ref (adr G 30)), (2, .int 1), (3, .int (bI (Rf_isLetter v7 M4)))]) hx hb dX11_rightLine_127 rfl hl (by decide) rfl (fun ls hl => ?_)
                refine lv_goto (tgt := 9) hx hb dX11_rightLine_128 (by decide) ?_
                exact ih (x2 + 1) true M25 _ h  _ _ ls hP hS (lv_sub hl [1, 0, 2] rfl) kk
              refine lv_if_eq (tgt := 112) hx hb dX11_rightLine_100 (by decide) (fun c24 => ?_) (fun c24 => ?_)
              · refine lv_iconst (v := 0) hx hb dX11_rightLine_112 rfl ?_
                exact J28 _ _ ls 0 (by rw [if_neg (bI_0 c24)] <;> rfl) hP hS (lv_sub hl [2, 3, 0, 1] rfl)
              · refine lv_aload_n hx hb dX11_rightLine_103 rfl (lv_at hl 2 rfl) ?_
                refine hy_get (T := (Mc, M4, Mo)) (o := 30) (k := 31) (v := .int (M4.1 30 31)) hx hb hown hts hX hP (by decide) rfl rfl inX11g (by decide) q_1223 rfl dX11_rightLine_104 ?_
                refine lv_iconst (v := 1) hx hb dX11_rightLine_107 rfl ?_
                refine lv_iadd hx hb dX11_rightLine_108 ?_
                refine lv_goto (tgt := 113) hx hb dX11_rightLine_109 (by decide) ?_
                exact J28 _ _ ls ((M4.1 30 31) + 1) (by rw [if_pos (bI_1 c24)] <;> rfl) hP hS (lv_sub hl [2, 3, 0, 1] rfl)
            · rw [if_neg c21] at h
              refine lv_aload_n hx hb dX11_rightLine_70 rfl (lv_at hl 1 rfl) ?_
              refine hy_get (T := (Mc, M4, Mo)) (o := 30) (k := 20) (v := .ref (adr G 42)) hx hb hown hts hX hP (by decide) rfl rfl inX11g (by decide) q_1212 rfl dX11_rightLine_71 ?_
              refine lv_iload_n hx hb dX11_rightLine_74 rfl (lv_at hl 2 rfl) ?_
              obtain ⟨v32, hv32, h⟩ := hy_bind h
              obtain ⟨nv32, hv32⟩ := ldE_some hv32
              refine hy_iald (T := (Mc, M4, Mo)) hx hb hX hP 42 60 (M4.1 42) (by decide) rfl nv32 dX11_rightLine_75 ?_
              rw [hv32]
              refine lv_bipush (v := 45) hx hb dX11_rightLine_76 rfl ?_
              have J40 : ∀ (H : Heap) (locs : List Loc) (ls : Array Slot) (u1 : Int32), u1 = (bI (decide (v32 = 45))) → va_P G.1 vwCl (wld G (Mc, M4, Mo)) H → va_S (hyA G) s.heap H locs → lv_has ls 4 [(0, .ref (adr G 30)), (1, .int x2), (2, .int (bI x3)), (3, .int (bI (Rf_isLetter v7 M4)))] → W p l e { frames := 2, cells := 0, slots := 6 * 0, locals := 42 } s m ([.ref (adr G 30)] : List Value).toArray below meth c H locs 0 0 (vx_MQ below (hyQ G (.inr (some (.int res.1)), (Mc, res.2, Mo))) (hyXQ G (.inr (some (.int res.1)), (Mc, res.2, Mo))) ([.ref (adr G 30)] : List Value).toArray s 0 (6 * 0) (hyA G)) (F0 m 86 ls [.int u1]) := by
                intro H locs ls u1 eu1 hP hS hl
                subst eu1
                refine lv_istore_n (lv' := [(2, .int (bI (decide (v32 = 45)))), (0, .ref (adr G 30)), (1, .int x2), (3, .int (bI (Rf_isLetter v7 M4)))]) hx hb dX11_rightLine_86 rfl hl (by decide) rfl (fun ls hl => ?_)
                refine lv_aload_n hx hb dX11_rightLine_87 rfl (lv_at hl 1 rfl) ?_
                refine lv_iload_n hx hb dX11_rightLine_88 rfl (lv_at hl 0 rfl) ?_
                have J39 : ∀ (H : Heap) (locs : List Loc) (ls : Array Slot) (u1 : Int32), u1 = (if (decide (v32 = 45)) then (if (Rf_isLetter v7 M4) then ((M4.1 30 31) + 1) else 0) else (M4.1 30 31)) → va_P G.1 vwCl (wld G (Mc, M4, Mo)) H → va_S (hyA G) s.heap H locs → lv_has ls 4 [(0, .ref (adr G 30)), (1, .int x2), (2, .int (bI (decide (v32 = 45)))), (3, .int (bI (Rf_isLetter v7 M4)))] → W p l e { frames := 2, cells := 0, slots := 6 * 0, locals := 42 } s m ([.ref (adr G 30)] : List Value).toArray below meth c H locs 0 0 (vx_MQ below (hyQ G (.inr (some (.int res.1)), (Mc, res.2, Mo))) (hyXQ G (.inr (some (.int res.1)), (Mc, res.2, Mo))) ([.ref (adr G 30)] : List Value).toArray s 0 (6 * 0) (hyA G)) (F0 m 113 ls [.int u1, .ref (adr G 30)]) := by
                  intro H locs ls u1 eu1 hP hS hl
                  subst eu1
                  refine hy_putI (ty := .int) (T := (Mc, M4, Mo)) (T2 := (Mc, (wI M4 30 31 (if (decide (v32 = 45)) then (if (Rf_isLetter v7 M4) then ((M4.1 30 31) + 1) else 0) else (M4.1 30 31))), Mo)) (o := 30) (k := 31) hx hb hown hts hX hP hS (by decide) rfl rfl rfl rfl inX11g tyX11_ok nmX11 (by decide) q_1223 rfl rfl rfl rfl (Nat.le_of_ble_eq_true rfl) dX11_rightLine_113 (fun H locs hP hS => ?_)
                  obtain ⟨M36, hM36, h⟩ := hy_bind h
                  rw [Option.some.inj hM36] at hP
                  refine lv_iload_n hx hb dX11_rightLine_116 rfl (lv_at hl 1 rfl) ?_
                  refine lv_iload_n hx hb dX11_rightLine_117 rfl (lv_at hl 2 rfl) ?_
                  have J38 : ∀ (H : Heap) (locs : List Loc) (ls : Array Slot) (u1 : Int32), u1 = (bI (decide (v32 = 45))) → va_P G.1 vwCl (wld G (Mc, M36, Mo)) H → va_S (hyA G) s.heap H locs → lv_has ls 4 [(0, .ref (adr G 30)), (1, .int x2), (2, .int (bI (decide (v32 = 45)))), (3, .int (bI (Rf_isLetter v7 M4)))] → W p l e { frames := 2, cells := 0, slots := 6 * 0, locals := 42 } s m ([.ref (adr G 30)] : List Value).toArray below meth c H locs 0 0 (vx_MQ below (hyQ G (.inr (some (.int res.1)), (Mc, res.2, Mo))) (hyXQ G (.inr (some (.int res.1)), (Mc, res.2, Mo))) ([.ref (adr G 30)] : List Value).toArray s 0 (6 * 0) (hyA G)) (F0 m 126 ls [.int u1, .int x2]) := by
                    intro H locs ls u1 eu1 hP hS hl
                    subst eu1
                    refine lv_iadd hx hb dX11_rightLine_126 ?_
                    refine lv_istore_n (lv' := [(1, .int (x2 + (bI (decide (v32 = 45))))), (0, .ref (adr G 30)), (2, .int (bI (decide (v32 = 45)))), (3, .int (bI (Rf_isLetter v7 M4)))]) hx hb dX11_rightLine_127 rfl hl (by decide) rfl (fun ls hl => ?_)
                    refine lv_goto (tgt := 9) hx hb dX11_rightLine_128 (by decide) ?_
                    exact ih (x2 + (bI (decide (v32 = 45)))) (decide (v32 = 45)) M36 _ h  _ _ ls hP hS (lv_sub hl [1, 0, 2] rfl) kk
                  refine lv_if_eq (tgt := 125) hx hb dX11_rightLine_118 (by decide) (fun c37 => ?_) (fun c37 => ?_)
                  · refine lv_iconst (v := 0) hx hb dX11_rightLine_125 rfl ?_
                    exact J38 _ _ ls 0 (by rw [(bI_z c37)] <;> rfl) hP hS (lv_sub hl [0, 1, 2, 3] rfl)
                  · refine lv_iconst (v := 1) hx hb dX11_rightLine_121 rfl ?_
                    refine lv_goto (tgt := 126) hx hb dX11_rightLine_122 (by decide) ?_
                    exact J38 _ _ ls 1 (by rw [(bI_1 c37)] <;> rfl) hP hS (lv_sub hl [0, 1, 2, 3] rfl)
                refine lv_if_ne (tgt := 99) hx hb dX11_rightLine_89 (by decide) (fun c34 => ?_) (fun c34 => ?_)
                · refine lv_iload_n hx hb dX11_rightLine_99 rfl (lv_at hl 3 rfl) ?_
                  refine lv_if_eq (tgt := 112) hx hb dX11_rightLine_100 (by decide) (fun c35 => ?_) (fun c35 => ?_)
                  · refine lv_iconst (v := 0) hx hb dX11_rightLine_112 rfl ?_
                    exact J39 _ _ ls 0 (by rw [if_pos (bI_1 c34), if_neg (bI_0 c35)] <;> rfl) hP hS (lv_sub hl [1, 2, 0, 3] rfl)
                  · refine lv_aload_n hx hb dX11_rightLine_103 rfl (lv_at hl 1 rfl) ?_
                    refine hy_get (T := (Mc, M4, Mo)) (o := 30) (k := 31) (v := .int (M4.1 30 31)) hx hb hown hts hX hP (by decide) rfl rfl inX11g (by decide) q_1223 rfl dX11_rightLine_104 ?_
                    refine lv_iconst (v := 1) hx hb dX11_rightLine_107 rfl ?_
                    refine lv_iadd hx hb dX11_rightLine_108 ?_
                    refine lv_goto (tgt := 113) hx hb dX11_rightLine_109 (by decide) ?_
                    exact J39 _ _ ls ((M4.1 30 31) + 1) (by rw [if_pos (bI_1 c34), if_pos (bI_1 c35)] <;> rfl) hP hS (lv_sub hl [1, 2, 0, 3] rfl)
                · refine lv_aload_n hx hb dX11_rightLine_92 rfl (lv_at hl 1 rfl) ?_
                  refine hy_get (T := (Mc, M4, Mo)) (o := 30) (k := 31) (v := .int (M4.1 30 31)) hx hb hown hts hX hP (by decide) rfl rfl inX11g (by decide) q_1223 rfl dX11_rightLine_93 ?_
                  refine lv_goto (tgt := 113) hx hb dX11_rightLine_96 (by decide) ?_
                  exact J39 _ _ ls (M4.1 30 31) (by rw [if_neg (bI_0 c34)] <;> rfl) hP hS (lv_sub hl [1, 2, 0, 3] rfl)
              refine lv_icmp_ne (tgt := 85) hx hb dX11_rightLine_78 (by decide) (fun c33 => ?_) (fun c33 => ?_)
              · refine lv_iconst (v := 0) hx hb dX11_rightLine_85 rfl ?_
                exact J40 _ _ ls 0 (by rw [decide_eq_false c33] <;> rfl) hP hS (lv_sub hl [1, 2, 3, 0] rfl)
              · refine lv_iconst (v := 1) hx hb dX11_rightLine_81 rfl ?_
                refine lv_goto (tgt := 86) hx hb dX11_rightLine_82 (by decide) ?_
                exact J40 _ _ ls 1 (by rw [decide_eq_true c33] <;> rfl) hP hS (lv_sub hl [1, 2, 3, 0] rfl)
        · rw [if_pos (bI_1 c8)] at h
          refine lv_aload_n hx hb dX11_rightLine_35 rfl (lv_at hl 1 rfl) ?_
          refine hy_get (T := (Mc, M4, Mo)) (o := 30) (k := 31) (v := .int (M4.1 30 31)) hx hb hown hts hX hP (by decide) rfl rfl inX11g (by decide) q_1223 rfl dX11_rightLine_36 ?_
          refine lv_bipush (v := 12) hx hb dX11_rightLine_39 rfl ?_
          have J48 : ∀ (H : Heap) (locs : List Loc) (ls : Array Slot) (u1 : Int32), u1 = (bI (!decide (12 ≤ (M4.1 30 31)))) → va_P G.1 vwCl (wld G (Mc, M4, Mo)) H → va_S (hyA G) s.heap H locs → lv_has ls 4 [(0, .ref (adr G 30)), (1, .int x2), (2, .int (bI x3)), (3, .int (bI (Rf_isLetter v7 M4)))] → W p l e { frames := 2, cells := 0, slots := 6 * 0, locals := 42 } s m ([.ref (adr G 30)] : List Value).toArray below meth c H locs 0 0 (vx_MQ below (hyQ G (.inr (some (.int res.1)), (Mc, res.2, Mo))) (hyXQ G (.inr (some (.int res.1)), (Mc, res.2, Mo))) ([.ref (adr G 30)] : List Value).toArray s 0 (6 * 0) (hyA G)) (F0 m 86 ls [.int u1]) := by
            intro H locs ls u1 eu1 hP hS hl
            subst eu1
            refine lv_istore_n (lv' := [(2, .int (bI (!decide (12 ≤ (M4.1 30 31))))), (0, .ref (adr G 30)), (1, .int x2), (3, .int (bI (Rf_isLetter v7 M4)))]) hx hb dX11_rightLine_86 rfl hl (by decide) rfl (fun ls hl => ?_)
            refine lv_aload_n hx hb dX11_rightLine_87 rfl (lv_at hl 1 rfl) ?_
            refine lv_iload_n hx hb dX11_rightLine_88 rfl (lv_at hl 0 rfl) ?_
            have J47 : ∀ (H : Heap) (locs : List Loc) (ls : Array Slot) (u1 : Int32), u1 = (if (!decide (12 ≤ (M4.1 30 31))) then (if (Rf_isLetter v7 M4) then ((M4.1 30 31) + 1) else 0) else (M4.1 30 31)) → va_P G.1 vwCl (wld G (Mc, M4, Mo)) H → va_S (hyA G) s.heap H locs → lv_has ls 4 [(0, .ref (adr G 30)), (1, .int x2), (2, .int (bI (!decide (12 ≤ (M4.1 30 31))))), (3, .int (bI (Rf_isLetter v7 M4)))] → W p l e { frames := 2, cells := 0, slots := 6 * 0, locals := 42 } s m ([.ref (adr G 30)] : List Value).toArray below meth c H locs 0 0 (vx_MQ below (hyQ G (.inr (some (.int res.1)), (Mc, res.2, Mo))) (hyXQ G (.inr (some (.int res.1)), (Mc, res.2, Mo))) ([.ref (adr G 30)] : List Value).toArray s 0 (6 * 0) (hyA G)) (F0 m 113 ls [.int u1, .ref (adr G 30)]) := by
              intro H locs ls u1 eu1 hP hS hl
              subst eu1
              refine hy_putI (ty := .int) (T := (Mc, M4, Mo)) (T2 := (Mc, (wI M4 30 31 (if (!decide (12 ≤ (M4.1 30 31))) then (if (Rf_isLetter v7 M4) then ((M4.1 30 31) + 1) else 0) else (M4.1 30 31))), Mo)) (o := 30) (k := 31) hx hb hown hts hX hP hS (by decide) rfl rfl rfl rfl inX11g tyX11_ok nmX11 (by decide) q_1223 rfl rfl rfl rfl (Nat.le_of_ble_eq_true rfl) dX11_rightLine_113 (fun H locs hP hS => ?_)
              obtain ⟨M44, hM44, h⟩ := hy_bind h
              rw [Option.some.inj hM44] at hP
              refine lv_iload_n hx hb dX11_rightLine_116 rfl (lv_at hl 1 rfl) ?_
              refine lv_iload_n hx hb dX11_rightLine_117 rfl (lv_at hl 2 rfl) ?_
              have J46 : ∀ (H : Heap) (locs : List Loc) (ls : Array Slot) (u1 : Int32), u1 = (bI (!decide (12 ≤ (M4.1 30 31)))) → va_P G.1 vwCl (wld G (Mc, M44, Mo)) H → va_S (hyA G) s.heap H locs → lv_has ls 4 [(0, .ref (adr G 30)), (1, .int x2), (2, .int (bI (!decide (12 ≤ (M4.1 30 31))))), (3, .int (bI (Rf_isLetter v7 M4)))] → W p l e { frames := 2, cells := 0, slots := 6 * 0, locals := 42 } s m ([.ref (adr G 30)] : List Value).toArray below meth c H locs 0 0 (vx_MQ below (hyQ G (.inr (some (.int res.1)), (Mc, res.2, Mo))) (hyXQ G (.inr (some (.int res.1)), (Mc, res.2, Mo))) ([.ref (adr G 30)] : List Value).toArray s 0 (6 * 0) (hyA G)) (F0 m 126 ls [.int u1, .int x2]) := by
                intro H locs ls u1 eu1 hP hS hl
                subst eu1
                refine lv_iadd hx hb dX11_rightLine_126 ?_
                refine lv_istore_n (lv' := [(1, .int (x2 + (bI (!decide (12 ≤ (M4.1 30 31)))))), (0, .ref (adr G 30)), (2, .int (bI (!decide (12 ≤ (M4.1 30 31))))), (3, .int (bI (Rf_isLetter v7 M4)))]) hx hb dX11_rightLine_127 rfl hl (by decide) rfl (fun ls hl => ?_)
                refine lv_goto (tgt := 9) hx hb dX11_rightLine_128 (by decide) ?_
                exact ih (x2 + (bI (!decide (12 ≤ (M4.1 30 31))))) (!decide (12 ≤ (M4.1 30 31))) M44 _ h  _ _ ls hP hS (lv_sub hl [1, 0, 2] rfl) kk
              refine lv_if_eq (tgt := 125) hx hb dX11_rightLine_118 (by decide) (fun c45 => ?_) (fun c45 => ?_)
              · refine lv_iconst (v := 0) hx hb dX11_rightLine_125 rfl ?_
                exact J46 _ _ ls 0 (by rw [(bI_z c45)] <;> rfl) hP hS (lv_sub hl [0, 1, 2, 3] rfl)
              · refine lv_iconst (v := 1) hx hb dX11_rightLine_121 rfl ?_
                refine lv_goto (tgt := 126) hx hb dX11_rightLine_122 (by decide) ?_
                exact J46 _ _ ls 1 (by rw [(bI_1 c45)] <;> rfl) hP hS (lv_sub hl [0, 1, 2, 3] rfl)
            refine lv_if_ne (tgt := 99) hx hb dX11_rightLine_89 (by decide) (fun c42 => ?_) (fun c42 => ?_)
            · refine lv_iload_n hx hb dX11_rightLine_99 rfl (lv_at hl 3 rfl) ?_
              refine lv_if_eq (tgt := 112) hx hb dX11_rightLine_100 (by decide) (fun c43 => ?_) (fun c43 => ?_)
              · refine lv_iconst (v := 0) hx hb dX11_rightLine_112 rfl ?_
                exact J47 _ _ ls 0 (by rw [if_pos (bI_1 c42), if_neg (bI_0 c43)] <;> rfl) hP hS (lv_sub hl [1, 2, 0, 3] rfl)
              · refine lv_aload_n hx hb dX11_rightLine_103 rfl (lv_at hl 1 rfl) ?_
                refine hy_get (T := (Mc, M4, Mo)) (o := 30) (k := 31) (v := .int (M4.1 30 31)) hx hb hown hts hX hP (by decide) rfl rfl inX11g (by decide) q_1223 rfl dX11_rightLine_104 ?_
                refine lv_iconst (v := 1) hx hb dX11_rightLine_107 rfl ?_
                refine lv_iadd hx hb dX11_rightLine_108 ?_
                refine lv_goto (tgt := 113) hx hb dX11_rightLine_109 (by decide) ?_
                exact J47 _ _ ls ((M4.1 30 31) + 1) (by rw [if_pos (bI_1 c42), if_pos (bI_1 c43)] <;> rfl) hP hS (lv_sub hl [1, 2, 0, 3] rfl)
            · refine lv_aload_n hx hb dX11_rightLine_92 rfl (lv_at hl 1 rfl) ?_
              refine hy_get (T := (Mc, M4, Mo)) (o := 30) (k := 31) (v := .int (M4.1 30 31)) hx hb hown hts hX hP (by decide) rfl rfl inX11g (by decide) q_1223 rfl dX11_rightLine_93 ?_
              refine lv_goto (tgt := 113) hx hb dX11_rightLine_96 (by decide) ?_
              exact J47 _ _ ls (M4.1 30 31) (by rw [if_neg (bI_0 c42)] <;> rfl) hP hS (lv_sub hl [1, 2, 0, 3] rfl)
          refine lv_icmp_ge (tgt := 48) hx hb dX11_rightLine_41 (by decide) (fun c41 => ?_) (fun c41 => ?_)
          · refine lv_iconst (v := 0) hx hb dX11_rightLine_48 rfl ?_
            refine lv_goto (tgt := 86) hx hb dX11_rightLine_49 (by decide) ?_
            exact J48 _ _ ls 0 (by rw [decide_eq_true c41] <;> rfl) hP hS (lv_sub hl [1, 2, 3, 0] rfl)
          · refine lv_iconst (v := 1) hx hb dX11_rightLine_44 rfl ?_
            refine lv_goto (tgt := 86) hx hb dX11_rightLine_45 (by decide) ?_
            exact J48 _ _ ls 1 (by rw [decide_eq_false c41] <;> rfl) hP hS (lv_sub hl [1, 2, 3, 0] rfl)
      have K50 : ∀ (H : Heap) (locs : List Loc), ¬ (if (M4.1 30 19) ≤ x2 then false else x3) = true → va_P G.1 vwCl (wld G (Mc, M4, Mo)) H → va_S (hyA G) s.heap H locs → W p l e { frames := 2, cells := 0, slots := 6 * 0, locals := 42 } s m ([.ref (adr G 30)] : List Value).toArray below meth c H locs 0 0 (vx_MQ below (hyQ G (.inr (some (.int res.1)), (Mc, res.2, Mo))) (hyXQ G (.inr (some (.int res.1)), (Mc, res.2, Mo))) ([.ref (adr G 30)] : List Value).toArray s 0 (6 * 0) (hyA G)) (F0 m 131 ls []) := by
        intro H locs cb hP hS
        rw [if_neg cb] at h
        exact kk x2 x3 M4 (Option.some.inj h).symm _ _ ls hP hS (lv_sub hl [0, 1, 2] rfl)
      refine lv_icmp_ge (tgt := 131) hx hb dX11_rightLine_14 (by decide) (fun c5 => ?_) (fun c5 => ?_)
      · exact K50 _ _ (by rw [if_pos c5] <;> first | rfl | decide) hP hS
      · refine lv_iload_n hx hb dX11_rightLine_17 rfl (lv_at hl 2 rfl) ?_
        refine lv_if_eq (tgt := 131) hx hb dX11_rightLine_18 (by decide) (fun c6 => ?_) (fun c6 => ?_)
        · exact K50 _ _ (by rw [if_neg c5, (bI_z c6)] <;> first | rfl | decide) hP hS
        · exact K49 _ _ (by rw [if_neg c5, (bI_1 c6)] <;> first | rfl | decide) hP hS
  obtain ⟨q52, hq52, h⟩ := hy_bind h
  refine L51 hyFu 0 true M1 q52 hq52 _ _ ls hP hS (lv_sub hl [2, 1, 0] rfl) ?_
  intro y2 y3 NM4 e9 H locs ls hP hS hl
  subst e9
  try dsimp only at h
  refine lv_iload_n hx hb dX11_rightLine_131 rfl (lv_at hl 1 rfl) ?_
  exact hy_iret (T := (Mc, NM4, Mo)) hx hb hr hlocks hP hS (Nat.zero_le _) (Nat.zero_le _) (by rw [← (Option.some.inj h)] <;> rfl) dX11_rightLine_132
set_option maxHeartbeats 1000000 in
set_option maxRecDepth 100000 in
theorem c_Rf_takesDigit {l : Launch} {G : hyG} (Mc Mo : hyM) (a1 : Int32) (M : hyM) {res : (Bool × hyM)} (h : Rf_takesDigit a1 M = some res) : hyC l yX11_takesDigit (.code yX11_takesDigit cX11_takesDigit 5 (some .boolean)) 1 22 (0) G [.ref (adr G 30), .int a1] (Mc, M, Mo) (.inr (some (.int (bI res.1))), (Mc, res.2, Mo)) := by
  refine hy_of (by decide +kernel) (Nat.le_of_ble_eq_true rfl) ?_
  intro p e s m below meth c hx hb hml hown hts hr hlocks ht hX hP hS ls hl
  have hl : lv_has ls 5 [(0, .ref (adr G 30)), (1, .int a1)] := hl
  rw [Rf_takesDigit] at h
  refine lv_iload_n hx hb dX11_takesDigit_0 rfl (lv_at hl 1 rfl) ?_
  refine lv_bipush (v := 48) hx hb dX11_takesDigit_1 rfl ?_
  refine lv_isub hx hb dX11_takesDigit_3 ?_
  refine lv_istore_n (lv' := [(2, .int (a1 - 48)), (0, .ref (adr G 30)), (1, .int a1)]) hx hb dX11_takesDigit_4 rfl hl (by decide) rfl (fun ls hl => ?_)
  refine lv_iload_n hx hb dX11_takesDigit_5 rfl (lv_at hl 0 rfl) ?_
  refine lv_iconst (v := 0) hx hb dX11_takesDigit_6 rfl ?_
  refine lv_bipush (v := 9) hx hb dX11_takesDigit_7 rfl ?_
  refine hy_ret (hy_rS0 (T := (Mc, M, Mo)) (v := some (.int (bI (Rf_within (a1 - 48) 0 9 M)))) (T2 := (Mc, M, Mo)) (As := [.int (a1 - 48), .int 0, .int 9]) (rest := []) (n := 0) hx hb hml hown hts hX hP hS hl (c_Rf_within Mc Mo (a1 - 48) 0 9 M rfl) m_Rf_within q_1310 rfl rfl (Nat.le_of_ble_eq_true rfl) dX11_takesDigit_9 ⟨Nat.le_of_ble_eq_true rfl, Nat.le_of_ble_eq_true rfl⟩ ⟨Nat.zero_le _, Nat.zero_le _⟩) hS (fun H locs hP hS => ?_)
  have J36 : ∀ (H : Heap) (locs : List Loc) (ls : Array Slot) (u1 : Int32), u1 = (bI (if (Rf_within (a1 - 48) 0 9 M) then (decide ((M.1 30 33) = 0)) else false)) → va_P G.1 vwCl (wld G (Mc, M, Mo)) H → va_S (hyA G) s.heap H locs → lv_has ls 5 [(0, .ref (adr G 30)), (1, .int a1), (2, .int (a1 - 48))] → W p l e { frames := 1, cells := 0, slots := 6 * 0, locals := 22 } s m ([.ref (adr G 30), .int a1] : List Value).toArray below meth c H locs 0 0 (vx_MQ below (hyQ G (.inr (some (.int (bI res.1))), (Mc, res.2, Mo))) (hyXQ G (.inr (some (.int (bI res.1))), (Mc, res.2, Mo))) ([.ref (adr G 30), .int a1] : List Value).toArray s 0 (6 * 0) (hyA G)) (F0 m 27 ls [.int u1]) := by
    intro H locs ls u1 eu1 hP hS hl
    subst eu1
    refine lv_istore_n (lv' := [(3, .int (bI (if (Rf_within (a1 - 48) 0 9 M) then (decide ((M.1 30 33) = 0)) else false))), (0, .ref (adr G 30)), (1, .int a1), (2, .int (a1 - 48))]) hx hb dX11_takesDigit_27 rfl hl (by decide) rfl (fun ls hl => ?_)
    refine lv_iload_n hx hb dX11_takesDigit_28 rfl (lv_at hl 0 rfl) ?_
    have K34 : ∀ (H : Heap) (locs : List Loc), (if (if (Rf_within (a1 - 48) 0 9 M) then (decide ((M.1 30 33) = 0)) else false) then (decide ((M.1 30 31) = 0)) else false) = true → va_P G.1 vwCl (wld G (Mc, M, Mo)) H → va_S (hyA G) s.heap H locs → W p l e { frames := 1, cells := 0, slots := 6 * 0, locals := 22 } s m ([.ref (adr G 30), .int a1] : List Value).toArray below meth c H locs 0 0 (vx_MQ below (hyQ G (.inr (some (.int (bI res.1))), (Mc, res.2, Mo))) (hyXQ G (.inr (some (.int (bI res.1))), (Mc, res.2, Mo))) ([.ref (adr G 30), .int a1] : List Value).toArray s 0 (6 * 0) (hyA G)) (F0 m 39 ls []) := by
      intro H locs cb hP hS
      rw [if_pos cb] at h
      refine lv_iload_n hx hb dX11_takesDigit_39 rfl (lv_at hl 3 rfl) ?_
      have J16 : ∀ (H : Heap) (locs : List Loc) (ls : Array Slot) (u1 : Int32), u1 = (bI (if (a1 - 48) ≤ 0 then false else (!decide (24 ≤ (M.1 30 32))))) → va_P G.1 vwCl (wld G (Mc, M, Mo)) H → va_S (hyA G) s.heap H locs → lv_has ls 5 [(0, .ref (adr G 30)), (1, .int a1), (2, .int (a1 - 48)), (3, .int (bI (if (Rf_within (a1 - 48) 0 9 M) then (decide ((M.1 30 33) = 0)) else false)))] → W p l e { frames := 1, cells := 0, slots := 6 * 0, locals := 22 } s m ([.ref (adr G 30), .int a1] : List Value).toArray below meth c H locs 0 0 (vx_MQ below (hyQ G (.inr (some (.int (bI res.1))), (Mc, res.2, Mo))) (hyXQ G (.inr (some (.int (bI res.1))), (Mc, res.2, Mo))) ([.ref (adr G 30), .int a1] : List Value).toArray s 0 (6 * 0) (hyA G)) (F0 m 57 ls [.int u1]) := by
        intro H locs ls u1 eu1 hP hS hl
        subst eu1
        refine lv_istore_n (lv' := [(3, .int (bI (if (a1 - 48) ≤ 0 then false else (!decide (24 ≤ (M.1 30 32)))))), (0, .ref (adr G 30)), (1, .int a1), (2, .int (a1 - 48))]) hx hb dX11_takesDigit_57 rfl hl (by decide) rfl (fun ls hl => ?_)
        refine lv_aload_n hx hb dX11_takesDigit_58 rfl (lv_at hl 1 rfl) ?_
        refine lv_dup hx hb dX11_takesDigit_59 rfl ?_
        refine hy_get (T := (Mc, M, Mo)) (o := 30) (k := 32) (v := .int (M.1 30 32)) hx hb hown hts hX hP (by decide) rfl rfl inX11g (by decide) q_1224 rfl dX11_takesDigit_60 ?_
        refine lv_iload_n hx hb dX11_takesDigit_63 rfl (lv_at hl 0 rfl) ?_
        have J15 : ∀ (H : Heap) (locs : List Loc) (ls : Array Slot) (u1 : Int32), u1 = (bI (if (a1 - 48) ≤ 0 then false else (!decide (24 ≤ (M.1 30 32))))) → va_P G.1 vwCl (wld G (Mc, M, Mo)) H → va_S (hyA G) s.heap H locs → lv_has ls 5 [(0, .ref (adr G 30)), (1, .int a1), (2, .int (a1 - 48)), (3, .int (bI (if (a1 - 48) ≤ 0 then false else (!decide (24 ≤ (M.1 30 32))))))] → W p l e { frames := 1, cells := 0, slots := 6 * 0, locals := 22 } s m ([.ref (adr G 30), .int a1] : List Value).toArray below meth c H locs 0 0 (vx_MQ below (hyQ G (.inr (some (.int (bI res.1))), (Mc, res.2, Mo))) (hyXQ G (.inr (some (.int (bI res.1))), (Mc, res.2, Mo))) ([.ref (adr G 30), .int a1] : List Value).toArray s 0 (6 * 0) (hyA G)) (F0 m 72 ls [.int u1, .int (M.1 30 32), .ref (adr G 30)]) := by
          intro H locs ls u1 eu1 hP hS hl
          subst eu1
          refine lv_iadd hx hb dX11_takesDigit_72 ?_
          refine hy_putI (ty := .int) (T := (Mc, M, Mo)) (T2 := (Mc, (wI M 30 32 ((M.1 30 32) + (bI (if (a1 - 48) ≤ 0 then false else (!decide (24 ≤ (M.1 30 32))))))), Mo)) (o := 30) (k := 32) hx hb hown hts hX hP hS (by decide) rfl rfl rfl rfl inX11g tyX11_ok nmX11 (by decide) q_1224 rfl rfl rfl rfl (Nat.le_of_ble_eq_true rfl) dX11_takesDigit_73 (fun H locs hP hS => ?_)
          obtain ⟨M8, hM8, h⟩ := hy_bind h
          rw [Option.some.inj hM8] at hP
          refine lv_aload_n hx hb dX11_takesDigit_76 rfl (lv_at hl 0 rfl) ?_
          refine hy_get (T := (Mc, M8, Mo)) (o := 30) (k := 34) (v := .ref (adr G 50)) hx hb hown hts hX hP (by decide) rfl rfl inX11g (by decide) q_1226 rfl dX11_takesDigit_77 ?_
          refine lv_aload_n hx hb dX11_takesDigit_80 rfl (lv_at hl 0 rfl) ?_
          refine hy_get (T := (Mc, M8, Mo)) (o := 30) (k := 32) (v := .int (M8.1 30 32)) hx hb hown hts hX hP (by decide) rfl rfl inX11g (by decide) q_1224 rfl dX11_takesDigit_81 ?_
          refine lv_iload_n hx hb dX11_takesDigit_84 rfl (lv_at hl 3 rfl) ?_
          have J14 : ∀ (H : Heap) (locs : List Loc) (ls : Array Slot) (u1 : Int32), u1 = (bI (if (a1 - 48) ≤ 0 then false else (!decide (24 ≤ (M.1 30 32))))) → va_P G.1 vwCl (wld G (Mc, M8, Mo)) H → va_S (hyA G) s.heap H locs → lv_has ls 5 [(0, .ref (adr G 30)), (1, .int a1), (2, .int (a1 - 48)), (3, .int (bI (if (a1 - 48) ≤ 0 then false else (!decide (24 ≤ (M.1 30 32))))))] → W p l e { frames := 1, cells := 0, slots := 6 * 0, locals := 22 } s m ([.ref (adr G 30), .int a1] : List Value).toArray below meth c H locs 0 0 (vx_MQ below (hyQ G (.inr (some (.int (bI res.1))), (Mc, res.2, Mo))) (hyXQ G (.inr (some (.int (bI res.1))), (Mc, res.2, Mo))) ([.ref (adr G 30), .int a1] : List Value).toArray s 0 (6 * 0) (hyA G)) (F0 m 93 ls [.int u1, .int (M8.1 30 32), .ref (adr G 50)]) := by
            intro H locs ls u1 eu1 hP hS hl
            subst eu1
            refine lv_isub hx hb dX11_takesDigit_93 ?_
            refine lv_iload_n hx hb dX11_takesDigit_94 rfl (lv_at hl 2 rfl) ?_
            obtain ⟨M10, hM10, h⟩ := hy_bind h
            obtain ⟨nM10, hM10⟩ := stE_some hM10
            refine hy_iast (T := (Mc, M8, Mo)) (T2 := (Mc, (wI M8 50 ((M8.1 30 32) - (bI (if (a1 - 48) ≤ 0 then false else (!decide (24 ≤ (M.1 30 32)))))).toNatClampNeg (a1 - 48)), Mo)) hx hb hX hP hS 50 48 (by decide) (fun _ _ => rfl) nM10 rfl dX11_takesDigit_95 (fun H locs hP hS => ?_)
            rw [hM10] at hP
            refine lv_goto (tgt := 165) hx hb dX11_takesDigit_96 (by decide) ?_
            refine lv_aload_n hx hb dX11_takesDigit_165 rfl (lv_at hl 0 rfl) ?_
            refine lv_dup hx hb dX11_takesDigit_166 rfl ?_
            refine hy_get (T := (Mc, M10, Mo)) (o := 30) (k := 31) (v := .int (M10.1 30 31)) hx hb hown hts hX hP (by decide) rfl rfl inX11g (by decide) q_1223 rfl dX11_takesDigit_167 ?_
            refine lv_iload_n hx hb dX11_takesDigit_170 rfl (lv_at hl 3 rfl) ?_
            have J13 : ∀ (H : Heap) (locs : List Loc) (ls : Array Slot) (u1 : Int32), u1 = (bI (if (a1 - 48) ≤ 0 then false else (!decide (24 ≤ (M.1 30 32))))) → va_P G.1 vwCl (wld G (Mc, M10, Mo)) H → va_S (hyA G) s.heap H locs → lv_has ls 5 [(0, .ref (adr G 30)), (1, .int a1), (2, .int (a1 - 48)), (3, .int (bI (if (a1 - 48) ≤ 0 then false else (!decide (24 ≤ (M.1 30 32))))))] → W p l e { frames := 1, cells := 0, slots := 6 * 0, locals := 22 } s m ([.ref (adr G 30), .int a1] : List Value).toArray below meth c H locs 0 0 (vx_MQ below (hyQ G (.inr (some (.int (bI res.1))), (Mc, res.2, Mo))) (hyXQ G (.inr (some (.int (bI res.1))), (Mc, res.2, Mo))) ([.ref (adr G 30), .int a1] : List Value).toArray s 0 (6 * 0) (hyA G)) (F0 m 179 ls [.int u1, .int (M10.1 30 31), .ref (adr G 30)]) := by
              intro H locs ls u1 eu1 hP hS hl
              subst eu1
              refine lv_iadd hx hb dX11_takesDigit_179 ?_
              refine hy_putI (ty := .int) (T := (Mc, M10, Mo)) (T2 := (Mc, (wI M10 30 31 ((M10.1 30 31) + (bI (if (a1 - 48) ≤ 0 then false else (!decide (24 ≤ (M.1 30 32))))))), Mo)) (o := 30) (k := 31) hx hb hown hts hX hP hS (by decide) rfl rfl rfl rfl inX11g tyX11_ok nmX11 (by decide) q_1223 rfl rfl rfl rfl (Nat.le_of_ble_eq_true rfl) dX11_takesDigit_180 (fun H locs hP hS => ?_)
              obtain ⟨M12, hM12, h⟩ := hy_bind h
              rw [Option.some.inj hM12] at hP
              refine lv_iload_n hx hb dX11_takesDigit_183 rfl (lv_at hl 3 rfl) ?_
              exact hy_zret (T := (Mc, M12, Mo)) hx hb hr hlocks hP hS (Nat.zero_le _) (Nat.zero_le _) (bI_nar (if (a1 - 48) ≤ 0 then false else (!decide (24 ≤ (M.1 30 32))))) (by rw [← (Option.some.inj h)] <;> rfl) dX11_takesDigit_184
            refine lv_if_eq (tgt := 178) hx hb dX11_takesDigit_171 (by decide) (fun c11 => ?_) (fun c11 => ?_)
            · refine lv_iconst (v := 0) hx hb dX11_takesDigit_178 rfl ?_
              exact J13 _ _ ls 0 (by rw [(bI_z c11)] <;> rfl) hP hS (lv_sub hl [0, 1, 2, 3] rfl)
            · refine lv_iconst (v := 1) hx hb dX11_takesDigit_174 rfl ?_
              refine lv_goto (tgt := 179) hx hb dX11_takesDigit_175 (by decide) ?_
              exact J13 _ _ ls 1 (by rw [(bI_1 c11)] <;> rfl) hP hS (lv_sub hl [0, 1, 2, 3] rfl)
          refine lv_if_eq (tgt := 92) hx hb dX11_takesDigit_85 (by decide) (fun c9 => ?_) (fun c9 => ?_)
          · refine lv_iconst (v := 0) hx hb dX11_takesDigit_92 rfl ?_
            exact J14 _ _ ls 0 (by rw [(bI_z c9)] <;> rfl) hP hS (lv_sub hl [0, 1, 2, 3] rfl)
          · refine lv_iconst (v := 1) hx hb dX11_takesDigit_88 rfl ?_
            refine lv_goto (tgt := 93) hx hb dX11_takesDigit_89 (by decide) ?_
            exact J14 _ _ ls 1 (by rw [(bI_1 c9)] <;> rfl) hP hS (lv_sub hl [0, 1, 2, 3] rfl)
        refine lv_if_eq (tgt := 71) hx hb dX11_takesDigit_64 (by decide) (fun c7 => ?_) (fun c7 => ?_)
        · refine lv_iconst (v := 0) hx hb dX11_takesDigit_71 rfl ?_
          exact J15 _ _ ls 0 (by rw [(bI_z c7)] <;> rfl) hP hS (lv_sub hl [1, 2, 3, 0] rfl)
        · refine lv_iconst (v := 1) hx hb dX11_takesDigit_67 rfl ?_
          refine lv_goto (tgt := 72) hx hb dX11_takesDigit_68 (by decide) ?_
          exact J15 _ _ ls 1 (by rw [(bI_1 c7)] <;> rfl) hP hS (lv_sub hl [1, 2, 3, 0] rfl)
      refine lv_if_le (tgt := 56) hx hb dX11_takesDigit_40 (by decide) (fun c5 => ?_) (fun c5 => ?_)
      · refine lv_iconst (v := 0) hx hb dX11_takesDigit_56 rfl ?_
        exact J16 _ _ ls 0 (by rw [if_pos c5] <;> rfl) hP hS (lv_sub hl [1, 2, 3, 0] rfl)
      · refine lv_aload_n hx hb dX11_takesDigit_43 rfl (lv_at hl 1 rfl) ?_
        refine hy_get (T := (Mc, M, Mo)) (o := 30) (k := 32) (v := .int (M.1 30 32)) hx hb hown hts hX hP (by decide) rfl rfl inX11g (by decide) q_1224 rfl dX11_takesDigit_44 ?_
        refine lv_bipush (v := 24) hx hb dX11_takesDigit_47 rfl ?_
        refine lv_icmp_ge (tgt := 56) hx hb dX11_takesDigit_49 (by decide) (fun c6 => ?_) (fun c6 => ?_)
        · refine lv_iconst (v := 0) hx hb dX11_takesDigit_56 rfl ?_
          exact J16 _ _ ls 0 (by rw [if_neg c5, decide_eq_true c6] <;> rfl) hP hS (lv_sub hl [1, 2, 3, 0] rfl)
        · refine lv_iconst (v := 1) hx hb dX11_takesDigit_52 rfl ?_
          refine lv_goto (tgt := 57) hx hb dX11_takesDigit_53 (by decide) ?_
          exact J16 _ _ ls 1 (by rw [if_neg c5, decide_eq_false c6] <;> rfl) hP hS (lv_sub hl [1, 2, 3, 0] rfl)
    have K35 : ∀ (H : Heap) (locs : List Loc), ¬ (if (if (Rf_within (a1 - 48) 0 9 M) then (decide ((M.1 30 33) = 0)) else false) then (decide ((M.1 30 31) = 0)) else false) = true → va_P G.1 vwCl (wld G (Mc, M, Mo)) H → va_S (hyA G) s.heap H locs → W p l e { frames := 1, cells := 0, slots := 6 * 0, locals := 22 } s m ([.ref (adr G 30), .int a1] : List Value).toArray below meth c H locs 0 0 (vx_MQ below (hyQ G (.inr (some (.int (bI res.1))), (Mc, res.2, Mo))) (hyXQ G (.inr (some (.int (bI res.1))), (Mc, res.2, Mo))) ([.ref (adr G 30), .int a1] : List Value).toArray s 0 (6 * 0) (hyA G)) (F0 m 99 ls []) := by
      intro H locs cb hP hS
      rw [if_neg cb] at h
      refine lv_iload_n hx hb dX11_takesDigit_99 rfl (lv_at hl 0 rfl) ?_
      refine lv_if_eq (tgt := 165) hx hb dX11_takesDigit_100 (by decide) (fun c17 => ?_) (fun c17 => ?_)
      · rw [if_neg (bI_0 c17)] at h
        refine lv_aload_n hx hb dX11_takesDigit_165 rfl (lv_at hl 1 rfl) ?_
        refine lv_dup hx hb dX11_takesDigit_166 rfl ?_
        refine hy_get (T := (Mc, M, Mo)) (o := 30) (k := 31) (v := .int (M.1 30 31)) hx hb hown hts hX hP (by decide) rfl rfl inX11g (by decide) q_1223 rfl dX11_takesDigit_167 ?_
        refine lv_iload_n hx hb dX11_takesDigit_170 rfl (lv_at hl 0 rfl) ?_
        have J20 : ∀ (H : Heap) (locs : List Loc) (ls : Array Slot) (u1 : Int32), u1 = (bI (if (Rf_within (a1 - 48) 0 9 M) then (decide ((M.1 30 33) = 0)) else false)) → va_P G.1 vwCl (wld G (Mc, M, Mo)) H → va_S (hyA G) s.heap H locs → lv_has ls 5 [(0, .ref (adr G 30)), (1, .int a1), (2, .int (a1 - 48)), (3, .int (bI (if (Rf_within (a1 - 48) 0 9 M) then (decide ((M.1 30 33) = 0)) else false)))] → W p l e { frames := 1, cells := 0, slots := 6 * 0, locals := 22 } s m ([.ref (adr G 30), .int a1] : List Value).toArray below meth c H locs 0 0 (vx_MQ below (hyQ G (.inr (some (.int (bI res.1))), (Mc, res.2, Mo))) (hyXQ G (.inr (some (.int (bI res.1))), (Mc, res.2, Mo))) ([.ref (adr G 30), .int a1] : List Value).toArray s 0 (6 * 0) (hyA G)) (F0 m 179 ls [.int u1, .int (M.1 30 31), .ref (adr G 30)]) := by
          intro H locs ls u1 eu1 hP hS hl
          subst eu1
          refine lv_iadd hx hb dX11_takesDigit_179 ?_
          refine hy_putI (ty := .int) (T := (Mc, M, Mo)) (T2 := (Mc, (wI M 30 31 ((M.1 30 31) + (bI (if (Rf_within (a1 - 48) 0 9 M) then (decide ((M.1 30 33) = 0)) else false)))), Mo)) (o := 30) (k := 31) hx hb hown hts hX hP hS (by decide) rfl rfl rfl rfl inX11g tyX11_ok nmX11 (by decide) q_1223 rfl rfl rfl rfl (Nat.le_of_ble_eq_true rfl) dX11_takesDigit_180 (fun H locs hP hS => ?_)
          obtain ⟨M19, hM19, h⟩ := hy_bind h
          rw [Option.some.inj hM19] at hP
          refine lv_iload_n hx hb dX11_takesDigit_183 rfl (lv_at hl 3 rfl) ?_
          exact hy_zret (T := (Mc, M19, Mo)) hx hb hr hlocks hP hS (Nat.zero_le _) (Nat.zero_le _) (bI_nar (if (Rf_within (a1 - 48) 0 9 M) then (decide ((M.1 30 33) = 0)) else false)) (by rw [← (Option.some.inj h)] <;> rfl) dX11_takesDigit_184
        refine lv_if_eq (tgt := 178) hx hb dX11_takesDigit_171 (by decide) (fun c18 => ?_) (fun c18 => ?_)
        · refine lv_iconst (v := 0) hx hb dX11_takesDigit_178 rfl ?_
          exact J20 _ _ ls 0 (by rw [(bI_z c18)] <;> rfl) hP hS (lv_sub hl [1, 2, 3, 0] rfl)
        · refine lv_iconst (v := 1) hx hb dX11_takesDigit_174 rfl ?_
          refine lv_goto (tgt := 179) hx hb dX11_takesDigit_175 (by decide) ?_
          exact J20 _ _ ls 1 (by rw [(bI_1 c18)] <;> rfl) hP hS (lv_sub hl [1, 2, 3, 0] rfl)
      · rw [if_pos (bI_1 c17)] at h
        refine lv_bipush (v := 10) hx hb dX11_takesDigit_103 rfl ?_
        refine lv_aload_n hx hb dX11_takesDigit_105 rfl (lv_at hl 1 rfl) ?_
        refine hy_get (T := (Mc, M, Mo)) (o := 30) (k := 34) (v := .ref (adr G 50)) hx hb hown hts hX hP (by decide) rfl rfl inX11g (by decide) q_1226 rfl dX11_takesDigit_106 ?_
        refine lv_aload_n hx hb dX11_takesDigit_109 rfl (lv_at hl 1 rfl) ?_
        refine hy_get (T := (Mc, M, Mo)) (o := 30) (k := 32) (v := .int (M.1 30 32)) hx hb hown hts hX hP (by decide) rfl rfl inX11g (by decide) q_1224 rfl dX11_takesDigit_110 ?_
        refine lv_iconst (v := 1) hx hb dX11_takesDigit_113 rfl ?_
        refine lv_isub hx hb dX11_takesDigit_114 ?_
        obtain ⟨v21, hv21, h⟩ := hy_bind h
        obtain ⟨nv21, hv21⟩ := ldE_some hv21
        refine hy_iald (T := (Mc, M, Mo)) hx hb hX hP 50 48 (M.1 50) (by decide) rfl nv21 dX11_takesDigit_115 ?_
        rw [hv21]
        refine lv_imul hx hb dX11_takesDigit_116 ?_
        refine lv_iload_n hx hb dX11_takesDigit_117 rfl (lv_at hl 3 rfl) ?_
        refine lv_iadd hx hb dX11_takesDigit_118 ?_
        refine lv_istore (lv' := [(4, .int ((10 * v21) + (a1 - 48))), (3, .int (bI (if (Rf_within (a1 - 48) 0 9 M) then (decide ((M.1 30 33) = 0)) else false))), (0, .ref (adr G 30)), (1, .int a1), (2, .int (a1 - 48))]) hx hb dX11_takesDigit_119 hl (by decide) rfl (fun ls hl => ?_)
        refine lv_iload hx hb dX11_takesDigit_121 (lv_at hl 0 rfl) ?_
        refine lv_bipush (v := 20) hx hb dX11_takesDigit_123 rfl ?_
        have J33 : ∀ (H : Heap) (locs : List Loc) (ls : Array Slot) (u1 : Int32), u1 = (bI (!decide (20 < ((10 * v21) + (a1 - 48))))) → va_P G.1 vwCl (wld G (Mc, M, Mo)) H → va_S (hyA G) s.heap H locs → lv_has ls 5 [(0, .ref (adr G 30)), (1, .int a1), (2, .int (a1 - 48)), (3, .int (bI (if (Rf_within (a1 - 48) 0 9 M) then (decide ((M.1 30 33) = 0)) else false))), (4, .int ((10 * v21) + (a1 - 48)))] → W p l e { frames := 1, cells := 0, slots := 6 * 0, locals := 22 } s m ([.ref (adr G 30), .int a1] : List Value).toArray below meth c H locs 0 0 (vx_MQ below (hyQ G (.inr (some (.int (bI res.1))), (Mc, res.2, Mo))) (hyXQ G (.inr (some (.int (bI res.1))), (Mc, res.2, Mo))) ([.ref (adr G 30), .int a1] : List Value).toArray s 0 (6 * 0) (hyA G)) (F0 m 133 ls [.int u1]) := by
          intro H locs ls u1 eu1 hP hS hl
          subst eu1
          refine lv_istore_n (lv' := [(3, .int (bI (!decide (20 < ((10 * v21) + (a1 - 48)))))), (0, .ref (adr G 30)), (1, .int a1), (2, .int (a1 - 48)), (4, .int ((10 * v21) + (a1 - 48)))]) hx hb dX11_takesDigit_133 rfl hl (by decide) rfl (fun ls hl => ?_)
          refine lv_aload_n hx hb dX11_takesDigit_134 rfl (lv_at hl 1 rfl) ?_
          refine hy_get (T := (Mc, M, Mo)) (o := 30) (k := 34) (v := .ref (adr G 50)) hx hb hown hts hX hP (by decide) rfl rfl inX11g (by decide) q_1226 rfl dX11_takesDigit_135 ?_
          refine lv_aload_n hx hb dX11_takesDigit_138 rfl (lv_at hl 1 rfl) ?_
          refine hy_get (T := (Mc, M, Mo)) (o := 30) (k := 32) (v := .int (M.1 30 32)) hx hb hown hts hX hP (by decide) rfl rfl inX11g (by decide) q_1224 rfl dX11_takesDigit_139 ?_
          refine lv_iconst (v := 1) hx hb dX11_takesDigit_142 rfl ?_
          refine lv_isub hx hb dX11_takesDigit_143 ?_
          refine lv_iload_n hx hb dX11_takesDigit_144 rfl (lv_at hl 0 rfl) ?_
          refine lv_if_eq (tgt := 153) hx hb dX11_takesDigit_145 (by decide) (fun c23 => ?_) (fun c23 => ?_)
          · rw [if_neg (bI_0 c23)] at h
            refine lv_aload_n hx hb dX11_takesDigit_153 rfl (lv_at hl 1 rfl) ?_
            refine hy_get (T := (Mc, M, Mo)) (o := 30) (k := 34) (v := .ref (adr G 50)) hx hb hown hts hX hP (by decide) rfl rfl inX11g (by decide) q_1226 rfl dX11_takesDigit_154 ?_
            refine lv_aload_n hx hb dX11_takesDigit_157 rfl (lv_at hl 1 rfl) ?_
            refine hy_get (T := (Mc, M, Mo)) (o := 30) (k := 32) (v := .int (M.1 30 32)) hx hb hown hts hX hP (by decide) rfl rfl inX11g (by decide) q_1224 rfl dX11_takesDigit_158 ?_
            refine lv_iconst (v := 1) hx hb dX11_takesDigit_161 rfl ?_
            refine lv_isub hx hb dX11_takesDigit_162 ?_
            obtain ⟨v24, hv24, h⟩ := hy_bind h
            obtain ⟨nv24, hv24⟩ := ldE_some hv24
            refine hy_iald (T := (Mc, M, Mo)) hx hb hX hP 50 48 (M.1 50) (by decide) rfl nv24 dX11_takesDigit_163 ?_
            rw [hv24]
            obtain ⟨M25, hM25, h⟩ := hy_bind h
            obtain ⟨nM25, hM25⟩ := stE_some hM25
            refine hy_iast (T := (Mc, M, Mo)) (T2 := (Mc, (wI M 50 ((M.1 30 32) - 1).toNatClampNeg v24), Mo)) hx hb hX hP hS 50 48 (by decide) (fun _ _ => rfl) nM25 rfl dX11_takesDigit_164 (fun H locs hP hS => ?_)
            rw [hM25] at hP
            refine lv_aload_n hx hb dX11_takesDigit_165 rfl (lv_at hl 1 rfl) ?_
            refine lv_dup hx hb dX11_takesDigit_166 rfl ?_
            refine hy_get (T := (Mc, M25, Mo)) (o := 30) (k := 31) (v := .int (M25.1 30 31)) hx hb hown hts hX hP (by decide) rfl rfl inX11g (by decide) q_1223 rfl dX11_takesDigit_167 ?_
            refine lv_iload_n hx hb dX11_takesDigit_170 rfl (lv_at hl 0 rfl) ?_
            have J28 : ∀ (H : Heap) (locs : List Loc) (ls : Array Slot) (u1 : Int32), u1 = (bI (!decide (20 < ((10 * v21) + (a1 - 48))))) → va_P G.1 vwCl (wld G (Mc, M25, Mo)) H → va_S (hyA G) s.heap H locs → lv_has ls 5 [(0, .ref (adr G 30)), (1, .int a1), (2, .int (a1 - 48)), (3, .int (bI (!decide (20 < ((10 * v21) + (a1 - 48)))))), (4, .int ((10 * v21) + (a1 - 48)))] → W p l e { frames := 1, cells := 0, slots := 6 * 0, locals := 22 } s m ([.ref (adr G 30), .int a1] : List Value).toArray below meth c H locs 0 0 (vx_MQ below (hyQ G (.inr (some (.int (bI res.1))), (Mc, res.2, Mo))) (hyXQ G (.inr (some (.int (bI res.1))), (Mc, res.2, Mo))) ([.ref (adr G 30), .int a1] : List Value).toArray s 0 (6 * 0) (hyA G)) (F0 m 179 ls [.int u1, .int (M25.1 30 31), .ref (adr G 30)]) := by
              intro H locs ls u1 eu1 hP hS hl
              subst eu1
              refine lv_iadd hx hb dX11_takesDigit_179 ?_
              refine hy_putI (ty := .int) (T := (Mc, M25, Mo)) (T2 := (Mc, (wI M25 30 31 ((M25.1 30 31) + (bI (!decide (20 < ((10 * v21) + (a1 - 48))))))), Mo)) (o := 30) (k := 31) hx hb hown hts hX hP hS (by decide) rfl rfl rfl rfl inX11g tyX11_ok nmX11 (by decide) q_1223 rfl rfl rfl rfl (Nat.le_of_ble_eq_true rfl) dX11_takesDigit_180 (fun H locs hP hS => ?_)
              obtain ⟨M27, hM27, h⟩ := hy_bind h
              rw [Option.some.inj hM27] at hP
              refine lv_iload_n hx hb dX11_takesDigit_183 rfl (lv_at hl 3 rfl) ?_
              exact hy_zret (T := (Mc, M27, Mo)) hx hb hr hlocks hP hS (Nat.zero_le _) (Nat.zero_le _) (bI_nar (!decide (20 < ((10 * v21) + (a1 - 48))))) (by rw [← (Option.some.inj h)] <;> rfl) dX11_takesDigit_184
            refine lv_if_eq (tgt := 178) hx hb dX11_takesDigit_171 (by decide) (fun c26 => ?_) (fun c26 => ?_)
            · refine lv_iconst (v := 0) hx hb dX11_takesDigit_178 rfl ?_
              exact J28 _ _ ls 0 (by rw [(bI_z c26)] <;> rfl) hP hS (lv_sub hl [1, 2, 3, 0, 4] rfl)
            · refine lv_iconst (v := 1) hx hb dX11_takesDigit_174 rfl ?_
              refine lv_goto (tgt := 179) hx hb dX11_takesDigit_175 (by decide) ?_
              exact J28 _ _ ls 1 (by rw [(bI_1 c26)] <;> rfl) hP hS (lv_sub hl [1, 2, 3, 0, 4] rfl)
          · rw [if_pos (bI_1 c23)] at h
            refine lv_iload hx hb dX11_takesDigit_148 (lv_at hl 4 rfl) ?_
            refine lv_goto (tgt := 164) hx hb dX11_takesDigit_150 (by decide) ?_
            obtain ⟨M29, hM29, h⟩ := hy_bind h
            obtain ⟨nM29, hM29⟩ := stE_some hM29
            refine hy_iast (T := (Mc, M, Mo)) (T2 := (Mc, (wI M 50 ((M.1 30 32) - 1).toNatClampNeg ((10 * v21) + (a1 - 48))), Mo)) hx hb hX hP hS 50 48 (by decide) (fun _ _ => rfl) nM29 rfl dX11_takesDigit_164 (fun H locs hP hS => ?_)
            rw [hM29] at hP
            refine lv_aload_n hx hb dX11_takesDigit_165 rfl (lv_at hl 1 rfl) ?_
            refine lv_dup hx hb dX11_takesDigit_166 rfl ?_
            refine hy_get (T := (Mc, M29, Mo)) (o := 30) (k := 31) (v := .int (M29.1 30 31)) hx hb hown hts hX hP (by decide) rfl rfl inX11g (by decide) q_1223 rfl dX11_takesDigit_167 ?_
            refine lv_iload_n hx hb dX11_takesDigit_170 rfl (lv_at hl 0 rfl) ?_
            have J32 : ∀ (H : Heap) (locs : List Loc) (ls : Array Slot) (u1 : Int32), u1 = (bI (!decide (20 < ((10 * v21) + (a1 - 48))))) → va_P G.1 vwCl (wld G (Mc, M29, Mo)) H → va_S (hyA G) s.heap H locs → lv_has ls 5 [(0, .ref (adr G 30)), (1, .int a1), (2, .int (a1 - 48)), (3, .int (bI (!decide (20 < ((10 * v21) + (a1 - 48)))))), (4, .int ((10 * v21) + (a1 - 48)))] → W p l e { frames := 1, cells := 0, slots := 6 * 0, locals := 22 } s m ([.ref (adr G 30), .int a1] : List Value).toArray below meth c H locs 0 0 (vx_MQ below (hyQ G (.inr (some (.int (bI res.1))), (Mc, res.2, Mo))) (hyXQ G (.inr (some (.int (bI res.1))), (Mc, res.2, Mo))) ([.ref (adr G 30), .int a1] : List Value).toArray s 0 (6 * 0) (hyA G)) (F0 m 179 ls [.int u1, .int (M29.1 30 31), .ref (adr G 30)]) := by
              intro H locs ls u1 eu1 hP hS hl
              subst eu1
              refine lv_iadd hx hb dX11_takesDigit_179 ?_
              refine hy_putI (ty := .int) (T := (Mc, M29, Mo)) (T2 := (Mc, (wI M29 30 31 ((M29.1 30 31) + (bI (!decide (20 < ((10 * v21) + (a1 - 48))))))), Mo)) (o := 30) (k := 31) hx hb hown hts hX hP hS (by decide) rfl rfl rfl rfl inX11g tyX11_ok nmX11 (by decide) q_1223 rfl rfl rfl rfl (Nat.le_of_ble_eq_true rfl) dX11_takesDigit_180 (fun H locs hP hS => ?_)
              obtain ⟨M31, hM31, h⟩ := hy_bind h
              rw [Option.some.inj hM31] at hP
              refine lv_iload_n hx hb dX11_takesDigit_183 rfl (lv_at hl 3 rfl) ?_
              exact hy_zret (T := (Mc, M31, Mo)) hx hb hr hlocks hP hS (Nat.zero_le _) (Nat.zero_le _) (bI_nar (!decide (20 < ((10 * v21) + (a1 - 48))))) (by rw [← (Option.some.inj h)] <;> rfl) dX11_takesDigit_184
            refine lv_if_eq (tgt := 178) hx hb dX11_takesDigit_171 (by decide) (fun c30 => ?_) (fun c30 => ?_)
            · refine lv_iconst (v := 0) hx hb dX11_takesDigit_178 rfl ?_
              exact J32 _ _ ls 0 (by rw [(bI_z c30)] <;> rfl) hP hS (lv_sub hl [1, 2, 3, 0, 4] rfl)
            · refine lv_iconst (v := 1) hx hb dX11_takesDigit_174 rfl ?_
              refine lv_goto (tgt := 179) hx hb dX11_takesDigit_175 (by decide) ?_
              exact J32 _ _ ls 1 (by rw [(bI_1 c30)] <;> rfl) hP hS (lv_sub hl [1, 2, 3, 0, 4] rfl)
        refine lv_icmp_gt (tgt := 132) hx hb dX11_takesDigit_125 (by decide) (fun c22 => ?_) (fun c22 => ?_)
        · refine lv_iconst (v := 0) hx hb dX11_takesDigit_132 rfl ?_
          exact J33 _ _ ls 0 (by rw [decide_eq_true c22] <;> rfl) hP hS (lv_sub hl [2, 3, 4, 1, 0] rfl)
        · refine lv_iconst (v := 1) hx hb dX11_takesDigit_128 rfl ?_
          refine lv_goto (tgt := 133) hx hb dX11_takesDigit_129 (by decide) ?_
          exact J33 _ _ ls 1 (by rw [decide_eq_false c22] <;> rfl) hP hS (lv_sub hl [2, 3, 4, 1, 0] rfl)
    refine lv_if_eq (tgt := 99) hx hb dX11_takesDigit_29 (by decide) (fun c3 => ?_) (fun c3 => ?_)
    · exact K35 _ _ (by rw [if_neg (bI_0 c3)] <;> first | rfl | decide) hP hS
    · refine lv_aload_n hx hb dX11_takesDigit_32 rfl (lv_at hl 1 rfl) ?_
      refine hy_get (T := (Mc, M, Mo)) (o := 30) (k := 31) (v := .int (M.1 30 31)) hx hb hown hts hX hP (by decide) rfl rfl inX11g (by decide) q_1223 rfl dX11_takesDigit_33 ?_
      refine lv_if_ne (tgt := 99) hx hb dX11_takesDigit_36 (by decide) (fun c4 => ?_) (fun c4 => ?_)
      · exact K35 _ _ (by rw [if_pos (bI_1 c3), decide_eq_false c4] <;> first | rfl | decide) hP hS
      · exact K34 _ _ (by rw [if_pos (bI_1 c3), decide_eq_true c4] <;> first | rfl | decide) hP hS
  refine lv_if_eq (tgt := 26) hx hb dX11_takesDigit_12 (by decide) (fun c1 => ?_) (fun c1 => ?_)
  · refine lv_iconst (v := 0) hx hb dX11_takesDigit_26 rfl ?_
    exact J36 _ _ ls 0 (by rw [if_neg (bI_0 c1)] <;> rfl) hP hS (lv_sub hl [1, 2, 0] rfl)
  · refine lv_aload_n hx hb dX11_takesDigit_15 rfl (lv_at hl 1 rfl) ?_
    refine hy_get (T := (Mc, M, Mo)) (o := 30) (k := 33) (v := .int (M.1 30 33)) hx hb hown hts hX hP (by decide) rfl rfl inX11g (by decide) q_1225 rfl dX11_takesDigit_16 ?_
    refine lv_if_ne (tgt := 26) hx hb dX11_takesDigit_19 (by decide) (fun c2 => ?_) (fun c2 => ?_)
    · refine lv_iconst (v := 0) hx hb dX11_takesDigit_26 rfl ?_
      exact J36 _ _ ls 0 (by rw [if_pos (bI_1 c1), decide_eq_false c2] <;> rfl) hP hS (lv_sub hl [1, 2, 0] rfl)
    · refine lv_iconst (v := 1) hx hb dX11_takesDigit_22 rfl ?_
      refine lv_goto (tgt := 27) hx hb dX11_takesDigit_23 (by decide) ?_
      exact J36 _ _ ls 1 (by rw [if_pos (bI_1 c1), decide_eq_true c2] <;> rfl) hP hS (lv_sub hl [1, 2, 0] rfl)
