set_option maxHeartbeats 1000000 in
set_option maxRecDepth 100000 in
theorem c_Rf_fit {l : Launch} {G : hyG} (Mc Mo : hyM) (a1 : Int32) (M : hyM) {res : (Int32 × hyM)} (h : Rf_fit a1 M = some res) : hyC l yX11_fit (.code yX11_fit cX11_fit 2 (some .int)) 3 72 (0) G [.ref (adr G 30), .int a1] (Mc, M, Mo) (.inr (some (.int res.1)), (Mc, res.2, Mo)) := by
  refine hy_of (by decide +kernel) (Nat.le_of_ble_eq_true rfl) ?_
  intro p e s m below meth c hx hb hml hown hts hr hlocks ht hX hP hS ls hl
  have hl : lv_has ls 2 [(0, .ref (adr G 30)), (1, .int a1)] := hl
  rw [Rf_fit] at h
  refine lv_aload_n hx hb dX11_fit_0 rfl (lv_at hl 0 rfl) ?_
  refine lv_iload_n hx hb dX11_fit_1 rfl (lv_at hl 1 rfl) ?_
  refine lv_iconst (v := 0) hx hb dX11_fit_2 rfl ?_
  refine lv_iconst (v := 3) hx hb dX11_fit_3 rfl ?_
  refine hy_ret (hy_rS0 (T := (Mc, M, Mo)) (v := some (.int (bI (Rf_within a1 0 3 M)))) (T2 := (Mc, M, Mo)) (As := [.int a1, .int 0, .int 3]) (rest := [.ref (adr G 30)]) (n := 0) hx hb hml hown hts hX hP hS hl (c_Rf_within Mc Mo a1 0 3 M rfl) m_Rf_within q_1310 rfl rfl (Nat.le_of_ble_eq_true rfl) dX11_fit_4 ⟨Nat.le_of_ble_eq_true rfl, Nat.le_of_ble_eq_true rfl⟩ ⟨Nat.zero_le _, Nat.zero_le _⟩) hS (fun H locs hP hS => ?_)
  have J6 : ∀ (H : Heap) (locs : List Loc) (ls : Array Slot) (u1 : Int32), u1 = (bI (!(Rf_within a1 0 3 M))) → va_P G.1 vwCl (wld G (Mc, M, Mo)) H → va_S (hyA G) s.heap H locs → lv_has ls 2 [(0, .ref (adr G 30)), (1, .int a1)] → W p l e { frames := 3, cells := 0, slots := 6 * 0, locals := 72 } s m ([.ref (adr G 30), .int a1] : List Value).toArray below meth c H locs 0 0 (vx_MQ below (hyQ G (.inr (some (.int res.1)), (Mc, res.2, Mo))) (hyXQ G (.inr (some (.int res.1)), (Mc, res.2, Mo))) ([.ref (adr G 30), .int a1] : List Value).toArray s 0 (6 * 0) (hyA G)) (F0 m 15 ls [.int u1, .ref (adr G 30)]) := by
    intro H locs ls u1 eu1 hP hS hl
    subst eu1
    refine hy_putI (ty := .int) (T := (Mc, M, Mo)) (T2 := (Mc, (wI M 30 0 (bI (!(Rf_within a1 0 3 M)))), Mo)) (o := 30) (k := 0) hx hb hown hts hX hP hS (by decide) rfl rfl rfl rfl inX11g tyX11_ok nmX11 (by decide) q_1192 rfl rfl rfl rfl (Nat.le_of_ble_eq_true rfl) dX11_fit_15 (fun H locs hP hS => ?_)
    obtain ⟨M2, hM2, h⟩ := hy_bind h
    rw [Option.some.inj hM2] at hP
    refine lv_aload_n hx hb dX11_fit_18 rfl (lv_at hl 0 rfl) ?_
    refine hy_get (T := (Mc, M2, Mo)) (o := 30) (k := 0) (v := .int (M2.1 30 0)) hx hb hown hts hX hP (by decide) rfl rfl inX11g (by decide) q_1192 rfl dX11_fit_19 ?_
    refine lv_if_le (tgt := 27) hx hb dX11_fit_22 (by decide) (fun c3 => ?_) (fun c3 => ?_)
    · rw [if_pos c3] at h
      refine lv_aload_n hx hb dX11_fit_27 rfl (lv_at hl 0 rfl) ?_
      obtain ⟨M4, hM4, h⟩ := hy_bind h
      refine hy_ret (hy_rV0 (T := (Mc, M2, Mo)) (v := none) (T2 := (Mc, M4, Mo)) (As := []) (rest := []) (n := 0) hx hb hml hown hts hX hP hS hl (c_Rf_laySung Mc Mo M2 hM4) m_Rf_laySung q_1360 (hy_recv hX hP 30 10 (by decide) rfl rfl) rfl rfl (Nat.le_of_ble_eq_true rfl) dX11_fit_28 ⟨Nat.le_of_ble_eq_true rfl, Nat.le_of_ble_eq_true rfl⟩ ⟨Nat.zero_le _, Nat.zero_le _⟩) hS (fun H locs hP hS => ?_)
      refine lv_aload_n hx hb dX11_fit_31 rfl (lv_at hl 0 rfl) ?_
      refine lv_iload_n hx hb dX11_fit_32 rfl (lv_at hl 1 rfl) ?_
      obtain ⟨v5, hv5, h⟩ := hy_bind h
      refine hy_ret (hy_rV0 (T := (Mc, M4, Mo)) (v := some (.int v5)) (T2 := (Mc, M4, Mo)) (As := [.int a1]) (rest := []) (n := 0) hx hb hml hown hts hX hP hS hl (c_Rf_fitNow Mc Mo a1 M4 hv5) m_Rf_fitNow q_1577 (hy_recv hX hP 30 10 (by decide) rfl rfl) rfl rfl (Nat.le_of_ble_eq_true rfl) dX11_fit_33 ⟨Nat.le_of_ble_eq_true rfl, Nat.le_of_ble_eq_true rfl⟩ ⟨Nat.zero_le _, Nat.zero_le _⟩) hS (fun H locs hP hS => ?_)
      exact hy_iret (T := (Mc, M4, Mo)) hx hb hr hlocks hP hS (Nat.zero_le _) (Nat.zero_le _) (by rw [← (Option.some.inj h)] <;> rfl) dX11_fit_36
    · rw [if_neg c3] at h
      refine lv_iconst (v := 0) hx hb dX11_fit_25 rfl ?_
      exact hy_iret (T := (Mc, M2, Mo)) hx hb hr hlocks hP hS (Nat.zero_le _) (Nat.zero_le _) (by rw [← (Option.some.inj h)] <;> rfl) dX11_fit_26
  refine lv_if_eq (tgt := 14) hx hb dX11_fit_7 (by decide) (fun c1 => ?_) (fun c1 => ?_)
  · refine lv_iconst (v := 1) hx hb dX11_fit_14 rfl ?_
    exact J6 _ _ ls 1 (by rw [(bI_z c1)] <;> rfl) hP hS (lv_sub hl [0, 1] rfl)
  · refine lv_iconst (v := 0) hx hb dX11_fit_10 rfl ?_
    refine lv_goto (tgt := 15) hx hb dX11_fit_11 (by decide) ?_
    exact J6 _ _ ls 0 (by rw [(bI_1 c1)] <;> rfl) hP hS (lv_sub hl [0, 1] rfl)
set_option maxHeartbeats 1000000 in
set_option maxRecDepth 100000 in
theorem c_Rf_lineNow {l : Launch} {G : hyG} (Mc Mo : hyM) (a1 : Int32) (a2 : Int32) (M : hyM) {res : Int32} (h : Rf_lineNow a1 a2 M = some res) : hyC l yX11_lineNow (.code yX11_lineNow cX11_lineNow 3 (some .int)) 3 66 (0) G [.ref (adr G 30), .int a1, .int a2] (Mc, M, Mo) (.inr (some (.int res)), (Mc, M, Mo)) := by
  refine hy_of (by decide +kernel) (Nat.le_of_ble_eq_true rfl) ?_
  intro p e s m below meth c hx hb hml hown hts hr hlocks ht hX hP hS ls hl
  have hl : lv_has ls 3 [(0, .ref (adr G 30)), (1, .int a1), (2, .int a2)] := hl
  rw [Rf_lineNow] at h
  refine lv_iload_n hx hb dX11_lineNow_0 rfl (lv_at hl 2 rfl) ?_
  refine lv_iconst (v := 2) hx hb dX11_lineNow_1 rfl ?_
  refine lv_icmp_ne (tgt := 13) hx hb dX11_lineNow_2 (by decide) (fun c1 => ?_) (fun c1 => ?_)
  · rw [if_neg c1] at h
    refine lv_aload_n hx hb dX11_lineNow_13 rfl (lv_at hl 0 rfl) ?_
    refine lv_iload_n hx hb dX11_lineNow_14 rfl (lv_at hl 1 rfl) ?_
    refine lv_iload_n hx hb dX11_lineNow_15 rfl (lv_at hl 2 rfl) ?_
    obtain ⟨v2, hv2, h⟩ := hy_bind h
    refine hy_ret (hy_rV0 (T := (Mc, M, Mo)) (v := some (.int v2)) (T2 := (Mc, M, Mo)) (As := [.int a1, .int a2]) (rest := []) (n := 0) hx hb hml hown hts hX hP hS hl (c_Rf_counts Mc Mo a1 a2 M hv2) m_Rf_counts q_1400 (hy_recv hX hP 30 10 (by decide) rfl rfl) rfl rfl (Nat.le_of_ble_eq_true rfl) dX11_lineNow_16 ⟨Nat.le_of_ble_eq_true rfl, Nat.le_of_ble_eq_true rfl⟩ ⟨Nat.zero_le _, Nat.zero_le _⟩) hS (fun H locs hP hS => ?_)
    exact hy_iret (T := (Mc, M, Mo)) hx hb hr hlocks hP hS (Nat.zero_le _) (Nat.zero_le _) (by rw [← (Option.some.inj h)] <;> rfl) dX11_lineNow_19
  · rw [if_pos (c1)] at h
    refine lv_aload_n hx hb dX11_lineNow_5 rfl (lv_at hl 0 rfl) ?_
    refine lv_iload_n hx hb dX11_lineNow_6 rfl (lv_at hl 1 rfl) ?_
    obtain ⟨v3, hv3, h⟩ := hy_bind h
    refine hy_ret (hy_rV0 (T := (Mc, M, Mo)) (v := some (.int v3)) (T2 := (Mc, M, Mo)) (As := [.int a1]) (rest := []) (n := 0) hx hb hml hown hts hX hP hS hl (c_Rf_longest Mc Mo a1 M hv3) m_Rf_longest q_1589 (hy_recv hX hP 30 10 (by decide) rfl rfl) rfl rfl (Nat.le_of_ble_eq_true rfl) dX11_lineNow_7 ⟨Nat.le_of_ble_eq_true rfl, Nat.le_of_ble_eq_true rfl⟩ ⟨Nat.zero_le _, Nat.zero_le _⟩) hS (fun H locs hP hS => ?_)
    refine lv_goto (tgt := 19) hx hb dX11_lineNow_10 (by decide) ?_
    exact hy_iret (T := (Mc, M, Mo)) hx hb hr hlocks hP hS (Nat.zero_le _) (Nat.zero_le _) (by rw [← (Option.some.inj h)] <;> rfl) dX11_lineNow_19
set_option maxHeartbeats 1000000 in
set_option maxRecDepth 100000 in
theorem c_Rf_line {l : Launch} {G : hyG} (Mc Mo : hyM) (a1 : Int32) (a2 : Int32) (a3 : Int32) (M : hyM) {res : (Int32 × hyM)} (h : Rf_line a1 a2 a3 M = some res) : hyC l yX11_line (.code yX11_line cX11_line 4 (some .int)) 4 88 (0) G [.ref (adr G 30), .int a1, .int a2, .int a3] (Mc, M, Mo) (.inr (some (.int res.1)), (Mc, res.2, Mo)) := by
  refine hy_of (by decide +kernel) (Nat.le_of_ble_eq_true rfl) ?_
  intro p e s m below meth c hx hb hml hown hts hr hlocks ht hX hP hS ls hl
  have hl : lv_has ls 4 [(0, .ref (adr G 30)), (1, .int a1), (2, .int a2), (3, .int a3)] := hl
  rw [Rf_line] at h
  refine lv_aload_n hx hb dX11_line_0 rfl (lv_at hl 0 rfl) ?_
  refine lv_iload_n hx hb dX11_line_1 rfl (lv_at hl 1 rfl) ?_
  refine lv_iload_n hx hb dX11_line_2 rfl (lv_at hl 2 rfl) ?_
  refine hy_ret (hy_rS0 (T := (Mc, M, Mo)) (v := some (.int (bI (Rf_isLine a1 a2 M)))) (T2 := (Mc, M, Mo)) (As := [.int a1, .int a2]) (rest := [.ref (adr G 30)]) (n := 0) hx hb hml hown hts hX hP hS hl (c_Rf_isLine Mc Mo a1 a2 M rfl) m_Rf_isLine q_1451 rfl rfl (Nat.le_of_ble_eq_true rfl) dX11_line_3 ⟨Nat.le_of_ble_eq_true rfl, Nat.le_of_ble_eq_true rfl⟩ ⟨Nat.zero_le _, Nat.zero_le _⟩) hS (fun H locs hP hS => ?_)
  have J6 : ∀ (H : Heap) (locs : List Loc) (ls : Array Slot) (u1 : Int32), u1 = (if (Rf_isLine a1 a2 M) then (if (Rf_within a3 0 2 M) then 0 else 2) else 1) → va_P G.1 vwCl (wld G (Mc, M, Mo)) H → va_S (hyA G) s.heap H locs → lv_has ls 4 [(0, .ref (adr G 30)), (1, .int a1), (2, .int a2), (3, .int a3)] → W p l e { frames := 4, cells := 0, slots := 6 * 0, locals := 88 } s m ([.ref (adr G 30), .int a1, .int a2, .int a3] : List Value).toArray below meth c H locs 0 0 (vx_MQ below (hyQ G (.inr (some (.int res.1)), (Mc, res.2, Mo))) (hyXQ G (.inr (some (.int res.1)), (Mc, res.2, Mo))) ([.ref (adr G 30), .int a1, .int a2, .int a3] : List Value).toArray s 0 (6 * 0) (hyA G)) (F0 m 27 ls [.int u1, .ref (adr G 30)]) := by
    intro H locs ls u1 eu1 hP hS hl
    subst eu1
    refine hy_putI (ty := .int) (T := (Mc, M, Mo)) (T2 := (Mc, (wI M 30 0 (if (Rf_isLine a1 a2 M) then (if (Rf_within a3 0 2 M) then 0 else 2) else 1)), Mo)) (o := 30) (k := 0) hx hb hown hts hX hP hS (by decide) rfl rfl rfl rfl inX11g tyX11_ok nmX11 (by decide) q_1192 rfl rfl rfl rfl (Nat.le_of_ble_eq_true rfl) dX11_line_27 (fun H locs hP hS => ?_)
    obtain ⟨M3, hM3, h⟩ := hy_bind h
    rw [Option.some.inj hM3] at hP
    refine lv_aload_n hx hb dX11_line_30 rfl (lv_at hl 0 rfl) ?_
    refine hy_get (T := (Mc, M3, Mo)) (o := 30) (k := 0) (v := .int (M3.1 30 0)) hx hb hown hts hX hP (by decide) rfl rfl inX11g (by decide) q_1192 rfl dX11_line_31 ?_
    refine lv_if_le (tgt := 41) hx hb dX11_line_34 (by decide) (fun c4 => ?_) (fun c4 => ?_)
    · rw [if_pos c4] at h
      refine lv_aload_n hx hb dX11_line_41 rfl (lv_at hl 0 rfl) ?_
      refine lv_bipush (v := 24) hx hb dX11_line_42 rfl ?_
      refine lv_iload_n hx hb dX11_line_44 rfl (lv_at hl 1 rfl) ?_
      refine lv_imul hx hb dX11_line_45 ?_
      refine lv_iload_n hx hb dX11_line_46 rfl (lv_at hl 2 rfl) ?_
      refine lv_iadd hx hb dX11_line_47 ?_
      refine lv_iload_n hx hb dX11_line_48 rfl (lv_at hl 3 rfl) ?_
      obtain ⟨v5, hv5, h⟩ := hy_bind h
      refine hy_ret (hy_rV0 (T := (Mc, M3, Mo)) (v := some (.int v5)) (T2 := (Mc, M3, Mo)) (As := [.int ((24 * a1) + a2), .int a3]) (rest := []) (n := 0) hx hb hml hown hts hX hP hS hl (c_Rf_lineNow Mc Mo ((24 * a1) + a2) a3 M3 hv5) m_Rf_lineNow q_1585 (hy_recv hX hP 30 10 (by decide) rfl rfl) rfl rfl (Nat.le_of_ble_eq_true rfl) dX11_line_49 ⟨Nat.le_of_ble_eq_true rfl, Nat.le_of_ble_eq_true rfl⟩ ⟨Nat.zero_le _, Nat.zero_le _⟩) hS (fun H locs hP hS => ?_)
      exact hy_iret (T := (Mc, M3, Mo)) hx hb hr hlocks hP hS (Nat.zero_le _) (Nat.zero_le _) (by rw [← (Option.some.inj h)] <;> rfl) dX11_line_52
    · rw [if_neg c4] at h
      refine lv_iconst (v := 0) hx hb dX11_line_37 rfl ?_
      refine lv_goto (tgt := 52) hx hb dX11_line_38 (by decide) ?_
      exact hy_iret (T := (Mc, M3, Mo)) hx hb hr hlocks hP hS (Nat.zero_le _) (Nat.zero_le _) (by rw [← (Option.some.inj h)] <;> rfl) dX11_line_52
  refine lv_if_ne (tgt := 13) hx hb dX11_line_6 (by decide) (fun c1 => ?_) (fun c1 => ?_)
  · refine lv_iload_n hx hb dX11_line_13 rfl (lv_at hl 3 rfl) ?_
    refine lv_iconst (v := 0) hx hb dX11_line_14 rfl ?_
    refine lv_iconst (v := 2) hx hb dX11_line_15 rfl ?_
    refine hy_ret (hy_rS0 (T := (Mc, M, Mo)) (v := some (.int (bI (Rf_within a3 0 2 M)))) (T2 := (Mc, M, Mo)) (As := [.int a3, .int 0, .int 2]) (rest := [.ref (adr G 30)]) (n := 0) hx hb hml hown hts hX hP hS hl (c_Rf_within Mc Mo a3 0 2 M rfl) m_Rf_within q_1310 rfl rfl (Nat.le_of_ble_eq_true rfl) dX11_line_16 ⟨Nat.le_of_ble_eq_true rfl, Nat.le_of_ble_eq_true rfl⟩ ⟨Nat.zero_le _, Nat.zero_le _⟩) hS (fun H locs hP hS => ?_)
    refine lv_if_eq (tgt := 26) hx hb dX11_line_19 (by decide) (fun c2 => ?_) (fun c2 => ?_)
    · refine lv_iconst (v := 2) hx hb dX11_line_26 rfl ?_
      exact J6 _ _ ls 2 (by rw [if_pos (bI_1 c1), if_neg (bI_0 c2)] <;> rfl) hP hS (lv_sub hl [0, 1, 2, 3] rfl)
    · refine lv_iconst (v := 0) hx hb dX11_line_22 rfl ?_
      refine lv_goto (tgt := 27) hx hb dX11_line_23 (by decide) ?_
      exact J6 _ _ ls 0 (by rw [if_pos (bI_1 c1), if_pos (bI_1 c2)] <;> rfl) hP hS (lv_sub hl [0, 1, 2, 3] rfl)
  · refine lv_iconst (v := 1) hx hb dX11_line_9 rfl ?_
    refine lv_goto (tgt := 27) hx hb dX11_line_10 (by decide) ?_
    exact J6 _ _ ls 1 (by rw [if_neg (bI_0 c1)] <;> rfl) hP hS (lv_sub hl [0, 1, 2, 3] rfl)
set_option maxHeartbeats 1000000 in
set_option maxRecDepth 100000 in
theorem c_Rf_belowNow {l : Launch} {G : hyG} (Mc Mo : hyM) (a1 : Int32) (a2 : Int32) (a3 : Int32) (a4 : Int32) (M : hyM) {res : Int32} (h : Rf_belowNow a1 a2 a3 a4 M = some res) : hyC l yX11_belowNow (.code yX11_belowNow cX11_belowNow 9 (some .int)) 4 90 (0) G [.ref (adr G 30), .int a1, .int a2, .int a3, .int a4] (Mc, M, Mo) (.inr (some (.int res)), (Mc, M, Mo)) := by
  refine hy_of (by decide +kernel) (Nat.le_of_ble_eq_true rfl) ?_
  intro p e s m below meth c hx hb hml hown hts hr hlocks ht hX hP hS ls hl
  have hl : lv_has ls 9 [(0, .ref (adr G 30)), (1, .int a1), (2, .int a2), (3, .int a3), (4, .int a4)] := hl
  rw [Rf_belowNow] at h
  refine lv_bipush (v := 24) hx hb dX11_belowNow_0 rfl ?_
  refine lv_iload_n hx hb dX11_belowNow_2 rfl (lv_at hl 1 rfl) ?_
  refine lv_imul hx hb dX11_belowNow_3 ?_
  refine lv_iload_n hx hb dX11_belowNow_4 rfl (lv_at hl 2 rfl) ?_
  refine lv_iadd hx hb dX11_belowNow_5 ?_
  refine lv_istore (lv' := [(5, .int ((24 * a1) + a2)), (0, .ref (adr G 30)), (1, .int a1), (2, .int a2), (3, .int a3), (4, .int a4)]) hx hb dX11_belowNow_6 hl (by decide) rfl (fun ls hl => ?_)
  refine lv_aload_n hx hb dX11_belowNow_8 rfl (lv_at hl 1 rfl) ?_
  refine lv_iload_n hx hb dX11_belowNow_9 rfl (lv_at hl 4 rfl) ?_
  obtain ⟨v1, hv1, h⟩ := hy_bind h
  refine hy_ret (hy_rV0 (T := (Mc, M, Mo)) (v := some (.int v1)) (T2 := (Mc, M, Mo)) (As := [.int a3]) (rest := []) (n := 0) hx hb hml hown hts hX hP hS hl (c_Rf_syllableOf Mc Mo a3 M hv1) m_Rf_syllableOf q_1392 (hy_recv hX hP 30 10 (by decide) rfl rfl) rfl rfl (Nat.le_of_ble_eq_true rfl) dX11_belowNow_10 ⟨Nat.le_of_ble_eq_true rfl, Nat.le_of_ble_eq_true rfl⟩ ⟨Nat.zero_le _, Nat.zero_le _⟩) hS (fun H locs hP hS => ?_)
  refine lv_istore (lv' := [(6, .int v1), (5, .int ((24 * a1) + a2)), (0, .ref (adr G 30)), (1, .int a1), (2, .int a2), (3, .int a3), (4, .int a4)]) hx hb dX11_belowNow_13 hl (by decide) rfl (fun ls hl => ?_)
  refine lv_iload_n hx hb dX11_belowNow_15 rfl (lv_at hl 4 rfl) ?_
  refine lv_bipush (v := 24) hx hb dX11_belowNow_16 rfl ?_
  refine lv_icmp_ge (tgt := 41) hx hb dX11_belowNow_18 (by decide) (fun c2 => ?_) (fun c2 => ?_)
  · rw [if_pos c2] at h
    refine lv_iconst (v := (-1)) hx hb dX11_belowNow_41 rfl ?_
    exact hy_iret (T := (Mc, M, Mo)) hx hb hr hlocks hP hS (Nat.zero_le _) (Nat.zero_le _) (by rw [← (Option.some.inj h)] <;> rfl) dX11_belowNow_42
  · rw [if_neg c2] at h
    refine lv_aload_n hx hb dX11_belowNow_21 rfl (lv_at hl 2 rfl) ?_
    refine lv_iload_n hx hb dX11_belowNow_22 rfl (lv_at hl 5 rfl) ?_
    obtain ⟨v3, hv3, h⟩ := hy_bind h
    refine hy_ret (hy_rV0 (T := (Mc, M, Mo)) (v := some (.int (bI v3))) (T2 := (Mc, M, Mo)) (As := [.int a3]) (rest := []) (n := 0) hx hb hml hown hts hX hP hS hl (c_Rf_isSlurred Mc Mo a3 M hv3) m_Rf_isSlurred q_1396 (hy_recv hX hP 30 10 (by decide) rfl rfl) rfl rfl (Nat.le_of_ble_eq_true rfl) dX11_belowNow_23 ⟨Nat.le_of_ble_eq_true rfl, Nat.le_of_ble_eq_true rfl⟩ ⟨Nat.zero_le _, Nat.zero_le _⟩) hS (fun H locs hP hS => ?_)
    refine lv_if_ne (tgt := 41) hx hb dX11_belowNow_26 (by decide) (fun c4 => ?_) (fun c4 => ?_)
    · rw [if_pos (bI_1 c4)] at h
      refine lv_iconst (v := (-1)) hx hb dX11_belowNow_41 rfl ?_
      exact hy_iret (T := (Mc, M, Mo)) hx hb hr hlocks hP hS (Nat.zero_le _) (Nat.zero_le _) (by rw [← (Option.some.inj h)] <;> rfl) dX11_belowNow_42
    · rw [if_neg (bI_0 c4)] at h
      refine lv_iload hx hb dX11_belowNow_29 (lv_at hl 0 rfl) ?_
      refine lv_aload_n hx hb dX11_belowNow_31 rfl (lv_at hl 2 rfl) ?_
      refine lv_iload hx hb dX11_belowNow_32 (lv_at hl 1 rfl) ?_
      refine lv_iconst (v := 0) hx hb dX11_belowNow_34 rfl ?_
      obtain ⟨v5, hv5, h⟩ := hy_bind h
      refine hy_ret (hy_rV0 (T := (Mc, M, Mo)) (v := some (.int v5)) (T2 := (Mc, M, Mo)) (As := [.int ((24 * a1) + a2), .int 0]) (rest := [.int v1]) (n := 0) hx hb hml hown hts hX hP hS hl (c_Rf_counts Mc Mo ((24 * a1) + a2) 0 M hv5) m_Rf_counts q_1400 (hy_recv hX hP 30 10 (by decide) rfl rfl) rfl rfl (Nat.le_of_ble_eq_true rfl) dX11_belowNow_35 ⟨Nat.le_of_ble_eq_true rfl, Nat.le_of_ble_eq_true rfl⟩ ⟨Nat.zero_le _, Nat.zero_le _⟩) hS (fun H locs hP hS => ?_)
      refine lv_icmp_lt (tgt := 43) hx hb dX11_belowNow_38 (by decide) (fun c6 => ?_) (fun c6 => ?_)
      · rw [if_pos c6] at h
        refine lv_aload_n hx hb dX11_belowNow_43 rfl (lv_at hl 2 rfl) ?_
        refine lv_iload hx hb dX11_belowNow_44 (lv_at hl 1 rfl) ?_
        refine lv_iload hx hb dX11_belowNow_46 (lv_at hl 0 rfl) ?_
        obtain ⟨v7, hv7, h⟩ := hy_bind h
        refine hy_ret (hy_rV0 (T := (Mc, M, Mo)) (v := some (.int v7)) (T2 := (Mc, M, Mo)) (As := [.int ((24 * a1) + a2), .int v1]) (rest := []) (n := 0) hx hb hml hown hts hX hP hS hl (c_Rf_beginOf Mc Mo ((24 * a1) + a2) v1 M hv7) m_Rf_beginOf q_1412 (hy_recv hX hP 30 10 (by decide) rfl rfl) rfl rfl (Nat.le_of_ble_eq_true rfl) dX11_belowNow_48 ⟨Nat.le_of_ble_eq_true rfl, Nat.le_of_ble_eq_true rfl⟩ ⟨Nat.zero_le _, Nat.zero_le _⟩) hS (fun H locs hP hS => ?_)
        refine lv_istore (lv' := [(7, .int v7), (6, .int v1), (5, .int ((24 * a1) + a2)), (0, .ref (adr G 30)), (1, .int a1), (2, .int a2), (3, .int a3), (4, .int a4)]) hx hb dX11_belowNow_51 hl (by decide) rfl (fun ls hl => ?_)
        refine lv_iload hx hb dX11_belowNow_53 (lv_at hl 0 rfl) ?_
        refine lv_aload_n hx hb dX11_belowNow_55 rfl (lv_at hl 3 rfl) ?_
        refine lv_iload hx hb dX11_belowNow_56 (lv_at hl 2 rfl) ?_
        refine lv_iload hx hb dX11_belowNow_58 (lv_at hl 1 rfl) ?_
        obtain ⟨v8, hv8, h⟩ := hy_bind h
        refine hy_ret (hy_rV0 (T := (Mc, M, Mo)) (v := some (.int v8)) (T2 := (Mc, M, Mo)) (As := [.int ((24 * a1) + a2), .int v1]) (rest := [.int v7]) (n := 0) hx hb hml hown hts hX hP hS hl (c_Rf_sizeOf Mc Mo ((24 * a1) + a2) v1 M hv8) m_Rf_sizeOf q_1408 (hy_recv hX hP 30 10 (by decide) rfl rfl) rfl rfl (Nat.le_of_ble_eq_true rfl) dX11_belowNow_60 ⟨Nat.le_of_ble_eq_true rfl, Nat.le_of_ble_eq_true rfl⟩ ⟨Nat.zero_le _, Nat.zero_le _⟩) hS (fun H locs hP hS => ?_)
        refine lv_iadd hx hb dX11_belowNow_63 ?_
        refine lv_istore (lv' := [(8, .int (v7 + v8)), (7, .int v7), (6, .int v1), (5, .int ((24 * a1) + a2)), (0, .ref (adr G 30)), (1, .int a1), (2, .int a2), (3, .int a3), (4, .int a4)]) hx hb dX11_belowNow_64 hl (by decide) rfl (fun ls hl => ?_)
        refine lv_iload hx hb dX11_belowNow_66 (lv_at hl 8 rfl) ?_
        by_cases c9 : a4 = 0
        · rw [if_pos c9] at h
          refine lv_tableIn (tgt := 96) (off := 28) hx hb dX11_belowNow_68 (by rw [c9]; decide) (by rw [c9]; decide) (by rw [c9]; rfl) (by decide) ?_
          refine lv_iload hx hb dX11_belowNow_96 (lv_at hl 2 rfl) ?_
          exact hy_iret (T := (Mc, M, Mo)) hx hb hr hlocks hP hS (Nat.zero_le _) (Nat.zero_le _) (by rw [← (Option.some.inj h)] <;> rfl) dX11_belowNow_98
        · rw [if_neg c9] at h
          by_cases c10 : a4 = 1
          · rw [if_pos c10] at h
            refine lv_tableIn (tgt := 99) (off := 31) hx hb dX11_belowNow_68 (by rw [c10]; decide) (by rw [c10]; decide) (by rw [c10]; rfl) (by decide) ?_
            refine lv_iload hx hb dX11_belowNow_99 (lv_at hl 0 rfl) ?_
            refine lv_iload hx hb dX11_belowNow_101 (lv_at hl 1 rfl) ?_
            refine lv_isub hx hb dX11_belowNow_103 ?_
            exact hy_iret (T := (Mc, M, Mo)) hx hb hr hlocks hP hS (Nat.zero_le _) (Nat.zero_le _) (by rw [← (Option.some.inj h)] <;> rfl) dX11_belowNow_104
          · rw [if_neg c10] at h
            by_cases c11 : a4 = 2
            · rw [if_pos c11] at h
              refine lv_tableIn (tgt := 105) (off := 37) hx hb dX11_belowNow_68 (by rw [c11]; decide) (by rw [c11]; decide) (by rw [c11]; rfl) (by decide) ?_
              refine lv_aload_n hx hb dX11_belowNow_105 rfl (lv_at hl 4 rfl) ?_
              refine lv_iload hx hb dX11_belowNow_106 (lv_at hl 3 rfl) ?_
              refine lv_iload hx hb dX11_belowNow_108 (lv_at hl 1 rfl) ?_
              obtain ⟨v17, hv17, h⟩ := hy_bind h
              refine hy_ret (hy_rV0 (T := (Mc, M, Mo)) (v := some (.int v17)) (T2 := (Mc, M, Mo)) (As := [.int ((24 * a1) + a2), .int v7]) (rest := []) (n := 0) hx hb hml hown hts hX hP hS hl (c_Rf_sign Mc Mo ((24 * a1) + a2) v7 M hv17) m_Rf_sign q_1404 (hy_recv hX hP 30 10 (by decide) rfl rfl) rfl rfl (Nat.le_of_ble_eq_true rfl) dX11_belowNow_110 ⟨Nat.le_of_ble_eq_true rfl, Nat.le_of_ble_eq_true rfl⟩ ⟨Nat.zero_le _, Nat.zero_le _⟩) hS (fun H locs hP hS => ?_)
              exact hy_iret (T := (Mc, M, Mo)) hx hb hr hlocks hP hS (Nat.zero_le _) (Nat.zero_le _) (by rw [← (Option.some.inj h)] <;> rfl) dX11_belowNow_113
            · rw [if_neg c11] at h
              refine lv_tableOut (tgt := 114) hx hb dX11_belowNow_68 (hy_tabOut 0 a4 3 (fun k hk => by match k, hk with | 0, _ => exact c9 | 1, _ => exact c10 | 2, _ => exact c11 | k9 + 3, hk => exact absurd hk (by omega))) (by decide) ?_
              refine lv_iload hx hb dX11_belowNow_114 (lv_at hl 0 rfl) ?_
              refine lv_aload_n hx hb dX11_belowNow_116 rfl (lv_at hl 4 rfl) ?_
              refine hy_get (T := (Mc, M, Mo)) (o := 30) (k := 14) (v := .ref (adr G 38)) hx hb hown hts hX hP (by decide) rfl rfl inX11g (by decide) q_1206 rfl dX11_belowNow_117 ?_
              refine lv_iload hx hb dX11_belowNow_120 (lv_at hl 3 rfl) ?_
              obtain ⟨v12, hv12, h⟩ := hy_bind h
              obtain ⟨nv12, hv12⟩ := ldE_some hv12
              refine hy_iald (T := (Mc, M, Mo)) hx hb hX hP 38 96 (M.1 38) (by decide) rfl nv12 dX11_belowNow_122 ?_
              rw [hv12]
              refine lv_icmp_ge (tgt := 143) hx hb dX11_belowNow_123 (by decide) (fun c13 => ?_) (fun c13 => ?_)
              · rw [if_pos c13] at h
                refine lv_iconst (v := 0) hx hb dX11_belowNow_143 rfl ?_
                exact hy_iret (T := (Mc, M, Mo)) hx hb hr hlocks hP hS (Nat.zero_le _) (Nat.zero_le _) (by rw [← (Option.some.inj h)] <;> rfl) dX11_belowNow_144
              · rw [if_neg c13] at h
                refine lv_aload_n hx hb dX11_belowNow_126 rfl (lv_at hl 4 rfl) ?_
                refine lv_iload hx hb dX11_belowNow_127 (lv_at hl 3 rfl) ?_
                refine lv_iload hx hb dX11_belowNow_129 (lv_at hl 0 rfl) ?_
                obtain ⟨v14, hv14, h⟩ := hy_bind h
                refine hy_ret (hy_rV0 (T := (Mc, M, Mo)) (v := some (.int v14)) (T2 := (Mc, M, Mo)) (As := [.int ((24 * a1) + a2), .int (v7 + v8)]) (rest := []) (n := 0) hx hb hml hown hts hX hP hS hl (c_Rf_sign Mc Mo ((24 * a1) + a2) (v7 + v8) M hv14) m_Rf_sign q_1404 (hy_recv hX hP 30 10 (by decide) rfl rfl) rfl rfl (Nat.le_of_ble_eq_true rfl) dX11_belowNow_131 ⟨Nat.le_of_ble_eq_true rfl, Nat.le_of_ble_eq_true rfl⟩ ⟨Nat.zero_le _, Nat.zero_le _⟩) hS (fun H locs hP hS => ?_)
                refine lv_bipush (v := 45) hx hb dX11_belowNow_134 rfl ?_
                have J16 : ∀ (H : Heap) (locs : List Loc) (ls : Array Slot) (u1 : Int32), u1 = (bI (decide (v14 = 45))) → va_P G.1 vwCl (wld G (Mc, M, Mo)) H → va_S (hyA G) s.heap H locs → lv_has ls 9 [(0, .ref (adr G 30)), (1, .int a1), (2, .int a2), (3, .int a3), (4, .int a4), (5, .int ((24 * a1) + a2)), (6, .int v1), (7, .int v7), (8, .int (v7 + v8))] → W p l e { frames := 4, cells := 0, slots := 6 * 0, locals := 90 } s m ([.ref (adr G 30), .int a1, .int a2, .int a3, .int a4] : List Value).toArray below meth c H locs 0 0 (vx_MQ below (hyQ G (.inr (some (.int res)), (Mc, M, Mo))) (hyXQ G (.inr (some (.int res)), (Mc, M, Mo))) ([.ref (adr G 30), .int a1, .int a2, .int a3, .int a4] : List Value).toArray s 0 (6 * 0) (hyA G)) (F0 m 144 ls [.int u1]) := by
                  intro H locs ls u1 eu1 hP hS hl
                  subst eu1
                  exact hy_iret (T := (Mc, M, Mo)) hx hb hr hlocks hP hS (Nat.zero_le _) (Nat.zero_le _) (by rw [← (Option.some.inj h)] <;> rfl) dX11_belowNow_144
                refine lv_icmp_ne (tgt := 143) hx hb dX11_belowNow_136 (by decide) (fun c15 => ?_) (fun c15 => ?_)
                · refine lv_iconst (v := 0) hx hb dX11_belowNow_143 rfl ?_
                  exact J16 _ _ ls 0 (by rw [decide_eq_false c15] <;> rfl) hP hS (lv_sub hl [4, 5, 6, 7, 8, 3, 2, 1, 0] rfl)
                · refine lv_iconst (v := 1) hx hb dX11_belowNow_139 rfl ?_
                  refine lv_goto (tgt := 144) hx hb dX11_belowNow_140 (by decide) ?_
                  exact J16 _ _ ls 1 (by rw [decide_eq_true c15] <;> rfl) hP hS (lv_sub hl [4, 5, 6, 7, 8, 3, 2, 1, 0] rfl)
      · rw [if_neg c6] at h
        refine lv_iconst (v := (-1)) hx hb dX11_belowNow_41 rfl ?_
        exact hy_iret (T := (Mc, M, Mo)) hx hb hr hlocks hP hS (Nat.zero_le _) (Nat.zero_le _) (by rw [← (Option.some.inj h)] <;> rfl) dX11_belowNow_42
set_option maxHeartbeats 1000000 in
set_option maxRecDepth 100000 in
theorem c_Rf_below {l : Launch} {G : hyG} (Mc Mo : hyM) (a1 : Int32) (a2 : Int32) (a3 : Int32) (a4 : Int32) (M : hyM) {res : (Int32 × hyM)} (h : Rf_below a1 a2 a3 a4 M = some res) : hyC l yX11_below (.code yX11_below cX11_below 6 (some .int)) 5 118 (0) G [.ref (adr G 30), .int a1, .int a2, .int a3, .int a4] (Mc, M, Mo) (.inr (some (.int res.1)), (Mc, res.2, Mo)) := by
  refine hy_of (by decide +kernel) (Nat.le_of_ble_eq_true rfl) ?_
  intro p e s m below meth c hx hb hml hown hts hr hlocks ht hX hP hS ls hl
  have hl : lv_has ls 6 [(0, .ref (adr G 30)), (1, .int a1), (2, .int a2), (3, .int a3), (4, .int a4)] := hl
  rw [Rf_below] at h
  refine lv_aload_n hx hb dX11_below_0 rfl (lv_at hl 0 rfl) ?_
  obtain ⟨M1, hM1, h⟩ := hy_bind h
  refine hy_ret (hy_rV0 (T := (Mc, M, Mo)) (v := none) (T2 := (Mc, M1, Mo)) (As := []) (rest := []) (n := 0) hx hb hml hown hts hX hP hS hl (c_Rf_laySung Mc Mo M hM1) m_Rf_laySung q_1360 (hy_recv hX hP 30 10 (by decide) rfl rfl) rfl rfl (Nat.le_of_ble_eq_true rfl) dX11_below_1 ⟨Nat.le_of_ble_eq_true rfl, Nat.le_of_ble_eq_true rfl⟩ ⟨Nat.zero_le _, Nat.zero_le _⟩) hS (fun H locs hP hS => ?_)
  refine lv_iload_n hx hb dX11_below_4 rfl (lv_at hl 1 rfl) ?_
  refine lv_iconst (v := 0) hx hb dX11_below_5 rfl ?_
  refine lv_iconst (v := 3) hx hb dX11_below_6 rfl ?_
  refine hy_ret (hy_rS0 (T := (Mc, M1, Mo)) (v := some (.int (bI (Rf_within a1 0 3 M1)))) (T2 := (Mc, M1, Mo)) (As := [.int a1, .int 0, .int 3]) (rest := []) (n := 0) hx hb hml hown hts hX hP hS hl (c_Rf_within Mc Mo a1 0 3 M1 rfl) m_Rf_within q_1310 rfl rfl (Nat.le_of_ble_eq_true rfl) dX11_below_7 ⟨Nat.le_of_ble_eq_true rfl, Nat.le_of_ble_eq_true rfl⟩ ⟨Nat.zero_le _, Nat.zero_le _⟩) hS (fun H locs hP hS => ?_)
  have J33 : ∀ (H : Heap) (locs : List Loc) (ls : Array Slot) (u1 : Int32), u1 = (bI (if (Rf_within a1 0 3 M1) then (Rf_within a2 0 ((M1.1 30 25) - 1) M1) else false)) → va_P G.1 vwCl (wld G (Mc, M1, Mo)) H → va_S (hyA G) s.heap H locs → lv_has ls 6 [(0, .ref (adr G 30)), (1, .int a1), (2, .int a2), (3, .int a3), (4, .int a4)] → W p l e { frames := 5, cells := 0, slots := 6 * 0, locals := 118 } s m ([.ref (adr G 30), .int a1, .int a2, .int a3, .int a4] : List Value).toArray below meth c H locs 0 0 (vx_MQ below (hyQ G (.inr (some (.int res.1)), (Mc, res.2, Mo))) (hyXQ G (.inr (some (.int res.1)), (Mc, res.2, Mo))) ([.ref (adr G 30), .int a1, .int a2, .int a3, .int a4] : List Value).toArray s 0 (6 * 0) (hyA G)) (F0 m 32 ls [.int u1]) := by
    intro H locs ls u1 eu1 hP hS hl
    subst eu1
    refine lv_istore (lv' := [(5, .int (bI (if (Rf_within a1 0 3 M1) then (Rf_within a2 0 ((M1.1 30 25) - 1) M1) else false))), (0, .ref (adr G 30)), (1, .int a1), (2, .int a2), (3, .int a3), (4, .int a4)]) hx hb dX11_below_32 hl (by decide) rfl (fun ls hl => ?_)
    refine lv_iload hx hb dX11_below_34 (lv_at hl 0 rfl) ?_
    refine lv_if_eq (tgt := 74) hx hb dX11_below_36 (by decide) (fun c4 => ?_) (fun c4 => ?_)
    · rw [if_neg (bI_0 c4)] at h
      refine lv_iconst (v := 0) hx hb dX11_below_74 rfl ?_
      refine lv_istore (lv' := [(5, .int 0), (0, .ref (adr G 30)), (1, .int a1), (2, .int a2), (3, .int a3), (4, .int a4)]) hx hb dX11_below_75 hl (by decide) rfl (fun ls hl => ?_)
      refine lv_aload_n hx hb dX11_below_77 rfl (lv_at hl 1 rfl) ?_
      refine lv_iload hx hb dX11_below_78 (lv_at hl 0 rfl) ?_
      refine lv_if_ne (tgt := 87) hx hb dX11_below_80 (by decide) (fun c6 => by first | exact absurd c6 (by decide) | exact absurd (by decide) c6) (fun c6 => ?_)
      refine lv_iconst (v := 1) hx hb dX11_below_83 rfl ?_
      refine lv_goto (tgt := 102) hx hb dX11_below_84 (by decide) ?_
      refine hy_putI (ty := .int) (T := (Mc, M1, Mo)) (T2 := (Mc, (wI M1 30 0 1), Mo)) (o := 30) (k := 0) hx hb hown hts hX hP hS (by decide) rfl rfl rfl rfl inX11g tyX11_ok nmX11 (by decide) q_1192 rfl rfl rfl rfl (Nat.le_of_ble_eq_true rfl) dX11_below_102 (fun H locs hP hS => ?_)
      obtain ⟨M14, hM14, h⟩ := hy_bind h
      rw [Option.some.inj hM14] at hP
      refine lv_aload_n hx hb dX11_below_105 rfl (lv_at hl 1 rfl) ?_
      refine hy_get (T := (Mc, M14, Mo)) (o := 30) (k := 0) (v := .int (M14.1 30 0)) hx hb hown hts hX hP (by decide) rfl rfl inX11g (by decide) q_1192 rfl dX11_below_106 ?_
      refine lv_if_le (tgt := 116) hx hb dX11_below_109 (by decide) (fun c15 => ?_) (fun c15 => ?_)
      · rw [if_pos c15] at h
        refine lv_aload_n hx hb dX11_below_116 rfl (lv_at hl 1 rfl) ?_
        refine lv_iload_n hx hb dX11_below_117 rfl (lv_at hl 2 rfl) ?_
        refine lv_iload_n hx hb dX11_below_118 rfl (lv_at hl 3 rfl) ?_
        refine lv_aload_n hx hb dX11_below_119 rfl (lv_at hl 1 rfl) ?_
        refine hy_get (T := (Mc, M14, Mo)) (o := 30) (k := 22) (v := .ref (adr G 43)) hx hb hown hts hX hP (by decide) rfl rfl inX11g (by decide) q_1214 rfl dX11_below_120 ?_
        refine lv_aload_n hx hb dX11_below_123 rfl (lv_at hl 1 rfl) ?_
        refine hy_get (T := (Mc, M14, Mo)) (o := 30) (k := 26) (v := .ref (adr G 46)) hx hb hown hts hX hP (by decide) rfl rfl inX11g (by decide) q_1218 rfl dX11_below_124 ?_
        refine lv_iload_n hx hb dX11_below_127 rfl (lv_at hl 3 rfl) ?_
        obtain ⟨v16, hv16, h⟩ := hy_bind h
        obtain ⟨nv16, hv16⟩ := ldE_some hv16
        refine hy_iald (T := (Mc, M14, Mo)) hx hb hX hP 46 80 (M14.1 46) (by decide) rfl nv16 dX11_below_128 ?_
        rw [hv16]
        obtain ⟨v17, hv17, h⟩ := hy_bind h
        obtain ⟨nv17, hv17⟩ := ldE_some hv17
        refine hy_iald (T := (Mc, M14, Mo)) hx hb hX hP 43 40 (M14.1 43) (by decide) rfl nv17 dX11_below_129 ?_
        rw [hv17]
        refine lv_iload_n hx hb dX11_below_130 rfl (lv_at hl 4 rfl) ?_
        refine lv_iadd hx hb dX11_below_131 ?_
        refine lv_iload hx hb dX11_below_132 (lv_at hl 5 rfl) ?_
        obtain ⟨v18, hv18, h⟩ := hy_bind h
        refine hy_ret (hy_rV0 (T := (Mc, M14, Mo)) (v := some (.int v18)) (T2 := (Mc, M14, Mo)) (As := [.int a1, .int a2, .int (v17 + a3), .int a4]) (rest := []) (n := 0) hx hb hml hown hts hX hP hS hl (c_Rf_belowNow Mc Mo a1 a2 (v17 + a3) a4 M14 hv18) m_Rf_belowNow q_1597 (hy_recv hX hP 30 10 (by decide) rfl rfl) rfl rfl (Nat.le_of_ble_eq_true rfl) dX11_below_134 ⟨Nat.le_of_ble_eq_true rfl, Nat.le_of_ble_eq_true rfl⟩ ⟨Nat.zero_le _, Nat.zero_le _⟩) hS (fun H locs hP hS => ?_)
        exact hy_iret (T := (Mc, M14, Mo)) hx hb hr hlocks hP hS (Nat.zero_le _) (Nat.zero_le _) (by rw [← (Option.some.inj h)] <;> rfl) dX11_below_137
      · rw [if_neg c15] at h
        refine lv_iconst (v := 0) hx hb dX11_below_112 rfl ?_
        refine lv_goto (tgt := 137) hx hb dX11_below_113 (by decide) ?_
        exact hy_iret (T := (Mc, M14, Mo)) hx hb hr hlocks hP hS (Nat.zero_le _) (Nat.zero_le _) (by rw [← (Option.some.inj h)] <;> rfl) dX11_below_137
    · rw [if_pos (bI_1 c4)] at h
      refine lv_iload_n hx hb dX11_below_39 rfl (lv_at hl 4 rfl) ?_
      refine lv_iconst (v := 0) hx hb dX11_below_40 rfl ?_
      refine lv_aload_n hx hb dX11_below_41 rfl (lv_at hl 1 rfl) ?_
      refine hy_get (T := (Mc, M1, Mo)) (o := 30) (k := 23) (v := .ref (adr G 44)) hx hb hown hts hX hP (by decide) rfl rfl inX11g (by decide) q_1215 rfl dX11_below_42 ?_
      refine lv_aload_n hx hb dX11_below_45 rfl (lv_at hl 1 rfl) ?_
      refine hy_get (T := (Mc, M1, Mo)) (o := 30) (k := 26) (v := .ref (adr G 46)) hx hb hown hts hX hP (by decide) rfl rfl inX11g (by decide) q_1218 rfl dX11_below_46 ?_
      refine lv_iload_n hx hb dX11_below_49 rfl (lv_at hl 3 rfl) ?_
      obtain ⟨v19, hv19, h⟩ := hy_bind h
      obtain ⟨nv19, hv19⟩ := ldE_some hv19
      refine hy_iald (T := (Mc, M1, Mo)) hx hb hX hP 46 80 (M1.1 46) (by decide) rfl nv19 dX11_below_50 ?_
      rw [hv19]
      obtain ⟨v20, hv20, h⟩ := hy_bind h
      obtain ⟨nv20, hv20⟩ := ldE_some hv20
      refine hy_iald (T := (Mc, M1, Mo)) hx hb hX hP 44 40 (M1.1 44) (by decide) rfl nv20 dX11_below_51 ?_
      rw [hv20]
      refine lv_aload_n hx hb dX11_below_52 rfl (lv_at hl 1 rfl) ?_
      refine hy_get (T := (Mc, M1, Mo)) (o := 30) (k := 22) (v := .ref (adr G 43)) hx hb hown hts hX hP (by decide) rfl rfl inX11g (by decide) q_1214 rfl dX11_below_53 ?_
      refine lv_aload_n hx hb dX11_below_56 rfl (lv_at hl 1 rfl) ?_
      refine hy_get (T := (Mc, M1, Mo)) (o := 30) (k := 26) (v := .ref (adr G 46)) hx hb hown hts hX hP (by decide) rfl rfl inX11g (by decide) q_1218 rfl dX11_below_57 ?_
      refine lv_iload_n hx hb dX11_below_60 rfl (lv_at hl 3 rfl) ?_
      obtain ⟨v21, hv21, h⟩ := hy_bind h
      obtain ⟨nv21, hv21⟩ := ldE_some hv21
      refine hy_iald (T := (Mc, M1, Mo)) hx hb hX hP 46 80 (M1.1 46) (by decide) rfl nv21 dX11_below_61 ?_
      rw [hv21]
      obtain ⟨v22, hv22, h⟩ := hy_bind h
      obtain ⟨nv22, hv22⟩ := ldE_some hv22
      refine hy_iald (T := (Mc, M1, Mo)) hx hb hX hP 43 40 (M1.1 43) (by decide) rfl nv22 dX11_below_62 ?_
      rw [hv22]
      refine lv_isub hx hb dX11_below_63 ?_
      refine hy_ret (hy_rS0 (T := (Mc, M1, Mo)) (v := some (.int (bI (Rf_within a3 0 (v20 - v22) M1)))) (T2 := (Mc, M1, Mo)) (As := [.int a3, .int 0, .int (v20 - v22)]) (rest := []) (n := 0) hx hb hml hown hts hX hP hS hl (c_Rf_within Mc Mo a3 0 (v20 - v22) M1 rfl) m_Rf_within q_1310 rfl rfl (Nat.le_of_ble_eq_true rfl) dX11_below_64 ⟨Nat.le_of_ble_eq_true rfl, Nat.le_of_ble_eq_true rfl⟩ ⟨Nat.zero_le _, Nat.zero_le _⟩) hS (fun H locs hP hS => ?_)
      have J32 : ∀ (H : Heap) (locs : List Loc) (ls : Array Slot) (u1 : Int32), u1 = (bI (Rf_within a3 0 (v20 - v22) M1)) → va_P G.1 vwCl (wld G (Mc, M1, Mo)) H → va_S (hyA G) s.heap H locs → lv_has ls 6 [(0, .ref (adr G 30)), (1, .int a1), (2, .int a2), (3, .int a3), (4, .int a4), (5, .int (bI (if (Rf_within a1 0 3 M1) then (Rf_within a2 0 ((M1.1 30 25) - 1) M1) else false)))] → W p l e { frames := 5, cells := 0, slots := 6 * 0, locals := 118 } s m ([.ref (adr G 30), .int a1, .int a2, .int a3, .int a4] : List Value).toArray below meth c H locs 0 0 (vx_MQ below (hyQ G (.inr (some (.int res.1)), (Mc, res.2, Mo))) (hyXQ G (.inr (some (.int res.1)), (Mc, res.2, Mo))) ([.ref (adr G 30), .int a1, .int a2, .int a3, .int a4] : List Value).toArray s 0 (6 * 0) (hyA G)) (F0 m 75 ls [.int u1]) := by
        intro H locs ls u1 eu1 hP hS hl
        subst eu1
        refine lv_istore (lv' := [(5, .int (bI (Rf_within a3 0 (v20 - v22) M1))), (0, .ref (adr G 30)), (1, .int a1), (2, .int a2), (3, .int a3), (4, .int a4)]) hx hb dX11_below_75 hl (by decide) rfl (fun ls hl => ?_)
        refine lv_aload_n hx hb dX11_below_77 rfl (lv_at hl 1 rfl) ?_
        refine lv_iload hx hb dX11_below_78 (lv_at hl 0 rfl) ?_
        have J31 : ∀ (H : Heap) (locs : List Loc) (ls : Array Slot) (u1 : Int32), u1 = (if (Rf_within a3 0 (v20 - v22) M1) then (if (Rf_within a4 0 3 M1) then 0 else 2) else 1) → va_P G.1 vwCl (wld G (Mc, M1, Mo)) H → va_S (hyA G) s.heap H locs → lv_has ls 6 [(0, .ref (adr G 30)), (1, .int a1), (2, .int a2), (3, .int a3), (4, .int a4), (5, .int (bI (Rf_within a3 0 (v20 - v22) M1)))] → W p l e { frames := 5, cells := 0, slots := 6 * 0, locals := 118 } s m ([.ref (adr G 30), .int a1, .int a2, .int a3, .int a4] : List Value).toArray below meth c H locs 0 0 (vx_MQ below (hyQ G (.inr (some (.int res.1)), (Mc, res.2, Mo))) (hyXQ G (.inr (some (.int res.1)), (Mc, res.2, Mo))) ([.ref (adr G 30), .int a1, .int a2, .int a3, .int a4] : List Value).toArray s 0 (6 * 0) (hyA G)) (F0 m 102 ls [.int u1, .ref (adr G 30)]) := by
          intro H locs ls u1 eu1 hP hS hl
          subst eu1
          refine hy_putI (ty := .int) (T := (Mc, M1, Mo)) (T2 := (Mc, (wI M1 30 0 (if (Rf_within a3 0 (v20 - v22) M1) then (if (Rf_within a4 0 3 M1) then 0 else 2) else 1)), Mo)) (o := 30) (k := 0) hx hb hown hts hX hP hS (by decide) rfl rfl rfl rfl inX11g tyX11_ok nmX11 (by decide) q_1192 rfl rfl rfl rfl (Nat.le_of_ble_eq_true rfl) dX11_below_102 (fun H locs hP hS => ?_)
          obtain ⟨M26, hM26, h⟩ := hy_bind h
          rw [Option.some.inj hM26] at hP
          refine lv_aload_n hx hb dX11_below_105 rfl (lv_at hl 0 rfl) ?_
          refine hy_get (T := (Mc, M26, Mo)) (o := 30) (k := 0) (v := .int (M26.1 30 0)) hx hb hown hts hX hP (by decide) rfl rfl inX11g (by decide) q_1192 rfl dX11_below_106 ?_
          refine lv_if_le (tgt := 116) hx hb dX11_below_109 (by decide) (fun c27 => ?_) (fun c27 => ?_)
          · rw [if_pos c27] at h
            refine lv_aload_n hx hb dX11_below_116 rfl (lv_at hl 0 rfl) ?_
            refine lv_iload_n hx hb dX11_below_117 rfl (lv_at hl 1 rfl) ?_
            refine lv_iload_n hx hb dX11_below_118 rfl (lv_at hl 2 rfl) ?_
            refine lv_aload_n hx hb dX11_below_119 rfl (lv_at hl 0 rfl) ?_
            refine hy_get (T := (Mc, M26, Mo)) (o := 30) (k := 22) (v := .ref (adr G 43)) hx hb hown hts hX hP (by decide) rfl rfl inX11g (by decide) q_1214 rfl dX11_below_120 ?_
            refine lv_aload_n hx hb dX11_below_123 rfl (lv_at hl 0 rfl) ?_
            refine hy_get (T := (Mc, M26, Mo)) (o := 30) (k := 26) (v := .ref (adr G 46)) hx hb hown hts hX hP (by decide) rfl rfl inX11g (by decide) q_1218 rfl dX11_below_124 ?_
            refine lv_iload_n hx hb dX11_below_127 rfl (lv_at hl 2 rfl) ?_
            obtain ⟨v28, hv28, h⟩ := hy_bind h
            obtain ⟨nv28, hv28⟩ := ldE_some hv28
            refine hy_iald (T := (Mc, M26, Mo)) hx hb hX hP 46 80 (M26.1 46) (by decide) rfl nv28 dX11_below_128 ?_
            rw [hv28]
            obtain ⟨v29, hv29, h⟩ := hy_bind h
            obtain ⟨nv29, hv29⟩ := ldE_some hv29
            refine hy_iald (T := (Mc, M26, Mo)) hx hb hX hP 43 40 (M26.1 43) (by decide) rfl nv29 dX11_below_129 ?_
            rw [hv29]
            refine lv_iload_n hx hb dX11_below_130 rfl (lv_at hl 3 rfl) ?_
            refine lv_iadd hx hb dX11_below_131 ?_
            refine lv_iload hx hb dX11_below_132 (lv_at hl 4 rfl) ?_
            obtain ⟨v30, hv30, h⟩ := hy_bind h
            refine hy_ret (hy_rV0 (T := (Mc, M26, Mo)) (v := some (.int v30)) (T2 := (Mc, M26, Mo)) (As := [.int a1, .int a2, .int (v29 + a3), .int a4]) (rest := []) (n := 0) hx hb hml hown hts hX hP hS hl (c_Rf_belowNow Mc Mo a1 a2 (v29 + a3) a4 M26 hv30) m_Rf_belowNow q_1597 (hy_recv hX hP 30 10 (by decide) rfl rfl) rfl rfl (Nat.le_of_ble_eq_true rfl) dX11_below_134 ⟨Nat.le_of_ble_eq_true rfl, Nat.le_of_ble_eq_true rfl⟩ ⟨Nat.zero_le _, Nat.zero_le _⟩) hS (fun H locs hP hS => ?_)
            exact hy_iret (T := (Mc, M26, Mo)) hx hb hr hlocks hP hS (Nat.zero_le _) (Nat.zero_le _) (by rw [← (Option.some.inj h)] <;> rfl) dX11_below_137
          · rw [if_neg c27] at h
            refine lv_iconst (v := 0) hx hb dX11_below_112 rfl ?_
            refine lv_goto (tgt := 137) hx hb dX11_below_113 (by decide) ?_
            exact hy_iret (T := (Mc, M26, Mo)) hx hb hr hlocks hP hS (Nat.zero_le _) (Nat.zero_le _) (by rw [← (Option.some.inj h)] <;> rfl) dX11_below_137
        refine lv_if_ne (tgt := 87) hx hb dX11_below_80 (by decide) (fun c24 => ?_) (fun c24 => ?_)
        · refine lv_iload hx hb dX11_below_87 (lv_at hl 5 rfl) ?_
          refine lv_iconst (v := 0) hx hb dX11_below_89 rfl ?_
          refine lv_iconst (v := 3) hx hb dX11_below_90 rfl ?_
          refine hy_ret (hy_rS0 (T := (Mc, M1, Mo)) (v := some (.int (bI (Rf_within a4 0 3 M1)))) (T2 := (Mc, M1, Mo)) (As := [.int a4, .int 0, .int 3]) (rest := [.ref (adr G 30)]) (n := 0) hx hb hml hown hts hX hP hS hl (c_Rf_within Mc Mo a4 0 3 M1 rfl) m_Rf_within q_1310 rfl rfl (Nat.le_of_ble_eq_true rfl) dX11_below_91 ⟨Nat.le_of_ble_eq_true rfl, Nat.le_of_ble_eq_true rfl⟩ ⟨Nat.zero_le _, Nat.zero_le _⟩) hS (fun H locs hP hS => ?_)
          refine lv_if_eq (tgt := 101) hx hb dX11_below_94 (by decide) (fun c25 => ?_) (fun c25 => ?_)
          · refine lv_iconst (v := 2) hx hb dX11_below_101 rfl ?_
            exact J31 _ _ ls 2 (by rw [if_pos (bI_1 c24), if_neg (bI_0 c25)] <;> rfl) hP hS (lv_sub hl [1, 2, 3, 4, 5, 0] rfl)
          · refine lv_iconst (v := 0) hx hb dX11_below_97 rfl ?_
            refine lv_goto (tgt := 102) hx hb dX11_below_98 (by decide) ?_
            exact J31 _ _ ls 0 (by rw [if_pos (bI_1 c24), if_pos (bI_1 c25)] <;> rfl) hP hS (lv_sub hl [1, 2, 3, 4, 5, 0] rfl)
        · refine lv_iconst (v := 1) hx hb dX11_below_83 rfl ?_
          refine lv_goto (tgt := 102) hx hb dX11_below_84 (by decide) ?_
          exact J31 _ _ ls 1 (by rw [if_neg (bI_0 c24)] <;> rfl) hP hS (lv_sub hl [1, 2, 3, 4, 5, 0] rfl)
      refine lv_if_eq (tgt := 74) hx hb dX11_below_67 (by decide) (fun c23 => ?_) (fun c23 => ?_)
      · refine lv_iconst (v := 0) hx hb dX11_below_74 rfl ?_
        exact J32 _ _ ls 0 (by rw [(bI_z c23)] <;> rfl) hP hS (lv_sub hl [1, 2, 3, 4, 5, 0] rfl)
      · refine lv_iconst (v := 1) hx hb dX11_below_70 rfl ?_
        refine lv_goto (tgt := 75) hx hb dX11_below_71 (by decide) ?_
        exact J32 _ _ ls 1 (by rw [(bI_1 c23)] <;> rfl) hP hS (lv_sub hl [1, 2, 3, 4, 5, 0] rfl)
  refine lv_if_eq (tgt := 31) hx hb dX11_below_10 (by decide) (fun c2 => ?_) (fun c2 => ?_)
  · refine lv_iconst (v := 0) hx hb dX11_below_31 rfl ?_
    exact J33 _ _ ls 0 (by rw [if_neg (bI_0 c2)] <;> rfl) hP hS (lv_sub hl [0, 1, 2, 3, 4] rfl)
  · refine lv_iload_n hx hb dX11_below_13 rfl (lv_at hl 2 rfl) ?_
    refine lv_iconst (v := 0) hx hb dX11_below_14 rfl ?_
    refine lv_aload_n hx hb dX11_below_15 rfl (lv_at hl 0 rfl) ?_
    refine hy_get (T := (Mc, M1, Mo)) (o := 30) (k := 25) (v := .int (M1.1 30 25)) hx hb hown hts hX hP (by decide) rfl rfl inX11g (by decide) q_1217 rfl dX11_below_16 ?_
    refine lv_iconst (v := 1) hx hb dX11_below_19 rfl ?_
    refine lv_isub hx hb dX11_below_20 ?_
    refine hy_ret (hy_rS0 (T := (Mc, M1, Mo)) (v := some (.int (bI (Rf_within a2 0 ((M1.1 30 25) - 1) M1)))) (T2 := (Mc, M1, Mo)) (As := [.int a2, .int 0, .int ((M1.1 30 25) - 1)]) (rest := []) (n := 0) hx hb hml hown hts hX hP hS hl (c_Rf_within Mc Mo a2 0 ((M1.1 30 25) - 1) M1 rfl) m_Rf_within q_1310 rfl rfl (Nat.le_of_ble_eq_true rfl) dX11_below_21 ⟨Nat.le_of_ble_eq_true rfl, Nat.le_of_ble_eq_true rfl⟩ ⟨Nat.zero_le _, Nat.zero_le _⟩) hS (fun H locs hP hS => ?_)
    refine lv_if_eq (tgt := 31) hx hb dX11_below_24 (by decide) (fun c3 => ?_) (fun c3 => ?_)
    · refine lv_iconst (v := 0) hx hb dX11_below_31 rfl ?_
      exact J33 _ _ ls 0 (by rw [if_pos (bI_1 c2), (bI_z c3)] <;> rfl) hP hS (lv_sub hl [0, 1, 2, 3, 4] rfl)
    · refine lv_iconst (v := 1) hx hb dX11_below_27 rfl ?_
      refine lv_goto (tgt := 32) hx hb dX11_below_28 (by decide) ?_
      exact J33 _ _ ls 1 (by rw [if_pos (bI_1 c2), (bI_1 c3)] <;> rfl) hP hS (lv_sub hl [0, 1, 2, 3, 4] rfl)
set_option maxHeartbeats 1000000 in
set_option maxRecDepth 100000 in
theorem c_Rf_distanceNow {l : Launch} {G : hyG} (Mc Mo : hyM) (a1 : Int32) (M : hyM) {res : Int32} (h : Rf_distanceNow a1 M = some res) : hyC l yX11_distanceNow (.code yX11_distanceNow cX11_distanceNow 5 (some .int)) 2 44 (0) G [.ref (adr G 30), .int a1] (Mc, M, Mo) (.inr (some (.int res)), (Mc, M, Mo)) := by
  refine hy_of (by decide +kernel) (Nat.le_of_ble_eq_true rfl) ?_
  intro p e s m below meth c hx hb hml hown hts hr hlocks ht hX hP hS ls hl
  have hl : lv_has ls 5 [(0, .ref (adr G 30)), (1, .int a1)] := hl
  rw [Rf_distanceNow] at h
  refine lv_aload_n hx hb dX11_distanceNow_0 rfl (lv_at hl 0 rfl) ?_
  refine hy_get (T := (Mc, M, Mo)) (o := 30) (k := 17) (v := .ref (adr G 40)) hx hb hown hts hX hP (by decide) rfl rfl inX11g (by decide) q_1209 rfl dX11_distanceNow_1 ?_
  refine lv_iload_n hx hb dX11_distanceNow_4 rfl (lv_at hl 1 rfl) ?_
  obtain ⟨v1, hv1, h⟩ := hy_bind h
  obtain ⟨nv1, hv1⟩ := ldE_some hv1
  refine hy_iald (T := (Mc, M, Mo)) hx hb hX hP 40 8 (M.1 40) (by decide) rfl nv1 dX11_distanceNow_5 ?_
  rw [hv1]
  refine lv_aload_n hx hb dX11_distanceNow_6 rfl (lv_at hl 0 rfl) ?_
  refine hy_get (T := (Mc, M, Mo)) (o := 30) (k := 25) (v := .int (M.1 30 25)) hx hb hown hts hX hP (by decide) rfl rfl inX11g (by decide) q_1217 rfl dX11_distanceNow_7 ?_
  refine lv_icmp_eq (tgt := 15) hx hb dX11_distanceNow_10 (by decide) (fun c2 => ?_) (fun c2 => ?_)
  · rw [if_pos c2] at h
    refine lv_iconst (v := 0) hx hb dX11_distanceNow_15 rfl ?_
    refine lv_istore_n (lv' := [(2, .int 0), (0, .ref (adr G 30)), (1, .int a1)]) hx hb dX11_distanceNow_16 rfl hl (by decide) rfl (fun ls hl => ?_)
    refine lv_iconst (v := 0) hx hb dX11_distanceNow_17 rfl ?_
    refine lv_istore_n (lv' := [(3, .int 0), (2, .int 0), (0, .ref (adr G 30)), (1, .int a1)]) hx hb dX11_distanceNow_18 rfl hl (by decide) rfl (fun ls hl => ?_)
    have L11 : ∀ (f : Nat) (x3 : Int32) (x4 : Int32) (qL : (Int32 × Int32)) (h : Rf_distanceNow_L19 a1 M f x3 x4 = some qL) (H : Heap) (locs : List Loc) (ls : Array Slot) (hP : va_P G.1 vwCl (wld G (Mc, M, Mo)) H) (hS : va_S (hyA G) s.heap H locs) (hl : lv_has ls 5 [(0, .ref (adr G 30)), (1, .int a1), (2, .int x3), (3, .int x4)]) (kk : ∀ (y3 : Int32) (y4 : Int32), qL = (y3, y4) → ∀ (H : Heap) (locs : List Loc) (ls : Array Slot), va_P G.1 vwCl (wld G (Mc, M, Mo)) H → va_S (hyA G) s.heap H locs → lv_has ls 5 [(0, .ref (adr G 30)), (1, .int a1), (2, .int y3), (3, .int y4)] → W p l e { frames := 2, cells := 0, slots := 6 * 0, locals := 44 } s m ([.ref (adr G 30), .int a1] : List Value).toArray below meth c H locs 0 0 (vx_MQ below (hyQ G (.inr (some (.int res)), (Mc, M, Mo))) (hyXQ G (.inr (some (.int res)), (Mc, M, Mo))) ([.ref (adr G 30), .int a1] : List Value).toArray s 0 (6 * 0) (hyA G)) (F0 m 73 ls [])), W p l e { frames := 2, cells := 0, slots := 6 * 0, locals := 44 } s m ([.ref (adr G 30), .int a1] : List Value).toArray below meth c H locs 0 0 (vx_MQ below (hyQ G (.inr (some (.int res)), (Mc, M, Mo))) (hyXQ G (.inr (some (.int res)), (Mc, M, Mo))) ([.ref (adr G 30), .int a1] : List Value).toArray s 0 (6 * 0) (hyA G)) (F0 m 19 ls []) := by
      intro f
      induction f with
      | zero =>
        intro x3 x4 qL h H locs ls hP hS hl kk
        rw [Rf_distanceNow_L19] at h
        cases h
      | succ f ih =>
        intro x3 x4 qL h H locs ls hP hS hl kk
        rw [Rf_distanceNow_L19] at h
        refine lv_iload_n hx hb dX11_distanceNow_19 rfl (lv_at hl 3 rfl) ?_
        refine lv_aload_n hx hb dX11_distanceNow_20 rfl (lv_at hl 0 rfl) ?_
        refine hy_get (T := (Mc, M, Mo)) (o := 30) (k := 25) (v := .int (M.1 30 25)) hx hb hown hts hX hP (by decide) rfl rfl inX11g (by decide) q_1217 rfl dX11_distanceNow_21 ?_
        refine lv_icmp_ge (tgt := 73) hx hb dX11_distanceNow_24 (by decide) (fun c5 => ?_) (fun c5 => ?_)
        · rw [if_pos c5] at h
          exact kk x3 x4 (Option.some.inj h).symm _ _ ls hP hS (lv_sub hl [0, 1, 2, 3] rfl)
        · rw [if_neg c5] at h
          refine lv_aload_n hx hb dX11_distanceNow_27 rfl (lv_at hl 0 rfl) ?_
          refine hy_get (T := (Mc, M, Mo)) (o := 30) (k := 18) (v := .ref (adr G 41)) hx hb hown hts hX hP (by decide) rfl rfl inX11g (by decide) q_1210 rfl dX11_distanceNow_28 ?_
          refine lv_bipush (v := 24) hx hb dX11_distanceNow_31 rfl ?_
          refine lv_iload_n hx hb dX11_distanceNow_33 rfl (lv_at hl 1 rfl) ?_
          refine lv_imul hx hb dX11_distanceNow_34 ?_
          refine lv_iload_n hx hb dX11_distanceNow_35 rfl (lv_at hl 3 rfl) ?_
          refine lv_iadd hx hb dX11_distanceNow_36 ?_
          obtain ⟨v6, hv6, h⟩ := hy_bind h
          obtain ⟨nv6, hv6⟩ := ldE_some hv6
          refine hy_iald (T := (Mc, M, Mo)) hx hb hX hP 41 192 (M.1 41) (by decide) rfl nv6 dX11_distanceNow_37 ?_
          rw [hv6]
          refine lv_aload_n hx hb dX11_distanceNow_38 rfl (lv_at hl 0 rfl) ?_
          refine lv_aload_n hx hb dX11_distanceNow_39 rfl (lv_at hl 0 rfl) ?_
          refine hy_get (T := (Mc, M, Mo)) (o := 30) (k := 26) (v := .ref (adr G 46)) hx hb hown hts hX hP (by decide) rfl rfl inX11g (by decide) q_1218 rfl dX11_distanceNow_40 ?_
          refine lv_iload_n hx hb dX11_distanceNow_43 rfl (lv_at hl 3 rfl) ?_
          obtain ⟨v7, hv7, h⟩ := hy_bind h
          obtain ⟨nv7, hv7⟩ := ldE_some hv7
          refine hy_iald (T := (Mc, M, Mo)) hx hb hX hP 46 80 (M.1 46) (by decide) rfl nv7 dX11_distanceNow_44 ?_
          rw [hv7]
          obtain ⟨v8, hv8, h⟩ := hy_bind h
          refine hy_ret (hy_rV0 (T := (Mc, M, Mo)) (v := some (.int v8)) (T2 := (Mc, M, Mo)) (As := [.int v7]) (rest := [.int v6]) (n := 0) hx hb hml hown hts hX hP hS hl (c_Rf_syllablesOf Mc Mo v7 M hv8) m_Rf_syllablesOf q_1561 (hy_recv hX hP 30 10 (by decide) rfl rfl) rfl rfl (Nat.le_of_ble_eq_true rfl) dX11_distanceNow_45 ⟨Nat.le_of_ble_eq_true rfl, Nat.le_of_ble_eq_true rfl⟩ ⟨Nat.zero_le _, Nat.zero_le _⟩) hS (fun H locs hP hS => ?_)
          refine lv_isub hx hb dX11_distanceNow_48 ?_
          refine lv_istore (lv' := [(4, .int (v6 - v8)), (0, .ref (adr G 30)), (1, .int a1), (2, .int x3), (3, .int x4)]) hx hb dX11_distanceNow_49 hl (by decide) rfl (fun ls hl => ?_)
          refine lv_iload_n hx hb dX11_distanceNow_51 rfl (lv_at hl 3 rfl) ?_
          refine lv_iload hx hb dX11_distanceNow_52 (lv_at hl 0 rfl) ?_
          have J10 : ∀ (H : Heap) (locs : List Loc) (ls : Array Slot) (u1 : Int32), u1 = (if 0 ≤ (v6 - v8) then (v6 - v8) else (-(v6 - v8))) → va_P G.1 vwCl (wld G (Mc, M, Mo)) H → va_S (hyA G) s.heap H locs → lv_has ls 5 [(0, .ref (adr G 30)), (1, .int a1), (2, .int x3), (3, .int x4), (4, .int (v6 - v8))] → W p l e { frames := 2, cells := 0, slots := 6 * 0, locals := 44 } s m ([.ref (adr G 30), .int a1] : List Value).toArray below meth c H locs 0 0 (vx_MQ below (hyQ G (.inr (some (.int res)), (Mc, M, Mo))) (hyXQ G (.inr (some (.int res)), (Mc, M, Mo))) ([.ref (adr G 30), .int a1] : List Value).toArray s 0 (6 * 0) (hyA G)) (F0 m 65 ls [.int u1, .int x3]) := by
            intro H locs ls u1 eu1 hP hS hl
            subst eu1
            refine lv_iadd hx hb dX11_distanceNow_65 ?_
            refine lv_istore_n (lv' := [(2, .int (x3 + (if 0 ≤ (v6 - v8) then (v6 - v8) else (-(v6 - v8))))), (0, .ref (adr G 30)), (1, .int a1), (3, .int x4), (4, .int (v6 - v8))]) hx hb dX11_distanceNow_66 rfl hl (by decide) rfl (fun ls hl => ?_)
            refine lv_iinc (v := (x4 + 1)) (lv' := [(3, .int (x4 + 1)), (2, .int (x3 + (if 0 ≤ (v6 - v8) then (v6 - v8) else (-(v6 - v8))))), (0, .ref (adr G 30)), (1, .int a1), (4, .int (v6 - v8))]) hx hb dX11_distanceNow_67 hl (k := 3) rfl rfl (by decide) rfl (fun ls hl => ?_)
            refine lv_goto (tgt := 19) hx hb dX11_distanceNow_70 (by decide) ?_
            exact ih (x3 + (if 0 ≤ (v6 - v8) then (v6 - v8) else (-(v6 - v8)))) (x4 + 1) _ h  _ _ ls hP hS (lv_sub hl [2, 3, 1, 0] rfl) kk
          refine lv_if_ge (tgt := 63) hx hb dX11_distanceNow_54 (by decide) (fun c9 => ?_) (fun c9 => ?_)
          · refine lv_iload hx hb dX11_distanceNow_63 (lv_at hl 0 rfl) ?_
            exact J10 _ _ ls (v6 - v8) (by rw [if_pos c9] <;> rfl) hP hS (lv_sub hl [1, 2, 3, 4, 0] rfl)
          · refine lv_iload hx hb dX11_distanceNow_57 (lv_at hl 0 rfl) ?_
            refine lv_ineg hx hb dX11_distanceNow_59 ?_
            refine lv_goto (tgt := 65) hx hb dX11_distanceNow_60 (by decide) ?_
            exact J10 _ _ ls (-(v6 - v8)) (by rw [if_neg c9] <;> rfl) hP hS (lv_sub hl [1, 2, 3, 4, 0] rfl)
    obtain ⟨q12, hq12, h⟩ := hy_bind h
    refine L11 hyFu 0 0 q12 hq12 _ _ ls hP hS (lv_sub hl [2, 3, 1, 0] rfl) ?_
    intro y3 y4 e9 H locs ls hP hS hl
    subst e9
    try dsimp only at h
    refine lv_iload_n hx hb dX11_distanceNow_73 rfl (lv_at hl 2 rfl) ?_
    exact hy_iret (T := (Mc, M, Mo)) hx hb hr hlocks hP hS (Nat.zero_le _) (Nat.zero_le _) (by rw [← (Option.some.inj h)] <;> rfl) dX11_distanceNow_74
  · rw [if_neg c2] at h
    refine lv_iconst (v := (-1)) hx hb dX11_distanceNow_13 rfl ?_
    exact hy_iret (T := (Mc, M, Mo)) hx hb hr hlocks hP hS (Nat.zero_le _) (Nat.zero_le _) (by rw [← (Option.some.inj h)] <;> rfl) dX11_distanceNow_14
set_option maxHeartbeats 1000000 in
set_option maxRecDepth 100000 in
theorem c_Rf_distance {l : Launch} {G : hyG} (Mc Mo : hyM) (a1 : Int32) (M : hyM) {res : (Int32 × hyM)} (h : Rf_distance a1 M = some res) : hyC l yX11_distance (.code yX11_distance cX11_distance 2 (some .int)) 3 68 (0) G [.ref (adr G 30), .int a1] (Mc, M, Mo) (.inr (some (.int res.1)), (Mc, res.2, Mo)) := by
  refine hy_of (by decide +kernel) (Nat.le_of_ble_eq_true rfl) ?_
  intro p e s m below meth c hx hb hml hown hts hr hlocks ht hX hP hS ls hl
  have hl : lv_has ls 2 [(0, .ref (adr G 30)), (1, .int a1)] := hl
  rw [Rf_distance] at h
  refine lv_aload_n hx hb dX11_distance_0 rfl (lv_at hl 0 rfl) ?_
  refine lv_aload_n hx hb dX11_distance_1 rfl (lv_at hl 0 rfl) ?_
  refine lv_iload_n hx hb dX11_distance_2 rfl (lv_at hl 1 rfl) ?_
  refine hy_ret (hy_rV0 (T := (Mc, M, Mo)) (v := some (.int (bI (Rf_isMetre a1 M)))) (T2 := (Mc, M, Mo)) (As := [.int a1]) (rest := [.ref (adr G 30)]) (n := 0) hx hb hml hown hts hX hP hS hl (c_Rf_isMetre Mc Mo a1 M rfl) m_Rf_isMetre q_1466 (hy_recv hX hP 30 10 (by decide) rfl rfl) rfl rfl (Nat.le_of_ble_eq_true rfl) dX11_distance_3 ⟨Nat.le_of_ble_eq_true rfl, Nat.le_of_ble_eq_true rfl⟩ ⟨Nat.zero_le _, Nat.zero_le _⟩) hS (fun H locs hP hS => ?_)
  have J6 : ∀ (H : Heap) (locs : List Loc) (ls : Array Slot) (u1 : Int32), u1 = (bI (!(Rf_isMetre a1 M))) → va_P G.1 vwCl (wld G (Mc, M, Mo)) H → va_S (hyA G) s.heap H locs → lv_has ls 2 [(0, .ref (adr G 30)), (1, .int a1)] → W p l e { frames := 3, cells := 0, slots := 6 * 0, locals := 68 } s m ([.ref (adr G 30), .int a1] : List Value).toArray below meth c H locs 0 0 (vx_MQ below (hyQ G (.inr (some (.int res.1)), (Mc, res.2, Mo))) (hyXQ G (.inr (some (.int res.1)), (Mc, res.2, Mo))) ([.ref (adr G 30), .int a1] : List Value).toArray s 0 (6 * 0) (hyA G)) (F0 m 14 ls [.int u1, .ref (adr G 30)]) := by
    intro H locs ls u1 eu1 hP hS hl
    subst eu1
    refine hy_putI (ty := .int) (T := (Mc, M, Mo)) (T2 := (Mc, (wI M 30 0 (bI (!(Rf_isMetre a1 M)))), Mo)) (o := 30) (k := 0) hx hb hown hts hX hP hS (by decide) rfl rfl rfl rfl inX11g tyX11_ok nmX11 (by decide) q_1192 rfl rfl rfl rfl (Nat.le_of_ble_eq_true rfl) dX11_distance_14 (fun H locs hP hS => ?_)
    obtain ⟨M2, hM2, h⟩ := hy_bind h
    rw [Option.some.inj hM2] at hP
    refine lv_aload_n hx hb dX11_distance_17 rfl (lv_at hl 0 rfl) ?_
    refine hy_get (T := (Mc, M2, Mo)) (o := 30) (k := 0) (v := .int (M2.1 30 0)) hx hb hown hts hX hP (by decide) rfl rfl inX11g (by decide) q_1192 rfl dX11_distance_18 ?_
    refine lv_if_le (tgt := 26) hx hb dX11_distance_21 (by decide) (fun c3 => ?_) (fun c3 => ?_)
    · rw [if_pos c3] at h
      refine lv_aload_n hx hb dX11_distance_26 rfl (lv_at hl 0 rfl) ?_
      obtain ⟨M4, hM4, h⟩ := hy_bind h
      refine hy_ret (hy_rV0 (T := (Mc, M2, Mo)) (v := none) (T2 := (Mc, M4, Mo)) (As := []) (rest := []) (n := 0) hx hb hml hown hts hX hP hS hl (c_Rf_laySung Mc Mo M2 hM4) m_Rf_laySung q_1360 (hy_recv hX hP 30 10 (by decide) rfl rfl) rfl rfl (Nat.le_of_ble_eq_true rfl) dX11_distance_27 ⟨Nat.le_of_ble_eq_true rfl, Nat.le_of_ble_eq_true rfl⟩ ⟨Nat.zero_le _, Nat.zero_le _⟩) hS (fun H locs hP hS => ?_)
      refine lv_aload_n hx hb dX11_distance_30 rfl (lv_at hl 0 rfl) ?_
      refine lv_iload_n hx hb dX11_distance_31 rfl (lv_at hl 1 rfl) ?_
      obtain ⟨v5, hv5, h⟩ := hy_bind h
      refine hy_ret (hy_rV0 (T := (Mc, M4, Mo)) (v := some (.int v5)) (T2 := (Mc, M4, Mo)) (As := [.int a1]) (rest := []) (n := 0) hx hb hml hown hts hX hP hS hl (c_Rf_distanceNow Mc Mo a1 M4 hv5) m_Rf_distanceNow q_1605 (hy_recv hX hP 30 10 (by decide) rfl rfl) rfl rfl (Nat.le_of_ble_eq_true rfl) dX11_distance_32 ⟨Nat.le_of_ble_eq_true rfl, Nat.le_of_ble_eq_true rfl⟩ ⟨Nat.zero_le _, Nat.zero_le _⟩) hS (fun H locs hP hS => ?_)
      exact hy_iret (T := (Mc, M4, Mo)) hx hb hr hlocks hP hS (Nat.zero_le _) (Nat.zero_le _) (by rw [← (Option.some.inj h)] <;> rfl) dX11_distance_35
    · rw [if_neg c3] at h
      refine lv_iconst (v := 0) hx hb dX11_distance_24 rfl ?_
      exact hy_iret (T := (Mc, M2, Mo)) hx hb hr hlocks hP hS (Nat.zero_le _) (Nat.zero_le _) (by rw [← (Option.some.inj h)] <;> rfl) dX11_distance_25
  refine lv_if_eq (tgt := 13) hx hb dX11_distance_6 (by decide) (fun c1 => ?_) (fun c1 => ?_)
  · refine lv_iconst (v := 1) hx hb dX11_distance_13 rfl ?_
    exact J6 _ _ ls 1 (by rw [(bI_z c1)] <;> rfl) hP hS (lv_sub hl [0, 1] rfl)
  · refine lv_iconst (v := 0) hx hb dX11_distance_9 rfl ?_
    refine lv_goto (tgt := 14) hx hb dX11_distance_10 (by decide) ?_
    exact J6 _ _ ls 0 (by rw [(bI_1 c1)] <;> rfl) hP hS (lv_sub hl [0, 1] rfl)
set_option maxHeartbeats 1000000 in
set_option maxRecDepth 100000 in
theorem c_Rf_nearestNow {l : Launch} {G : hyG} (Mc Mo : hyM) (M : hyM) {res : Int32} (h : Rf_nearestNow M = some res) : hyC l yX11_nearestNow (.code yX11_nearestNow cX11_nearestNow 4 (some .int)) 3 68 (0) G [.ref (adr G 30)] (Mc, M, Mo) (.inr (some (.int res)), (Mc, M, Mo)) := by
  refine hy_of (by decide +kernel) (Nat.le_of_ble_eq_true rfl) ?_
  intro p e s m below meth c hx hb hml hown hts hr hlocks ht hX hP hS ls hl
  have hl : lv_has ls 4 [(0, .ref (adr G 30))] := hl
  rw [Rf_nearestNow] at h
  refine lv_iconst (v := (-1)) hx hb dX11_nearestNow_0 rfl ?_
  refine lv_istore_n (lv' := [(1, .int (-1)), (0, .ref (adr G 30))]) hx hb dX11_nearestNow_1 rfl hl (by decide) rfl (fun ls hl => ?_)
  refine lv_iconst (v := 0) hx hb dX11_nearestNow_2 rfl ?_
  refine lv_istore_n (lv' := [(2, .int 0), (1, .int (-1)), (0, .ref (adr G 30))]) hx hb dX11_nearestNow_3 rfl hl (by decide) rfl (fun ls hl => ?_)
  have L10 : ∀ (f : Nat) (x1 : Int32) (x2 : Int32) (qL : (Int32 × Int32)) (h : Rf_nearestNow_L4 M f x1 x2 = some qL) (H : Heap) (locs : List Loc) (ls : Array Slot) (hP : va_P G.1 vwCl (wld G (Mc, M, Mo)) H) (hS : va_S (hyA G) s.heap H locs) (hl : lv_has ls 4 [(0, .ref (adr G 30)), (1, .int x1), (2, .int x2)]) (kk : ∀ (y1 : Int32) (y2 : Int32), qL = (y1, y2) → ∀ (H : Heap) (locs : List Loc) (ls : Array Slot), va_P G.1 vwCl (wld G (Mc, M, Mo)) H → va_S (hyA G) s.heap H locs → lv_has ls 4 [(0, .ref (adr G 30)), (1, .int y1), (2, .int y2)] → W p l e { frames := 3, cells := 0, slots := 6 * 0, locals := 68 } s m ([.ref (adr G 30)] : List Value).toArray below meth c H locs 0 0 (vx_MQ below (hyQ G (.inr (some (.int res)), (Mc, M, Mo))) (hyXQ G (.inr (some (.int res)), (Mc, M, Mo))) ([.ref (adr G 30)] : List Value).toArray s 0 (6 * 0) (hyA G)) (F0 m 49 ls [])), W p l e { frames := 3, cells := 0, slots := 6 * 0, locals := 68 } s m ([.ref (adr G 30)] : List Value).toArray below meth c H locs 0 0 (vx_MQ below (hyQ G (.inr (some (.int res)), (Mc, M, Mo))) (hyXQ G (.inr (some (.int res)), (Mc, M, Mo))) ([.ref (adr G 30)] : List Value).toArray s 0 (6 * 0) (hyA G)) (F0 m 4 ls []) := by
    intro f
    induction f with
    | zero =>
      intro x1 x2 qL h H locs ls hP hS hl kk
      rw [Rf_nearestNow_L4] at h
      cases h
    | succ f ih =>
      intro x1 x2 qL h H locs ls hP hS hl kk
      rw [Rf_nearestNow_L4] at h
      refine lv_iload_n hx hb dX11_nearestNow_4 rfl (lv_at hl 2 rfl) ?_
      refine lv_aload_n hx hb dX11_nearestNow_5 rfl (lv_at hl 0 rfl) ?_
      refine hy_get (T := (Mc, M, Mo)) (o := 30) (k := 16) (v := .int (M.1 30 16)) hx hb hown hts hX hP (by decide) rfl rfl inX11g (by decide) q_1208 rfl dX11_nearestNow_6 ?_
      refine lv_icmp_ge (tgt := 49) hx hb dX11_nearestNow_9 (by decide) (fun c3 => ?_) (fun c3 => ?_)
      · rw [if_pos c3] at h
        exact kk x1 x2 (Option.some.inj h).symm _ _ ls hP hS (lv_sub hl [0, 1, 2] rfl)
      · rw [if_neg c3] at h
        refine lv_aload_n hx hb dX11_nearestNow_12 rfl (lv_at hl 0 rfl) ?_
        refine lv_iload_n hx hb dX11_nearestNow_13 rfl (lv_at hl 2 rfl) ?_
        obtain ⟨v4, hv4, h⟩ := hy_bind h
        refine hy_ret (hy_rV0 (T := (Mc, M, Mo)) (v := some (.int v4)) (T2 := (Mc, M, Mo)) (As := [.int x2]) (rest := []) (n := 0) hx hb hml hown hts hX hP hS hl (c_Rf_distanceNow Mc Mo x2 M hv4) m_Rf_distanceNow q_1605 (hy_recv hX hP 30 10 (by decide) rfl rfl) rfl rfl (Nat.le_of_ble_eq_true rfl) dX11_nearestNow_14 ⟨Nat.le_of_ble_eq_true rfl, Nat.le_of_ble_eq_true rfl⟩ ⟨Nat.zero_le _, Nat.zero_le _⟩) hS (fun H locs hP hS => ?_)
        refine lv_istore_n (lv' := [(3, .int v4), (0, .ref (adr G 30)), (1, .int x1), (2, .int x2)]) hx hb dX11_nearestNow_17 rfl hl (by decide) rfl (fun ls hl => ?_)
        refine lv_iload_n hx hb dX11_nearestNow_18 rfl (lv_at hl 0 rfl) ?_
        refine lv_iconst (v := (-1)) hx hb dX11_nearestNow_19 rfl ?_
        refine lv_icmp_eq (tgt := 41) hx hb dX11_nearestNow_20 (by decide) (fun c5 => ?_) (fun c5 => ?_)
        · rw [if_pos c5] at h
          refine lv_iload_n hx hb dX11_nearestNow_41 rfl (lv_at hl 2 rfl) ?_
          refine lv_istore_n (lv' := [(1, .int x1), (3, .int v4), (0, .ref (adr G 30)), (2, .int x2)]) hx hb dX11_nearestNow_42 rfl hl (by decide) rfl (fun ls hl => ?_)
          refine lv_iinc (v := (x2 + 1)) (lv' := [(2, .int (x2 + 1)), (1, .int x1), (3, .int v4), (0, .ref (adr G 30))]) hx hb dX11_nearestNow_43 hl (k := 3) rfl rfl (by decide) rfl (fun ls hl => ?_)
          refine lv_goto (tgt := 4) hx hb dX11_nearestNow_46 (by decide) ?_
          exact ih x1 (x2 + 1) _ h  _ _ ls hP hS (lv_sub hl [3, 1, 0] rfl) kk
        · rw [if_neg c5] at h
          refine lv_iload_n hx hb dX11_nearestNow_23 rfl (lv_at hl 2 rfl) ?_
          refine lv_iconst (v := (-1)) hx hb dX11_nearestNow_24 rfl ?_
          refine lv_icmp_eq (tgt := 37) hx hb dX11_nearestNow_25 (by decide) (fun c6 => ?_) (fun c6 => ?_)
          · rw [if_pos c6] at h
            refine lv_iload_n hx hb dX11_nearestNow_37 rfl (lv_at hl 3 rfl) ?_
            refine lv_goto (tgt := 42) hx hb dX11_nearestNow_38 (by decide) ?_
            refine lv_istore_n (lv' := [(1, .int x2), (3, .int v4), (0, .ref (adr G 30)), (2, .int x2)]) hx hb dX11_nearestNow_42 rfl hl (by decide) rfl (fun ls hl => ?_)
            refine lv_iinc (v := (x2 + 1)) (lv' := [(2, .int (x2 + 1)), (1, .int x2), (3, .int v4), (0, .ref (adr G 30))]) hx hb dX11_nearestNow_43 hl (k := 3) rfl rfl (by decide) rfl (fun ls hl => ?_)
            refine lv_goto (tgt := 4) hx hb dX11_nearestNow_46 (by decide) ?_
            exact ih x2 (x2 + 1) _ h  _ _ ls hP hS (lv_sub hl [3, 1, 0] rfl) kk
          · rw [if_neg c6] at h
            refine lv_iload_n hx hb dX11_nearestNow_28 rfl (lv_at hl 0 rfl) ?_
            refine lv_aload_n hx hb dX11_nearestNow_29 rfl (lv_at hl 1 rfl) ?_
            refine lv_iload_n hx hb dX11_nearestNow_30 rfl (lv_at hl 2 rfl) ?_
            obtain ⟨v7, hv7, h⟩ := hy_bind h
            refine hy_ret (hy_rV0 (T := (Mc, M, Mo)) (v := some (.int v7)) (T2 := (Mc, M, Mo)) (As := [.int x1]) (rest := [.int v4]) (n := 0) hx hb hml hown hts hX hP hS hl (c_Rf_distanceNow Mc Mo x1 M hv7) m_Rf_distanceNow q_1605 (hy_recv hX hP 30 10 (by decide) rfl rfl) rfl rfl (Nat.le_of_ble_eq_true rfl) dX11_nearestNow_31 ⟨Nat.le_of_ble_eq_true rfl, Nat.le_of_ble_eq_true rfl⟩ ⟨Nat.zero_le _, Nat.zero_le _⟩) hS (fun H locs hP hS => ?_)
            have J9 : ∀ (H : Heap) (locs : List Loc) (ls : Array Slot) (u1 : Int32), u1 = (if v7 ≤ v4 then x1 else x2) → va_P G.1 vwCl (wld G (Mc, M, Mo)) H → va_S (hyA G) s.heap H locs → lv_has ls 4 [(0, .ref (adr G 30)), (1, .int x1), (2, .int x2), (3, .int v4)] → W p l e { frames := 3, cells := 0, slots := 6 * 0, locals := 68 } s m ([.ref (adr G 30)] : List Value).toArray below meth c H locs 0 0 (vx_MQ below (hyQ G (.inr (some (.int res)), (Mc, M, Mo))) (hyXQ G (.inr (some (.int res)), (Mc, M, Mo))) ([.ref (adr G 30)] : List Value).toArray s 0 (6 * 0) (hyA G)) (F0 m 42 ls [.int u1]) := by
              intro H locs ls u1 eu1 hP hS hl
              subst eu1
              refine lv_istore_n (lv' := [(1, .int (if v7 ≤ v4 then x1 else x2)), (0, .ref (adr G 30)), (2, .int x2), (3, .int v4)]) hx hb dX11_nearestNow_42 rfl hl (by decide) rfl (fun ls hl => ?_)
              refine lv_iinc (v := (x2 + 1)) (lv' := [(2, .int (x2 + 1)), (1, .int (if v7 ≤ v4 then x1 else x2)), (0, .ref (adr G 30)), (3, .int v4)]) hx hb dX11_nearestNow_43 hl (k := 2) rfl rfl (by decide) rfl (fun ls hl => ?_)
              refine lv_goto (tgt := 4) hx hb dX11_nearestNow_46 (by decide) ?_
              exact ih (if v7 ≤ v4 then x1 else x2) (x2 + 1) _ h  _ _ ls hP hS (lv_sub hl [2, 1, 0] rfl) kk
            refine lv_icmp_ge (tgt := 41) hx hb dX11_nearestNow_34 (by decide) (fun c8 => ?_) (fun c8 => ?_)
            · refine lv_iload_n hx hb dX11_nearestNow_41 rfl (lv_at hl 2 rfl) ?_
              exact J9 _ _ ls x1 (by rw [if_pos c8] <;> rfl) hP hS (lv_sub hl [1, 2, 3, 0] rfl)
            · refine lv_iload_n hx hb dX11_nearestNow_37 rfl (lv_at hl 3 rfl) ?_
              refine lv_goto (tgt := 42) hx hb dX11_nearestNow_38 (by decide) ?_
              exact J9 _ _ ls x2 (by rw [if_neg c8] <;> rfl) hP hS (lv_sub hl [1, 2, 3, 0] rfl)
  obtain ⟨q11, hq11, h⟩ := hy_bind h
  refine L10 hyFu (-1) 0 q11 hq11 _ _ ls hP hS (lv_sub hl [2, 1, 0] rfl) ?_
  intro y1 y2 e9 H locs ls hP hS hl
  subst e9
  try dsimp only at h
  refine lv_iload_n hx hb dX11_nearestNow_49 rfl (lv_at hl 1 rfl) ?_
  exact hy_iret (T := (Mc, M, Mo)) hx hb hr hlocks hP hS (Nat.zero_le _) (Nat.zero_le _) (by rw [← (Option.some.inj h)] <;> rfl) dX11_nearestNow_50
set_option maxHeartbeats 1000000 in
set_option maxRecDepth 100000 in
theorem c_Rf_nearest {l : Launch} {G : hyG} (Mc Mo : hyM) (M : hyM) {res : (Int32 × hyM)} (h : Rf_nearest M = some res) : hyC l yX11_nearest (.code yX11_nearest cX11_nearest 1 (some .int)) 4 91 (0) G [.ref (adr G 30)] (Mc, M, Mo) (.inr (some (.int res.1)), (Mc, res.2, Mo)) := by
  refine hy_of (by decide +kernel) (Nat.le_of_ble_eq_true rfl) ?_
  intro p e s m below meth c hx hb hml hown hts hr hlocks ht hX hP hS ls hl
  have hl : lv_has ls 1 [(0, .ref (adr G 30))] := hl
  rw [Rf_nearest] at h
  refine lv_aload_n hx hb dX11_nearest_0 rfl (lv_at hl 0 rfl) ?_
  refine lv_iconst (v := 0) hx hb dX11_nearest_1 rfl ?_
  refine hy_putI (ty := .int) (T := (Mc, M, Mo)) (T2 := (Mc, (wI M 30 0 0), Mo)) (o := 30) (k := 0) hx hb hown hts hX hP hS (by decide) rfl rfl rfl rfl inX11g tyX11_ok nmX11 (by decide) q_1192 rfl rfl rfl rfl (Nat.le_of_ble_eq_true rfl) dX11_nearest_2 (fun H locs hP hS => ?_)
  obtain ⟨M1, hM1, h⟩ := hy_bind h
  rw [Option.some.inj hM1] at hP
  refine lv_aload_n hx hb dX11_nearest_5 rfl (lv_at hl 0 rfl) ?_
  obtain ⟨M2, hM2, h⟩ := hy_bind h
  refine hy_ret (hy_rV0 (T := (Mc, M1, Mo)) (v := none) (T2 := (Mc, M2, Mo)) (As := []) (rest := []) (n := 0) hx hb hml hown hts hX hP hS hl (c_Rf_laySung Mc Mo M1 hM2) m_Rf_laySung q_1360 (hy_recv hX hP 30 10 (by decide) rfl rfl) rfl rfl (Nat.le_of_ble_eq_true rfl) dX11_nearest_6 ⟨Nat.le_of_ble_eq_true rfl, Nat.le_of_ble_eq_true rfl⟩ ⟨Nat.zero_le _, Nat.zero_le _⟩) hS (fun H locs hP hS => ?_)
  refine lv_aload_n hx hb dX11_nearest_9 rfl (lv_at hl 0 rfl) ?_
  obtain ⟨v3, hv3, h⟩ := hy_bind h
  refine hy_ret (hy_rV0 (T := (Mc, M2, Mo)) (v := some (.int v3)) (T2 := (Mc, M2, Mo)) (As := []) (rest := []) (n := 0) hx hb hml hown hts hX hP hS hl (c_Rf_nearestNow Mc Mo M2 hv3) m_Rf_nearestNow q_1613 (hy_recv hX hP 30 10 (by decide) rfl rfl) rfl rfl (Nat.le_of_ble_eq_true rfl) dX11_nearest_10 ⟨Nat.le_of_ble_eq_true rfl, Nat.le_of_ble_eq_true rfl⟩ ⟨Nat.zero_le _, Nat.zero_le _⟩) hS (fun H locs hP hS => ?_)
  exact hy_iret (T := (Mc, M2, Mo)) hx hb hr hlocks hP hS (Nat.zero_le _) (Nat.zero_le _) (by rw [← (Option.some.inj h)] <;> rfl) dX11_nearest_13
set_option maxHeartbeats 1000000 in
set_option maxRecDepth 100000 in
theorem c_Rf_metre {l : Launch} {G : hyG} (Mc Mo : hyM) (a1 : Int32) (a2 : Int32) (M : hyM) {res : (Int32 × hyM)} (h : Rf_metre a1 a2 M = some res) : hyC l yX11_metre (.code yX11_metre cX11_metre 3 (some .int)) 2 43 (0) G [.ref (adr G 30), .int a1, .int a2] (Mc, M, Mo) (.inr (some (.int res.1)), (Mc, res.2, Mo)) := by
  refine hy_of (by decide +kernel) (Nat.le_of_ble_eq_true rfl) ?_
  intro p e s m below meth c hx hb hml hown hts hr hlocks ht hX hP hS ls hl
  have hl : lv_has ls 3 [(0, .ref (adr G 30)), (1, .int a1), (2, .int a2)] := hl
  rw [Rf_metre] at h
  refine lv_aload_n hx hb dX11_metre_0 rfl (lv_at hl 0 rfl) ?_
  refine lv_aload_n hx hb dX11_metre_1 rfl (lv_at hl 0 rfl) ?_
  refine lv_iload_n hx hb dX11_metre_2 rfl (lv_at hl 1 rfl) ?_
  refine hy_ret (hy_rV0 (T := (Mc, M, Mo)) (v := some (.int (bI (Rf_isMetre a1 M)))) (T2 := (Mc, M, Mo)) (As := [.int a1]) (rest := [.ref (adr G 30)]) (n := 0) hx hb hml hown hts hX hP hS hl (c_Rf_isMetre Mc Mo a1 M rfl) m_Rf_isMetre q_1466 (hy_recv hX hP 30 10 (by decide) rfl rfl) rfl rfl (Nat.le_of_ble_eq_true rfl) dX11_metre_3 ⟨Nat.le_of_ble_eq_true rfl, Nat.le_of_ble_eq_true rfl⟩ ⟨Nat.zero_le _, Nat.zero_le _⟩) hS (fun H locs hP hS => ?_)
  have J7 : ∀ (H : Heap) (locs : List Loc) (ls : Array Slot) (u1 : Int32), u1 = (bI (!(Rf_isMetre a1 M))) → va_P G.1 vwCl (wld G (Mc, M, Mo)) H → va_S (hyA G) s.heap H locs → lv_has ls 3 [(0, .ref (adr G 30)), (1, .int a1), (2, .int a2)] → W p l e { frames := 2, cells := 0, slots := 6 * 0, locals := 43 } s m ([.ref (adr G 30), .int a1, .int a2] : List Value).toArray below meth c H locs 0 0 (vx_MQ below (hyQ G (.inr (some (.int res.1)), (Mc, res.2, Mo))) (hyXQ G (.inr (some (.int res.1)), (Mc, res.2, Mo))) ([.ref (adr G 30), .int a1, .int a2] : List Value).toArray s 0 (6 * 0) (hyA G)) (F0 m 14 ls [.int u1, .ref (adr G 30)]) := by
    intro H locs ls u1 eu1 hP hS hl
    subst eu1
    refine hy_putI (ty := .int) (T := (Mc, M, Mo)) (T2 := (Mc, (wI M 30 0 (bI (!(Rf_isMetre a1 M)))), Mo)) (o := 30) (k := 0) hx hb hown hts hX hP hS (by decide) rfl rfl rfl rfl inX11g tyX11_ok nmX11 (by decide) q_1192 rfl rfl rfl rfl (Nat.le_of_ble_eq_true rfl) dX11_metre_14 (fun H locs hP hS => ?_)
    obtain ⟨M2, hM2, h⟩ := hy_bind h
    rw [Option.some.inj hM2] at hP
    refine lv_aload_n hx hb dX11_metre_17 rfl (lv_at hl 0 rfl) ?_
    refine hy_get (T := (Mc, M2, Mo)) (o := 30) (k := 0) (v := .int (M2.1 30 0)) hx hb hown hts hX hP (by decide) rfl rfl inX11g (by decide) q_1192 rfl dX11_metre_18 ?_
    refine lv_if_le (tgt := 26) hx hb dX11_metre_21 (by decide) (fun c3 => ?_) (fun c3 => ?_)
    · rw [if_pos c3] at h
      refine lv_iload_n hx hb dX11_metre_26 rfl (lv_at hl 2 rfl) ?_
      refine lv_iconst (v := 0) hx hb dX11_metre_27 rfl ?_
      refine lv_aload_n hx hb dX11_metre_28 rfl (lv_at hl 0 rfl) ?_
      refine hy_get (T := (Mc, M2, Mo)) (o := 30) (k := 17) (v := .ref (adr G 40)) hx hb hown hts hX hP (by decide) rfl rfl inX11g (by decide) q_1209 rfl dX11_metre_29 ?_
      refine lv_iload_n hx hb dX11_metre_32 rfl (lv_at hl 1 rfl) ?_
      obtain ⟨v4, hv4, h⟩ := hy_bind h
      obtain ⟨nv4, hv4⟩ := ldE_some hv4
      refine hy_iald (T := (Mc, M2, Mo)) hx hb hX hP 40 8 (M2.1 40) (by decide) rfl nv4 dX11_metre_33 ?_
      rw [hv4]
      refine lv_iconst (v := 1) hx hb dX11_metre_34 rfl ?_
      refine lv_isub hx hb dX11_metre_35 ?_
      refine hy_ret (hy_rS0 (T := (Mc, M2, Mo)) (v := some (.int (bI (Rf_within a2 0 (v4 - 1) M2)))) (T2 := (Mc, M2, Mo)) (As := [.int a2, .int 0, .int (v4 - 1)]) (rest := []) (n := 0) hx hb hml hown hts hX hP hS hl (c_Rf_within Mc Mo a2 0 (v4 - 1) M2 rfl) m_Rf_within q_1310 rfl rfl (Nat.le_of_ble_eq_true rfl) dX11_metre_36 ⟨Nat.le_of_ble_eq_true rfl, Nat.le_of_ble_eq_true rfl⟩ ⟨Nat.zero_le _, Nat.zero_le _⟩) hS (fun H locs hP hS => ?_)
      refine lv_if_eq (tgt := 56) hx hb dX11_metre_39 (by decide) (fun c5 => ?_) (fun c5 => ?_)
      · rw [if_neg (bI_0 c5)] at h
        refine lv_iconst (v := (-1)) hx hb dX11_metre_56 rfl ?_
        exact hy_iret (T := (Mc, M2, Mo)) hx hb hr hlocks hP hS (Nat.zero_le _) (Nat.zero_le _) (by rw [← (Option.some.inj h)] <;> rfl) dX11_metre_57
      · rw [if_pos (bI_1 c5)] at h
        refine lv_aload_n hx hb dX11_metre_42 rfl (lv_at hl 0 rfl) ?_
        refine hy_get (T := (Mc, M2, Mo)) (o := 30) (k := 18) (v := .ref (adr G 41)) hx hb hown hts hX hP (by decide) rfl rfl inX11g (by decide) q_1210 rfl dX11_metre_43 ?_
        refine lv_bipush (v := 24) hx hb dX11_metre_46 rfl ?_
        refine lv_iload_n hx hb dX11_metre_48 rfl (lv_at hl 1 rfl) ?_
        refine lv_imul hx hb dX11_metre_49 ?_
        refine lv_iload_n hx hb dX11_metre_50 rfl (lv_at hl 2 rfl) ?_
        refine lv_iadd hx hb dX11_metre_51 ?_
        obtain ⟨v6, hv6, h⟩ := hy_bind h
        obtain ⟨nv6, hv6⟩ := ldE_some hv6
        refine hy_iald (T := (Mc, M2, Mo)) hx hb hX hP 41 192 (M2.1 41) (by decide) rfl nv6 dX11_metre_52 ?_
        rw [hv6]
        refine lv_goto (tgt := 57) hx hb dX11_metre_53 (by decide) ?_
        exact hy_iret (T := (Mc, M2, Mo)) hx hb hr hlocks hP hS (Nat.zero_le _) (Nat.zero_le _) (by rw [← (Option.some.inj h)] <;> rfl) dX11_metre_57
    · rw [if_neg c3] at h
      refine lv_iconst (v := 0) hx hb dX11_metre_24 rfl ?_
      exact hy_iret (T := (Mc, M2, Mo)) hx hb hr hlocks hP hS (Nat.zero_le _) (Nat.zero_le _) (by rw [← (Option.some.inj h)] <;> rfl) dX11_metre_25
  refine lv_if_eq (tgt := 13) hx hb dX11_metre_6 (by decide) (fun c1 => ?_) (fun c1 => ?_)
  · refine lv_iconst (v := 1) hx hb dX11_metre_13 rfl ?_
    exact J7 _ _ ls 1 (by rw [(bI_z c1)] <;> rfl) hP hS (lv_sub hl [0, 1, 2] rfl)
  · refine lv_iconst (v := 0) hx hb dX11_metre_9 rfl ?_
    refine lv_goto (tgt := 14) hx hb dX11_metre_10 (by decide) ?_
    exact J7 _ _ ls 0 (by rw [(bI_1 c1)] <;> rfl) hP hS (lv_sub hl [0, 1, 2] rfl)
set_option maxHeartbeats 1000000 in
set_option maxRecDepth 100000 in
theorem c_Rf_fitting {l : Launch} {G : hyG} (Mc Mo : hyM) (M : hyM) {res : Int32} (h : Rf_fitting M = some res) : hyC l yX11_fitting (.code yX11_fitting cX11_fitting 3 (some .int)) 3 72 (0) G [.ref (adr G 30)] (Mc, M, Mo) (.inr (some (.int res)), (Mc, M, Mo)) := by
  refine hy_of (by decide +kernel) (Nat.le_of_ble_eq_true rfl) ?_
  intro p e s m below meth c hx hb hml hown hts hr hlocks ht hX hP hS ls hl
  have hl : lv_has ls 3 [(0, .ref (adr G 30))] := hl
  rw [Rf_fitting] at h
  refine lv_iconst (v := 0) hx hb dX11_fitting_0 rfl ?_
  refine lv_istore_n (lv' := [(1, .int 0), (0, .ref (adr G 30))]) hx hb dX11_fitting_1 rfl hl (by decide) rfl (fun ls hl => ?_)
  refine lv_iconst (v := 0) hx hb dX11_fitting_2 rfl ?_
  refine lv_istore_n (lv' := [(2, .int 0), (1, .int 0), (0, .ref (adr G 30))]) hx hb dX11_fitting_3 rfl hl (by decide) rfl (fun ls hl => ?_)
  have L7 : ∀ (f : Nat) (x1 : Int32) (x2 : Int32) (qL : (Int32 × Int32)) (h : Rf_fitting_L4 M f x1 x2 = some qL) (H : Heap) (locs : List Loc) (ls : Array Slot) (hP : va_P G.1 vwCl (wld G (Mc, M, Mo)) H) (hS : va_S (hyA G) s.heap H locs) (hl : lv_has ls 3 [(0, .ref (adr G 30)), (1, .int x1), (2, .int x2)]) (kk : ∀ (y1 : Int32) (y2 : Int32), qL = (y1, y2) → ∀ (H : Heap) (locs : List Loc) (ls : Array Slot), va_P G.1 vwCl (wld G (Mc, M, Mo)) H → va_S (hyA G) s.heap H locs → lv_has ls 3 [(0, .ref (adr G 30)), (1, .int y1), (2, .int y2)] → W p l e { frames := 3, cells := 0, slots := 6 * 0, locals := 72 } s m ([.ref (adr G 30)] : List Value).toArray below meth c H locs 0 0 (vx_MQ below (hyQ G (.inr (some (.int res)), (Mc, M, Mo))) (hyXQ G (.inr (some (.int res)), (Mc, M, Mo))) ([.ref (adr G 30)] : List Value).toArray s 0 (6 * 0) (hyA G)) (F0 m 34 ls [])), W p l e { frames := 3, cells := 0, slots := 6 * 0, locals := 72 } s m ([.ref (adr G 30)] : List Value).toArray below meth c H locs 0 0 (vx_MQ below (hyQ G (.inr (some (.int res)), (Mc, M, Mo))) (hyXQ G (.inr (some (.int res)), (Mc, M, Mo))) ([.ref (adr G 30)] : List Value).toArray s 0 (6 * 0) (hyA G)) (F0 m 4 ls []) := by
    intro f
    induction f with
    | zero =>
      intro x1 x2 qL h H locs ls hP hS hl kk
      rw [Rf_fitting_L4] at h
      cases h
    | succ f ih =>
      intro x1 x2 qL h H locs ls hP hS hl kk
      rw [Rf_fitting_L4] at h
      refine lv_iload_n hx hb dX11_fitting_4 rfl (lv_at hl 2 rfl) ?_
      refine lv_iconst (v := 4) hx hb dX11_fitting_5 rfl ?_
      refine lv_icmp_ge (tgt := 34) hx hb dX11_fitting_6 (by decide) (fun c3 => ?_) (fun c3 => ?_)
      · rw [if_pos c3] at h
        exact kk x1 x2 (Option.some.inj h).symm _ _ ls hP hS (lv_sub hl [0, 1, 2] rfl)
      · rw [if_neg c3] at h
        refine lv_iload_n hx hb dX11_fitting_9 rfl (lv_at hl 1 rfl) ?_
        refine lv_aload_n hx hb dX11_fitting_10 rfl (lv_at hl 0 rfl) ?_
        refine lv_iload_n hx hb dX11_fitting_11 rfl (lv_at hl 2 rfl) ?_
        obtain ⟨v4, hv4, h⟩ := hy_bind h
        refine hy_ret (hy_rV0 (T := (Mc, M, Mo)) (v := some (.int v4)) (T2 := (Mc, M, Mo)) (As := [.int x2]) (rest := [.int x1]) (n := 0) hx hb hml hown hts hX hP hS hl (c_Rf_fitNow Mc Mo x2 M hv4) m_Rf_fitNow q_1577 (hy_recv hX hP 30 10 (by decide) rfl rfl) rfl rfl (Nat.le_of_ble_eq_true rfl) dX11_fitting_12 ⟨Nat.le_of_ble_eq_true rfl, Nat.le_of_ble_eq_true rfl⟩ ⟨Nat.zero_le _, Nat.zero_le _⟩) hS (fun H locs hP hS => ?_)
        refine lv_iconst (v := (-1)) hx hb dX11_fitting_15 rfl ?_
        have J6 : ∀ (H : Heap) (locs : List Loc) (ls : Array Slot) (u1 : Int32), u1 = (if v4 = (-1) then (1 <<< (x2 &&& 31)) else 0) → va_P G.1 vwCl (wld G (Mc, M, Mo)) H → va_S (hyA G) s.heap H locs → lv_has ls 3 [(0, .ref (adr G 30)), (1, .int x1), (2, .int x2)] → W p l e { frames := 3, cells := 0, slots := 6 * 0, locals := 72 } s m ([.ref (adr G 30)] : List Value).toArray below meth c H locs 0 0 (vx_MQ below (hyQ G (.inr (some (.int res)), (Mc, M, Mo))) (hyXQ G (.inr (some (.int res)), (Mc, M, Mo))) ([.ref (adr G 30)] : List Value).toArray s 0 (6 * 0) (hyA G)) (F0 m 26 ls [.int u1, .int x1]) := by
          intro H locs ls u1 eu1 hP hS hl
          subst eu1
          refine lv_ior hx hb dX11_fitting_26 ?_
          refine lv_istore_n (lv' := [(1, .int (x1 ||| (if v4 = (-1) then (1 <<< (x2 &&& 31)) else 0))), (0, .ref (adr G 30)), (2, .int x2)]) hx hb dX11_fitting_27 rfl hl (by decide) rfl (fun ls hl => ?_)
          refine lv_iinc (v := (x2 + 1)) (lv' := [(2, .int (x2 + 1)), (1, .int (x1 ||| (if v4 = (-1) then (1 <<< (x2 &&& 31)) else 0))), (0, .ref (adr G 30))]) hx hb dX11_fitting_28 hl (k := 2) rfl rfl (by decide) rfl (fun ls hl => ?_)
          refine lv_goto (tgt := 4) hx hb dX11_fitting_31 (by decide) ?_
          exact ih (x1 ||| (if v4 = (-1) then (1 <<< (x2 &&& 31)) else 0)) (x2 + 1) _ h  _ _ ls hP hS (lv_sub hl [2, 1, 0] rfl) kk
        refine lv_icmp_ne (tgt := 25) hx hb dX11_fitting_16 (by decide) (fun c5 => ?_) (fun c5 => ?_)
        · refine lv_iconst (v := 0) hx hb dX11_fitting_25 rfl ?_
          exact J6 _ _ ls 0 (by rw [if_neg c5] <;> rfl) hP hS (lv_sub hl [0, 1, 2] rfl)
        · refine lv_iconst (v := 1) hx hb dX11_fitting_19 rfl ?_
          refine lv_iload_n hx hb dX11_fitting_20 rfl (lv_at hl 2 rfl) ?_
          refine lv_ishl hx hb dX11_fitting_21 ?_
          refine lv_goto (tgt := 26) hx hb dX11_fitting_22 (by decide) ?_
          exact J6 _ _ ls (1 <<< (x2 &&& 31)) (by rw [if_pos c5] <;> rfl) hP hS (lv_sub hl [0, 1, 2] rfl)
  obtain ⟨q8, hq8, h⟩ := hy_bind h
  refine L7 hyFu 0 0 q8 hq8 _ _ ls hP hS (lv_sub hl [2, 1, 0] rfl) ?_
  intro y1 y2 e9 H locs ls hP hS hl
  subst e9
  try dsimp only at h
  refine lv_iload_n hx hb dX11_fitting_34 rfl (lv_at hl 1 rfl) ?_
  exact hy_iret (T := (Mc, M, Mo)) hx hb hr hlocks hP hS (Nat.zero_le _) (Nat.zero_le _) (by rw [← (Option.some.inj h)] <;> rfl) dX11_fitting_35
