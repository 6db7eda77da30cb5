set_option maxHeartbeats 1000000 in
set_option maxRecDepth 100000 in
theorem c_Rf_barOf {l : Launch} {G : hyG} (Mc Mo : hyM) (a1 : Int32) (M : hyM) {res : Int32} (h : Rf_barOf a1 M = some res) : hyC l yX11_barOf (.code yX11_barOf cX11_barOf 3 (some .int)) 1 23 (0) G [.ref (adr G 30), .int a1] (Mc, M, Mo) (.inr (some (.int res)), (Mc, M, Mo)) := by
  refine hy_of (by decide +kernel) (Nat.le_of_ble_eq_true rfl) ?_
  intro p e s m below meth c hx hb hml hown hts hr hlocks ht hX hP hS ls hl
  have hl : lv_has ls 3 [(0, .ref (adr G 30)), (1, .int a1)] := hl
  rw [Rf_barOf] at h
  refine lv_aload_n hx hb dX11_barOf_0 rfl (lv_at hl 0 rfl) ?_
  refine lv_iload_n hx hb dX11_barOf_1 rfl (lv_at hl 1 rfl) ?_
  obtain ⟨v1, hv1, h⟩ := hy_bind h
  refine hy_ret (hy_rV0 (T := (Mc, M, Mo)) (v := some (.int v1)) (T2 := (Mc, M, Mo)) (As := [.int a1]) (rest := []) (n := 0) hx hb hml hown hts hX hP hS hl (c_Rf_place Mc Mo a1 M hv1) m_Rf_place q_1482 (hy_recv hX hP 30 10 (by decide) rfl rfl) rfl rfl (Nat.le_of_ble_eq_true rfl) dX11_barOf_2 ⟨Nat.le_of_ble_eq_true rfl, Nat.le_of_ble_eq_true rfl⟩ ⟨Nat.zero_le _, Nat.zero_le _⟩) hS (fun H locs hP hS => ?_)
  refine lv_istore_n (lv' := [(2, .int v1), (0, .ref (adr G 30)), (1, .int a1)]) hx hb dX11_barOf_5 rfl hl (by decide) rfl (fun ls hl => ?_)
  refine lv_iload_n hx hb dX11_barOf_6 rfl (lv_at hl 0 rfl) ?_
  refine lv_aload_n hx hb dX11_barOf_7 rfl (lv_at hl 1 rfl) ?_
  refine hy_get (T := (Mc, M, Mo)) (o := 30) (k := 12) (v := .int (M.1 30 12)) hx hb hown hts hX hP (by decide) rfl rfl inX11g (by decide) q_1204 rfl dX11_barOf_8 ?_
  refine lv_icmp_ge (tgt := 18) hx hb dX11_barOf_11 (by decide) (fun c2 => ?_) (fun c2 => ?_)
  · rw [if_pos c2] at h
    refine lv_iconst (v := 1) hx hb dX11_barOf_18 rfl ?_
    refine lv_iload_n hx hb dX11_barOf_19 rfl (lv_at hl 0 rfl) ?_
    refine lv_aload_n hx hb dX11_barOf_20 rfl (lv_at hl 1 rfl) ?_
    refine hy_get (T := (Mc, M, Mo)) (o := 30) (k := 12) (v := .int (M.1 30 12)) hx hb hown hts hX hP (by decide) rfl rfl inX11g (by decide) q_1204 rfl dX11_barOf_21 ?_
    refine lv_isub hx hb dX11_barOf_24 ?_
    refine lv_aload_n hx hb dX11_barOf_25 rfl (lv_at hl 1 rfl) ?_
    refine hy_get (T := (Mc, M, Mo)) (o := 30) (k := 11) (v := .int (M.1 30 11)) hx hb hown hts hX hP (by decide) rfl rfl inX11g (by decide) q_1203 rfl dX11_barOf_26 ?_
    obtain ⟨v3, hv3, h⟩ := hy_bind h
    obtain ⟨nv3, hv3⟩ := jdv_some hv3
    refine lv_idiv hx hb dX11_barOf_29 nv3 ?_
    rw [hv3]
    refine lv_iadd hx hb dX11_barOf_30 ?_
    exact hy_iret (T := (Mc, M, Mo)) hx hb hr hlocks hP hS (Nat.zero_le _) (Nat.zero_le _) (by rw [← (Option.some.inj h)] <;> rfl) dX11_barOf_31
  · rw [if_neg c2] at h
    refine lv_iconst (v := 0) hx hb dX11_barOf_14 rfl ?_
    refine lv_goto (tgt := 31) hx hb dX11_barOf_15 (by decide) ?_
    exact hy_iret (T := (Mc, M, Mo)) hx hb hr hlocks hP hS (Nat.zero_le _) (Nat.zero_le _) (by rw [← (Option.some.inj h)] <;> rfl) dX11_barOf_31
set_option maxHeartbeats 1000000 in
set_option maxRecDepth 100000 in
theorem c_Rf_inBar {l : Launch} {G : hyG} (Mc Mo : hyM) (a1 : Int32) (M : hyM) {res : Int32} (h : Rf_inBar a1 M = some res) : hyC l yX11_inBar (.code yX11_inBar cX11_inBar 3 (some .int)) 1 23 (0) G [.ref (adr G 30), .int a1] (Mc, M, Mo) (.inr (some (.int res)), (Mc, M, Mo)) := by
  refine hy_of (by decide +kernel) (Nat.le_of_ble_eq_true rfl) ?_
  intro p e s m below meth c hx hb hml hown hts hr hlocks ht hX hP hS ls hl
  have hl : lv_has ls 3 [(0, .ref (adr G 30)), (1, .int a1)] := hl
  rw [Rf_inBar] at h
  refine lv_aload_n hx hb dX11_inBar_0 rfl (lv_at hl 0 rfl) ?_
  refine lv_iload_n hx hb dX11_inBar_1 rfl (lv_at hl 1 rfl) ?_
  obtain ⟨v1, hv1, h⟩ := hy_bind h
  refine hy_ret (hy_rV0 (T := (Mc, M, Mo)) (v := some (.int v1)) (T2 := (Mc, M, Mo)) (As := [.int a1]) (rest := []) (n := 0) hx hb hml hown hts hX hP hS hl (c_Rf_place Mc Mo a1 M hv1) m_Rf_place q_1482 (hy_recv hX hP 30 10 (by decide) rfl rfl) rfl rfl (Nat.le_of_ble_eq_true rfl) dX11_inBar_2 ⟨Nat.le_of_ble_eq_true rfl, Nat.le_of_ble_eq_true rfl⟩ ⟨Nat.zero_le _, Nat.zero_le _⟩) hS (fun H locs hP hS => ?_)
  refine lv_istore_n (lv' := [(2, .int v1), (0, .ref (adr G 30)), (1, .int a1)]) hx hb dX11_inBar_5 rfl hl (by decide) rfl (fun ls hl => ?_)
  refine lv_iload_n hx hb dX11_inBar_6 rfl (lv_at hl 0 rfl) ?_
  refine lv_aload_n hx hb dX11_inBar_7 rfl (lv_at hl 1 rfl) ?_
  refine hy_get (T := (Mc, M, Mo)) (o := 30) (k := 12) (v := .int (M.1 30 12)) hx hb hown hts hX hP (by decide) rfl rfl inX11g (by decide) q_1204 rfl dX11_inBar_8 ?_
  refine lv_icmp_ge (tgt := 18) hx hb dX11_inBar_11 (by decide) (fun c2 => ?_) (fun c2 => ?_)
  · rw [if_pos c2] at h
    refine lv_iload_n hx hb dX11_inBar_18 rfl (lv_at hl 0 rfl) ?_
    refine lv_aload_n hx hb dX11_inBar_19 rfl (lv_at hl 1 rfl) ?_
    refine hy_get (T := (Mc, M, Mo)) (o := 30) (k := 12) (v := .int (M.1 30 12)) hx hb hown hts hX hP (by decide) rfl rfl inX11g (by decide) q_1204 rfl dX11_inBar_20 ?_
    refine lv_isub hx hb dX11_inBar_23 ?_
    refine lv_aload_n hx hb dX11_inBar_24 rfl (lv_at hl 1 rfl) ?_
    refine hy_get (T := (Mc, M, Mo)) (o := 30) (k := 11) (v := .int (M.1 30 11)) hx hb hown hts hX hP (by decide) rfl rfl inX11g (by decide) q_1203 rfl dX11_inBar_25 ?_
    obtain ⟨v3, hv3, h⟩ := hy_bind h
    obtain ⟨nv3, hv3⟩ := jrm_some hv3
    refine lv_irem hx hb dX11_inBar_28 nv3 ?_
    rw [hv3]
    exact hy_iret (T := (Mc, M, Mo)) hx hb hr hlocks hP hS (Nat.zero_le _) (Nat.zero_le _) (by rw [← (Option.some.inj h)] <;> rfl) dX11_inBar_29
  · rw [if_neg c2] at h
    refine lv_iload_n hx hb dX11_inBar_14 rfl (lv_at hl 0 rfl) ?_
    refine lv_goto (tgt := 29) hx hb dX11_inBar_15 (by decide) ?_
    exact hy_iret (T := (Mc, M, Mo)) hx hb hr hlocks hP hS (Nat.zero_le _) (Nat.zero_le _) (by rw [← (Option.some.inj h)] <;> rfl) dX11_inBar_29
set_option maxHeartbeats 1000000 in
set_option maxRecDepth 100000 in
theorem c_Rf_goesOver {l : Launch} {G : hyG} (Mc Mo : hyM) (a1 : Int32) (M : hyM) {res : Bool} (h : Rf_goesOver a1 M = some res) : hyC l yX11_goesOver (.code yX11_goesOver cX11_goesOver 2 (some .boolean)) 2 45 (0) G [.ref (adr G 30), .int a1] (Mc, M, Mo) (.inr (some (.int (bI res))), (Mc, M, Mo)) := by
  refine hy_of (by decide +kernel) (Nat.le_of_ble_eq_true rfl) ?_
  intro p e s m below meth c hx hb hml hown hts hr hlocks ht hX hP hS ls hl
  have hl : lv_has ls 2 [(0, .ref (adr G 30)), (1, .int a1)] := hl
  rw [Rf_goesOver] at h
  refine lv_aload_n hx hb dX11_goesOver_0 rfl (lv_at hl 0 rfl) ?_
  refine lv_iload_n hx hb dX11_goesOver_1 rfl (lv_at hl 1 rfl) ?_
  obtain ⟨v1, hv1, h⟩ := hy_bind h
  refine hy_ret (hy_rV0 (T := (Mc, M, Mo)) (v := some (.int v1)) (T2 := (Mc, M, Mo)) (As := [.int a1]) (rest := []) (n := 0) hx hb hml hown hts hX hP hS hl (c_Rf_inBar Mc Mo a1 M hv1) m_Rf_inBar q_1486 (hy_recv hX hP 30 10 (by decide) rfl rfl) rfl rfl (Nat.le_of_ble_eq_true rfl) dX11_goesOver_2 ⟨Nat.le_of_ble_eq_true rfl, Nat.le_of_ble_eq_true rfl⟩ ⟨Nat.zero_le _, Nat.zero_le _⟩) hS (fun H locs hP hS => ?_)
  refine lv_aload_n hx hb dX11_goesOver_5 rfl (lv_at hl 0 rfl) ?_
  refine hy_get (T := (Mc, M, Mo)) (o := 30) (k := 3) (v := .ref (adr G 31)) hx hb hown hts hX hP (by decide) rfl rfl inX11g (by decide) q_1195 rfl dX11_goesOver_6 ?_
  refine lv_iload_n hx hb dX11_goesOver_9 rfl (lv_at hl 1 rfl) ?_
  obtain ⟨v2, hv2, h⟩ := hy_bind h
  obtain ⟨nv2, hv2⟩ := ldE_some hv2
  refine hy_iald (T := (Mc, M, Mo)) hx hb hX hP 31 40 (M.1 31) (by decide) rfl nv2 dX11_goesOver_10 ?_
  rw [hv2]
  refine lv_iadd hx hb dX11_goesOver_11 ?_
  refine lv_aload_n hx hb dX11_goesOver_12 rfl (lv_at hl 0 rfl) ?_
  refine lv_iload_n hx hb dX11_goesOver_13 rfl (lv_at hl 1 rfl) ?_
  obtain ⟨v3, hv3, h⟩ := hy_bind h
  refine hy_ret (hy_rV0 (T := (Mc, M, Mo)) (v := some (.int v3)) (T2 := (Mc, M, Mo)) (As := [.int a1]) (rest := [.int (v1 + v2)]) (n := 0) hx hb hml hown hts hX hP hS hl (c_Rf_barOf Mc Mo a1 M hv3) m_Rf_barOf q_1478 (hy_recv hX hP 30 10 (by decide) rfl rfl) rfl rfl (Nat.le_of_ble_eq_true rfl) dX11_goesOver_14 ⟨Nat.le_of_ble_eq_true rfl, Nat.le_of_ble_eq_true rfl⟩ ⟨Nat.zero_le _, Nat.zero_le _⟩) hS (fun H locs hP hS => ?_)
  have J7 : ∀ (H : Heap) (locs : List Loc) (ls : Array Slot) (u1 : Int32), u1 = (if v3 = 0 then (M.1 30 12) else (M.1 30 11)) → va_P G.1 vwCl (wld G (Mc, M, Mo)) H → va_S (hyA G) s.heap H locs → lv_has ls 2 [(0, .ref (adr G 30)), (1, .int a1)] → W p l e { frames := 2, cells := 0, slots := 6 * 0, locals := 45 } s m ([.ref (adr G 30), .int a1] : List Value).toArray below meth c H locs 0 0 (vx_MQ below (hyQ G (.inr (some (.int (bI res))), (Mc, M, Mo))) (hyXQ G (.inr (some (.int (bI res))), (Mc, M, Mo))) ([.ref (adr G 30), .int a1] : List Value).toArray s 0 (6 * 0) (hyA G)) (F0 m 31 ls [.int u1, .int (v1 + v2)]) := by
    intro H locs ls u1 eu1 hP hS hl
    subst eu1
    have J6 : ∀ (H : Heap) (locs : List Loc) (ls : Array Slot) (u1 : Int32), u1 = (bI (!decide ((v1 + v2) ≤ (if v3 = 0 then (M.1 30 12) else (M.1 30 11))))) → va_P G.1 vwCl (wld G (Mc, M, Mo)) H → va_S (hyA G) s.heap H locs → lv_has ls 2 [(0, .ref (adr G 30)), (1, .int a1)] → W p l e { frames := 2, cells := 0, slots := 6 * 0, locals := 45 } s m ([.ref (adr G 30), .int a1] : List Value).toArray below meth c H locs 0 0 (vx_MQ below (hyQ G (.inr (some (.int (bI res))), (Mc, M, Mo))) (hyXQ G (.inr (some (.int (bI res))), (Mc, M, Mo))) ([.ref (adr G 30), .int a1] : List Value).toArray s 0 (6 * 0) (hyA G)) (F0 m 39 ls [.int u1]) := by
      intro H locs ls u1 eu1 hP hS hl
      subst eu1
      exact hy_zret (T := (Mc, M, Mo)) hx hb hr hlocks hP hS (Nat.zero_le _) (Nat.zero_le _) (bI_nar (!decide ((v1 + v2) ≤ (if v3 = 0 then (M.1 30 12) else (M.1 30 11))))) (by rw [← (Option.some.inj h)] <;> rfl) dX11_goesOver_39
    refine lv_icmp_le (tgt := 38) hx hb dX11_goesOver_31 (by decide) (fun c5 => ?_) (fun c5 => ?_)
    · refine lv_iconst (v := 0) hx hb dX11_goesOver_38 rfl ?_
      exact J6 _ _ ls 0 (by rw [decide_eq_true c5] <;> rfl) hP hS (lv_sub hl [0, 1] rfl)
    · refine lv_iconst (v := 1) hx hb dX11_goesOver_34 rfl ?_
      refine lv_goto (tgt := 39) hx hb dX11_goesOver_35 (by decide) ?_
      exact J6 _ _ ls 1 (by rw [decide_eq_false c5] <;> rfl) hP hS (lv_sub hl [0, 1] rfl)
  refine lv_if_ne (tgt := 27) hx hb dX11_goesOver_17 (by decide) (fun c4 => ?_) (fun c4 => ?_)
  · refine lv_aload_n hx hb dX11_goesOver_27 rfl (lv_at hl 0 rfl) ?_
    refine hy_get (T := (Mc, M, Mo)) (o := 30) (k := 11) (v := .int (M.1 30 11)) hx hb hown hts hX hP (by decide) rfl rfl inX11g (by decide) q_1203 rfl dX11_goesOver_28 ?_
    exact J7 _ _ ls (M.1 30 11) (by rw [if_neg c4] <;> rfl) hP hS (lv_sub hl [0, 1] rfl)
  · refine lv_aload_n hx hb dX11_goesOver_20 rfl (lv_at hl 0 rfl) ?_
    refine hy_get (T := (Mc, M, Mo)) (o := 30) (k := 12) (v := .int (M.1 30 12)) hx hb hown hts hX hP (by decide) rfl rfl inX11g (by decide) q_1204 rfl dX11_goesOver_21 ?_
    refine lv_goto (tgt := 31) hx hb dX11_goesOver_24 (by decide) ?_
    exact J7 _ _ ls (M.1 30 12) (by rw [if_pos c4] <;> rfl) hP hS (lv_sub hl [0, 1] rfl)
set_option maxHeartbeats 1000000 in
set_option maxRecDepth 100000 in
theorem c_Rf_noteNow {l : Launch} {G : hyG} (Mc Mo : hyM) (a1 : Int32) (a2 : Int32) (M : hyM) {res : Int32} (h : Rf_noteNow a1 a2 M = some res) : hyC l yX11_noteNow (.code yX11_noteNow cX11_noteNow 3 (some .int)) 3 74 (0) G [.ref (adr G 30), .int a1, .int a2] (Mc, M, Mo) (.inr (some (.int res)), (Mc, M, Mo)) := by
  refine hy_of (by decide +kernel) (Nat.le_of_ble_eq_true rfl) ?_
  intro p e s m below meth c hx hb hml hown hts hr hlocks ht hX hP hS ls hl
  have hl : lv_has ls 3 [(0, .ref (adr G 30)), (1, .int a1), (2, .int a2)] := hl
  rw [Rf_noteNow] at h
  refine lv_iload_n hx hb dX11_noteNow_0 rfl (lv_at hl 2 rfl) ?_
  by_cases c1 : a2 = 0
  · rw [if_pos c1] at h
    refine lv_tableIn (tgt := 48) (off := 47) hx hb dX11_noteNow_1 (by rw [c1]; decide) (by rw [c1]; decide) (by rw [c1]; rfl) (by decide) ?_
    refine lv_aload_n hx hb dX11_noteNow_48 rfl (lv_at hl 0 rfl) ?_
    refine hy_get (T := (Mc, M, Mo)) (o := 30) (k := 3) (v := .ref (adr G 31)) hx hb hown hts hX hP (by decide) rfl rfl inX11g (by decide) q_1195 rfl dX11_noteNow_49 ?_
    refine lv_iload_n hx hb dX11_noteNow_52 rfl (lv_at hl 1 rfl) ?_
    obtain ⟨v10, hv10, h⟩ := hy_bind h
    obtain ⟨nv10, hv10⟩ := ldE_some hv10
    refine hy_iald (T := (Mc, M, Mo)) hx hb hX hP 31 40 (M.1 31) (by decide) rfl nv10 dX11_noteNow_53 ?_
    rw [hv10]
    exact hy_iret (T := (Mc, M, Mo)) hx hb hr hlocks hP hS (Nat.zero_le _) (Nat.zero_le _) (by rw [← (Option.some.inj h)] <;> rfl) dX11_noteNow_54
  · rw [if_neg c1] at h
    by_cases c2 : a2 = 1
    · rw [if_pos c2] at h
      refine lv_tableIn (tgt := 55) (off := 54) hx hb dX11_noteNow_1 (by rw [c2]; decide) (by rw [c2]; decide) (by rw [c2]; rfl) (by decide) ?_
      refine lv_aload_n hx hb dX11_noteNow_55 rfl (lv_at hl 0 rfl) ?_
      refine lv_iload_n hx hb dX11_noteNow_56 rfl (lv_at hl 1 rfl) ?_
      obtain ⟨v11, hv11, h⟩ := hy_bind h
      refine hy_ret (hy_rV0 (T := (Mc, M, Mo)) (v := some (.int (bI v11))) (T2 := (Mc, M, Mo)) (As := [.int a1]) (rest := []) (n := 0) hx hb hml hown hts hX hP hS hl (c_Rf_isSlurred Mc Mo a1 M hv11) m_Rf_isSlurred q_1396 (hy_recv hX hP 30 10 (by decide) rfl rfl) rfl rfl (Nat.le_of_ble_eq_true rfl) dX11_noteNow_57 ⟨Nat.le_of_ble_eq_true rfl, Nat.le_of_ble_eq_true rfl⟩ ⟨Nat.zero_le _, Nat.zero_le _⟩) hS (fun H locs hP hS => ?_)
      have J13 : ∀ (H : Heap) (locs : List Loc) (ls : Array Slot) (u1 : Int32), u1 = (bI v11) → va_P G.1 vwCl (wld G (Mc, M, Mo)) H → va_S (hyA G) s.heap H locs → lv_has ls 3 [(0, .ref (adr G 30)), (1, .int a1), (2, .int a2)] → W p l e { frames := 3, cells := 0, slots := 6 * 0, locals := 74 } s m ([.ref (adr G 30), .int a1, .int a2] : List Value).toArray below meth c H locs 0 0 (vx_MQ below (hyQ G (.inr (some (.int res)), (Mc, M, Mo))) (hyXQ G (.inr (some (.int res)), (Mc, M, Mo))) ([.ref (adr G 30), .int a1, .int a2] : List Value).toArray s 0 (6 * 0) (hyA G)) (F0 m 68 ls [.int u1]) := by
        intro H locs ls u1 eu1 hP hS hl
        subst eu1
        exact hy_iret (T := (Mc, M, Mo)) hx hb hr hlocks hP hS (Nat.zero_le _) (Nat.zero_le _) (by rw [← (Option.some.inj h)] <;> rfl) dX11_noteNow_68
      refine lv_if_eq (tgt := 67) hx hb dX11_noteNow_60 (by decide) (fun c12 => ?_) (fun c12 => ?_)
      · refine lv_iconst (v := 0) hx hb dX11_noteNow_67 rfl ?_
        exact J13 _ _ ls 0 (by rw [(bI_z c12)] <;> rfl) hP hS (lv_sub hl [0, 1, 2] rfl)
      · refine lv_iconst (v := 1) hx hb dX11_noteNow_63 rfl ?_
        refine lv_goto (tgt := 68) hx hb dX11_noteNow_64 (by decide) ?_
        exact J13 _ _ ls 1 (by rw [(bI_1 c12)] <;> rfl) hP hS (lv_sub hl [0, 1, 2] rfl)
    · rw [if_neg c2] at h
      by_cases c3 : a2 = 2
      · rw [if_pos c3] at h
        refine lv_tableIn (tgt := 69) (off := 68) hx hb dX11_noteNow_1 (by rw [c3]; decide) (by rw [c3]; decide) (by rw [c3]; rfl) (by decide) ?_
        refine lv_aload_n hx hb dX11_noteNow_69 rfl (lv_at hl 0 rfl) ?_
        refine hy_get (T := (Mc, M, Mo)) (o := 30) (k := 24) (v := .ref (adr G 45)) hx hb hown hts hX hP (by decide) rfl rfl inX11g (by decide) q_1216 rfl dX11_noteNow_70 ?_
        refine lv_iload_n hx hb dX11_noteNow_73 rfl (lv_at hl 1 rfl) ?_
        obtain ⟨v14, hv14, h⟩ := hy_bind h
        obtain ⟨nv14, hv14⟩ := ldE_some hv14
        refine hy_iald (T := (Mc, M, Mo)) hx hb hX hP 45 40 (M.1 45) (by decide) rfl nv14 dX11_noteNow_74 ?_
        rw [hv14]
        exact hy_iret (T := (Mc, M, Mo)) hx hb hr hlocks hP hS (Nat.zero_le _) (Nat.zero_le _) (by rw [← (Option.some.inj h)] <;> rfl) dX11_noteNow_75
      · rw [if_neg c3] at h
        by_cases c4 : a2 = 3
        · rw [if_pos c4] at h
          refine lv_tableIn (tgt := 76) (off := 75) hx hb dX11_noteNow_1 (by rw [c4]; decide) (by rw [c4]; decide) (by rw [c4]; rfl) (by decide) ?_
          refine lv_iload_n hx hb dX11_noteNow_76 rfl (lv_at hl 1 rfl) ?_
          refine lv_aload_n hx hb dX11_noteNow_77 rfl (lv_at hl 0 rfl) ?_
          refine hy_get (T := (Mc, M, Mo)) (o := 30) (k := 22) (v := .ref (adr G 43)) hx hb hown hts hX hP (by decide) rfl rfl inX11g (by decide) q_1214 rfl dX11_noteNow_78 ?_
          refine lv_aload_n hx hb dX11_noteNow_81 rfl (lv_at hl 0 rfl) ?_
          refine hy_get (T := (Mc, M, Mo)) (o := 30) (k := 24) (v := .ref (adr G 45)) hx hb hown hts hX hP (by decide) rfl rfl inX11g (by decide) q_1216 rfl dX11_noteNow_82 ?_
          refine lv_iload_n hx hb dX11_noteNow_85 rfl (lv_at hl 1 rfl) ?_
          obtain ⟨v15, hv15, h⟩ := hy_bind h
          obtain ⟨nv15, hv15⟩ := ldE_some hv15
          refine hy_iald (T := (Mc, M, Mo)) hx hb hX hP 45 40 (M.1 45) (by decide) rfl nv15 dX11_noteNow_86 ?_
          rw [hv15]
          obtain ⟨v16, hv16, h⟩ := hy_bind h
          obtain ⟨nv16, hv16⟩ := ldE_some hv16
          refine hy_iald (T := (Mc, M, Mo)) hx hb hX hP 43 40 (M.1 43) (by decide) rfl nv16 dX11_noteNow_87 ?_
          rw [hv16]
          refine lv_isub hx hb dX11_noteNow_88 ?_
          exact hy_iret (T := (Mc, M, Mo)) hx hb hr hlocks hP hS (Nat.zero_le _) (Nat.zero_le _) (by rw [← (Option.some.inj h)] <;> rfl) dX11_noteNow_89
        · rw [if_neg c4] at h
          by_cases c5 : a2 = 4
          · rw [if_pos c5] at h
            refine lv_tableIn (tgt := 90) (off := 89) hx hb dX11_noteNow_1 (by rw [c5]; decide) (by rw [c5]; decide) (by rw [c5]; rfl) (by decide) ?_
            refine lv_aload_n hx hb dX11_noteNow_90 rfl (lv_at hl 0 rfl) ?_
            refine lv_iload_n hx hb dX11_noteNow_91 rfl (lv_at hl 1 rfl) ?_
            obtain ⟨v17, hv17, h⟩ := hy_bind h
            refine hy_ret (hy_rV0 (T := (Mc, M, Mo)) (v := some (.int v17)) (T2 := (Mc, M, Mo)) (As := [.int a1]) (rest := []) (n := 0) hx hb hml hown hts hX hP hS hl (c_Rf_barOf Mc Mo a1 M hv17) m_Rf_barOf q_1478 (hy_recv hX hP 30 10 (by decide) rfl rfl) rfl rfl (Nat.le_of_ble_eq_true rfl) dX11_noteNow_92 ⟨Nat.le_of_ble_eq_true rfl, Nat.le_of_ble_eq_true rfl⟩ ⟨Nat.zero_le _, Nat.zero_le _⟩) hS (fun H locs hP hS => ?_)
            exact hy_iret (T := (Mc, M, Mo)) hx hb hr hlocks hP hS (Nat.zero_le _) (Nat.zero_le _) (by rw [← (Option.some.inj h)] <;> rfl) dX11_noteNow_95
          · rw [if_neg c5] at h
            by_cases c6 : a2 = 5
            · rw [if_pos c6] at h
              refine lv_tableIn (tgt := 96) (off := 95) hx hb dX11_noteNow_1 (by rw [c6]; decide) (by rw [c6]; decide) (by rw [c6]; rfl) (by decide) ?_
              refine lv_aload_n hx hb dX11_noteNow_96 rfl (lv_at hl 0 rfl) ?_
              refine lv_iload_n hx hb dX11_noteNow_97 rfl (lv_at hl 1 rfl) ?_
              obtain ⟨v18, hv18, h⟩ := hy_bind h
              refine hy_ret (hy_rV0 (T := (Mc, M, Mo)) (v := some (.int v18)) (T2 := (Mc, M, Mo)) (As := [.int a1]) (rest := []) (n := 0) hx hb hml hown hts hX hP hS hl (c_Rf_inBar Mc Mo a1 M hv18) m_Rf_inBar q_1486 (hy_recv hX hP 30 10 (by decide) rfl rfl) rfl rfl (Nat.le_of_ble_eq_true rfl) dX11_noteNow_98 ⟨Nat.le_of_ble_eq_true rfl, Nat.le_of_ble_eq_true rfl⟩ ⟨Nat.zero_le _, Nat.zero_le _⟩) hS (fun H locs hP hS => ?_)
              exact hy_iret (T := (Mc, M, Mo)) hx hb hr hlocks hP hS (Nat.zero_le _) (Nat.zero_le _) (by rw [← (Option.some.inj h)] <;> rfl) dX11_noteNow_101
            · rw [if_neg c6] at h
              by_cases c7 : a2 = 6
              · rw [if_pos c7] at h
                refine lv_tableIn (tgt := 102) (off := 101) hx hb dX11_noteNow_1 (by rw [c7]; decide) (by rw [c7]; decide) (by rw [c7]; rfl) (by decide) ?_
                refine lv_aload_n hx hb dX11_noteNow_102 rfl (lv_at hl 0 rfl) ?_
                refine lv_iload_n hx hb dX11_noteNow_103 rfl (lv_at hl 1 rfl) ?_
                obtain ⟨v19, hv19, h⟩ := hy_bind h
                refine hy_ret (hy_rV0 (T := (Mc, M, Mo)) (v := some (.int (bI v19))) (T2 := (Mc, M, Mo)) (As := [.int a1]) (rest := []) (n := 0) hx hb hml hown hts hX hP hS hl (c_Rf_goesOver Mc Mo a1 M hv19) m_Rf_goesOver q_1490 (hy_recv hX hP 30 10 (by decide) rfl rfl) rfl rfl (Nat.le_of_ble_eq_true rfl) dX11_noteNow_104 ⟨Nat.le_of_ble_eq_true rfl, Nat.le_of_ble_eq_true rfl⟩ ⟨Nat.zero_le _, Nat.zero_le _⟩) hS (fun H locs hP hS => ?_)
                have J21 : ∀ (H : Heap) (locs : List Loc) (ls : Array Slot) (u1 : Int32), u1 = (bI v19) → va_P G.1 vwCl (wld G (Mc, M, Mo)) H → va_S (hyA G) s.heap H locs → lv_has ls 3 [(0, .ref (adr G 30)), (1, .int a1), (2, .int a2)] → W p l e { frames := 3, cells := 0, slots := 6 * 0, locals := 74 } s m ([.ref (adr G 30), .int a1, .int a2] : List Value).toArray below meth c H locs 0 0 (vx_MQ below (hyQ G (.inr (some (.int res)), (Mc, M, Mo))) (hyXQ G (.inr (some (.int res)), (Mc, M, Mo))) ([.ref (adr G 30), .int a1, .int a2] : List Value).toArray s 0 (6 * 0) (hyA G)) (F0 m 115 ls [.int u1]) := by
                  intro H locs ls u1 eu1 hP hS hl
                  subst eu1
                  exact hy_iret (T := (Mc, M, Mo)) hx hb hr hlocks hP hS (Nat.zero_le _) (Nat.zero_le _) (by rw [← (Option.some.inj h)] <;> rfl) dX11_noteNow_115
                refine lv_if_eq (tgt := 114) hx hb dX11_noteNow_107 (by decide) (fun c20 => ?_) (fun c20 => ?_)
                · refine lv_iconst (v := 0) hx hb dX11_noteNow_114 rfl ?_
                  exact J21 _ _ ls 0 (by rw [(bI_z c20)] <;> rfl) hP hS (lv_sub hl [0, 1, 2] rfl)
                · refine lv_iconst (v := 1) hx hb dX11_noteNow_110 rfl ?_
                  refine lv_goto (tgt := 115) hx hb dX11_noteNow_111 (by decide) ?_
                  exact J21 _ _ ls 1 (by rw [(bI_1 c20)] <;> rfl) hP hS (lv_sub hl [0, 1, 2] rfl)
              · rw [if_neg c7] at h
                by_cases c8 : a2 = 7
                · rw [if_pos c8] at h
                  refine lv_tableIn (tgt := 116) (off := 115) hx hb dX11_noteNow_1 (by rw [c8]; decide) (by rw [c8]; decide) (by rw [c8]; rfl) (by decide) ?_
                  refine lv_aload_n hx hb dX11_noteNow_116 rfl (lv_at hl 0 rfl) ?_
                  refine hy_get (T := (Mc, M, Mo)) (o := 30) (k := 27) (v := .ref (adr G 47)) hx hb hown hts hX hP (by decide) rfl rfl inX11g (by decide) q_1219 rfl dX11_noteNow_117 ?_
                  refine lv_iload_n hx hb dX11_noteNow_120 rfl (lv_at hl 1 rfl) ?_
                  obtain ⟨v22, hv22, h⟩ := hy_bind h
                  obtain ⟨nv22, hv22⟩ := ldE_some hv22
                  refine hy_iald (T := (Mc, M, Mo)) hx hb hX hP 47 40 (M.1 47) (by decide) rfl nv22 dX11_noteNow_121 ?_
                  rw [hv22]
                  exact hy_iret (T := (Mc, M, Mo)) hx hb hr hlocks hP hS (Nat.zero_le _) (Nat.zero_le _) (by rw [← (Option.some.inj h)] <;> rfl) dX11_noteNow_122
                · rw [if_neg c8] at h
                  refine lv_tableOut (tgt := 123) hx hb dX11_noteNow_1 (hy_tabOut 0 a2 8 (fun k hk => by match k, hk with | 0, _ => exact c1 | 1, _ => exact c2 | 2, _ => exact c3 | 3, _ => exact c4 | 4, _ => exact c5 | 5, _ => exact c6 | 6, _ => exact c7 | 7, _ => exact c8 | k9 + 8, hk => exact absurd hk (by omega))) (by decide) ?_
                  refine lv_aload_n hx hb dX11_noteNow_123 rfl (lv_at hl 0 rfl) ?_
                  refine lv_iload_n hx hb dX11_noteNow_124 rfl (lv_at hl 1 rfl) ?_
                  obtain ⟨v9, hv9, h⟩ := hy_bind h
                  refine hy_ret (hy_rV0 (T := (Mc, M, Mo)) (v := some (.int v9)) (T2 := (Mc, M, Mo)) (As := [.int a1]) (rest := []) (n := 0) hx hb hml hown hts hX hP hS hl (c_Rf_parallels Mc Mo a1 M hv9) m_Rf_parallels q_1494 (hy_recv hX hP 30 10 (by decide) rfl rfl) rfl rfl (Nat.le_of_ble_eq_true rfl) dX11_noteNow_125 ⟨Nat.le_of_ble_eq_true rfl, Nat.le_of_ble_eq_true rfl⟩ ⟨Nat.zero_le _, Nat.zero_le _⟩) hS (fun H locs hP hS => ?_)
                  exact hy_iret (T := (Mc, M, Mo)) hx hb hr hlocks hP hS (Nat.zero_le _) (Nat.zero_le _) (by rw [← (Option.some.inj h)] <;> rfl) dX11_noteNow_128
set_option maxHeartbeats 1000000 in
set_option maxRecDepth 100000 in
theorem c_Rf_note {l : Launch} {G : hyG} (Mc Mo : hyM) (a1 : Int32) (a2 : Int32) (M : hyM) {res : (Int32 × hyM)} (h : Rf_note a1 a2 M = some res) : hyC l yX11_note (.code yX11_note cX11_note 3 (some .int)) 6 140 (0) G [.ref (adr G 30), .int a1, .int a2] (Mc, M, Mo) (.inr (some (.int res.1)), (Mc, res.2, Mo)) := by
  refine hy_of (by decide +kernel) (Nat.le_of_ble_eq_true rfl) ?_
  intro p e s m below meth c hx hb hml hown hts hr hlocks ht hX hP hS ls hl
  have hl : lv_has ls 3 [(0, .ref (adr G 30)), (1, .int a1), (2, .int a2)] := hl
  rw [Rf_note] at h
  refine lv_aload_n hx hb dX11_note_0 rfl (lv_at hl 0 rfl) ?_
  refine lv_aload_n hx hb dX11_note_1 rfl (lv_at hl 0 rfl) ?_
  refine lv_iload_n hx hb dX11_note_2 rfl (lv_at hl 1 rfl) ?_
  refine hy_ret (hy_rV0 (T := (Mc, M, Mo)) (v := some (.int (bI (Rf_isNote a1 M)))) (T2 := (Mc, M, Mo)) (As := [.int a1]) (rest := [.ref (adr G 30)]) (n := 0) hx hb hml hown hts hX hP hS hl (c_Rf_isNote Mc Mo a1 M rfl) m_Rf_isNote q_1340 (hy_recv hX hP 30 10 (by decide) rfl rfl) rfl rfl (Nat.le_of_ble_eq_true rfl) dX11_note_3 ⟨Nat.le_of_ble_eq_true rfl, Nat.le_of_ble_eq_true rfl⟩ ⟨Nat.zero_le _, Nat.zero_le _⟩) hS (fun H locs hP hS => ?_)
  have J7 : ∀ (H : Heap) (locs : List Loc) (ls : Array Slot) (u1 : Int32), u1 = (if (Rf_isNote a1 M) then (if (Rf_within a2 0 8 M) then 0 else 2) else 1) → va_P G.1 vwCl (wld G (Mc, M, Mo)) H → va_S (hyA G) s.heap H locs → lv_has ls 3 [(0, .ref (adr G 30)), (1, .int a1), (2, .int a2)] → W p l e { frames := 6, cells := 0, slots := 6 * 0, locals := 140 } s m ([.ref (adr G 30), .int a1, .int a2] : List Value).toArray below meth c H locs 0 0 (vx_MQ below (hyQ G (.inr (some (.int res.1)), (Mc, res.2, Mo))) (hyXQ G (.inr (some (.int res.1)), (Mc, res.2, Mo))) ([.ref (adr G 30), .int a1, .int a2] : List Value).toArray s 0 (6 * 0) (hyA G)) (F0 m 28 ls [.int u1, .ref (adr G 30)]) := by
    intro H locs ls u1 eu1 hP hS hl
    subst eu1
    refine hy_putI (ty := .int) (T := (Mc, M, Mo)) (T2 := (Mc, (wI M 30 0 (if (Rf_isNote a1 M) then (if (Rf_within a2 0 8 M) then 0 else 2) else 1)), Mo)) (o := 30) (k := 0) hx hb hown hts hX hP hS (by decide) rfl rfl rfl rfl inX11g tyX11_ok nmX11 (by decide) q_1192 rfl rfl rfl rfl (Nat.le_of_ble_eq_true rfl) dX11_note_28 (fun H locs hP hS => ?_)
    obtain ⟨M3, hM3, h⟩ := hy_bind h
    rw [Option.some.inj hM3] at hP
    refine lv_aload_n hx hb dX11_note_31 rfl (lv_at hl 0 rfl) ?_
    refine hy_get (T := (Mc, M3, Mo)) (o := 30) (k := 0) (v := .int (M3.1 30 0)) hx hb hown hts hX hP (by decide) rfl rfl inX11g (by decide) q_1192 rfl dX11_note_32 ?_
    refine lv_if_le (tgt := 40) hx hb dX11_note_35 (by decide) (fun c4 => ?_) (fun c4 => ?_)
    · rw [if_pos c4] at h
      refine lv_aload_n hx hb dX11_note_40 rfl (lv_at hl 0 rfl) ?_
      obtain ⟨M5, hM5, h⟩ := hy_bind h
      refine hy_ret (hy_rV0 (T := (Mc, M3, Mo)) (v := none) (T2 := (Mc, M5, Mo)) (As := []) (rest := []) (n := 0) hx hb hml hown hts hX hP hS hl (c_Rf_lay Mc Mo M3 hM5) m_Rf_lay q_1384 (hy_recv hX hP 30 10 (by decide) rfl rfl) rfl rfl (Nat.le_of_ble_eq_true rfl) dX11_note_41 ⟨Nat.le_of_ble_eq_true rfl, Nat.le_of_ble_eq_true rfl⟩ ⟨Nat.zero_le _, Nat.zero_le _⟩) hS (fun H locs hP hS => ?_)
      refine lv_aload_n hx hb dX11_note_44 rfl (lv_at hl 0 rfl) ?_
      refine lv_iload_n hx hb dX11_note_45 rfl (lv_at hl 1 rfl) ?_
      refine lv_iload_n hx hb dX11_note_46 rfl (lv_at hl 2 rfl) ?_
      obtain ⟨v6, hv6, h⟩ := hy_bind h
      refine hy_ret (hy_rV0 (T := (Mc, M5, Mo)) (v := some (.int v6)) (T2 := (Mc, M5, Mo)) (As := [.int a1, .int a2]) (rest := []) (n := 0) hx hb hml hown hts hX hP hS hl (c_Rf_noteNow Mc Mo a1 a2 M5 hv6) m_Rf_noteNow q_1474 (hy_recv hX hP 30 10 (by decide) rfl rfl) rfl rfl (Nat.le_of_ble_eq_true rfl) dX11_note_47 ⟨Nat.le_of_ble_eq_true rfl, Nat.le_of_ble_eq_true rfl⟩ ⟨Nat.zero_le _, Nat.zero_le _⟩) hS (fun H locs hP hS => ?_)
      exact hy_iret (T := (Mc, M5, Mo)) hx hb hr hlocks hP hS (Nat.zero_le _) (Nat.zero_le _) (by rw [← (Option.some.inj h)] <;> rfl) dX11_note_50
    · rw [if_neg c4] at h
      refine lv_iconst (v := 0) hx hb dX11_note_38 rfl ?_
      exact hy_iret (T := (Mc, M3, Mo)) hx hb hr hlocks hP hS (Nat.zero_le _) (Nat.zero_le _) (by rw [← (Option.some.inj h)] <;> rfl) dX11_note_39
  refine lv_if_ne (tgt := 13) hx hb dX11_note_6 (by decide) (fun c1 => ?_) (fun c1 => ?_)
  · refine lv_iload_n hx hb dX11_note_13 rfl (lv_at hl 2 rfl) ?_
    refine lv_iconst (v := 0) hx hb dX11_note_14 rfl ?_
    refine lv_bipush (v := 8) hx hb dX11_note_15 rfl ?_
    refine hy_ret (hy_rS0 (T := (Mc, M, Mo)) (v := some (.int (bI (Rf_within a2 0 8 M)))) (T2 := (Mc, M, Mo)) (As := [.int a2, .int 0, .int 8]) (rest := [.ref (adr G 30)]) (n := 0) hx hb hml hown hts hX hP hS hl (c_Rf_within Mc Mo a2 0 8 M rfl) m_Rf_within q_1310 rfl rfl (Nat.le_of_ble_eq_true rfl) dX11_note_17 ⟨Nat.le_of_ble_eq_true rfl, Nat.le_of_ble_eq_true rfl⟩ ⟨Nat.zero_le _, Nat.zero_le _⟩) hS (fun H locs hP hS => ?_)
    refine lv_if_eq (tgt := 27) hx hb dX11_note_20 (by decide) (fun c2 => ?_) (fun c2 => ?_)
    · refine lv_iconst (v := 2) hx hb dX11_note_27 rfl ?_
      exact J7 _ _ ls 2 (by rw [if_pos (bI_1 c1), if_neg (bI_0 c2)] <;> rfl) hP hS (lv_sub hl [0, 1, 2] rfl)
    · refine lv_iconst (v := 0) hx hb dX11_note_23 rfl ?_
      refine lv_goto (tgt := 28) hx hb dX11_note_24 (by decide) ?_
      exact J7 _ _ ls 0 (by rw [if_pos (bI_1 c1), if_pos (bI_1 c2)] <;> rfl) hP hS (lv_sub hl [0, 1, 2] rfl)
  · refine lv_iconst (v := 1) hx hb dX11_note_9 rfl ?_
    refine lv_goto (tgt := 28) hx hb dX11_note_10 (by decide) ?_
    exact J7 _ _ ls 1 (by rw [if_neg (bI_0 c1)] <;> rfl) hP hS (lv_sub hl [0, 1, 2] rfl)
set_option maxHeartbeats 1000000 in
set_option maxRecDepth 100000 in
theorem c_Rf_shape {l : Launch} {G : hyG} (Mc Mo : hyM) (a1 : Int32) (M : hyM) {res : Int32} (h : Rf_shape a1 M = some res) : hyC l yX11_shape (.code yX11_shape cX11_shape 3 (some .int)) 4 85 (0) G [.ref (adr G 30), .int a1] (Mc, M, Mo) (.inr (some (.int res)), (Mc, M, Mo)) := by
  refine hy_of (by decide +kernel) (Nat.le_of_ble_eq_true rfl) ?_
  intro p e s m below meth c hx hb hml hown hts hr hlocks ht hX hP hS ls hl
  have hl : lv_has ls 3 [(0, .ref (adr G 30)), (1, .int a1)] := hl
  rw [Rf_shape] at h
  refine lv_aload_n hx hb dX11_shape_0 rfl (lv_at hl 0 rfl) ?_
  refine lv_iload_n hx hb dX11_shape_1 rfl (lv_at hl 1 rfl) ?_
  obtain ⟨v1, hv1, h⟩ := hy_bind h
  refine hy_ret (hy_rV0 (T := (Mc, M, Mo)) (v := some (.int v1)) (T2 := (Mc, M, Mo)) (As := [.int a1]) (rest := []) (n := 0) hx hb hml hown hts hX hP hS hl (c_Rf_degree Mc Mo a1 M hv1) m_Rf_degree q_1514 (hy_recv hX hP 30 10 (by decide) rfl rfl) rfl rfl (Nat.le_of_ble_eq_true rfl) dX11_shape_2 ⟨Nat.le_of_ble_eq_true rfl, Nat.le_of_ble_eq_true rfl⟩ ⟨Nat.zero_le _, Nat.zero_le _⟩) hS (fun H locs hP hS => ?_)
  refine lv_istore_n (lv' := [(2, .int v1), (0, .ref (adr G 30)), (1, .int a1)]) hx hb dX11_shape_5 rfl hl (by decide) rfl (fun ls hl => ?_)
  refine lv_aload_n hx hb dX11_shape_6 rfl (lv_at hl 1 rfl) ?_
  refine lv_iload_n hx hb dX11_shape_7 rfl (lv_at hl 2 rfl) ?_
  obtain ⟨v2, hv2, h⟩ := hy_bind h
  refine hy_ret (hy_rV0 (T := (Mc, M, Mo)) (v := some (.int (bI v2))) (T2 := (Mc, M, Mo)) (As := [.int a1]) (rest := []) (n := 0) hx hb hml hown hts hX hP hS hl (c_Rf_isRaised Mc Mo a1 M hv2) m_Rf_isRaised q_1518 (hy_recv hX hP 30 10 (by decide) rfl rfl) rfl rfl (Nat.le_of_ble_eq_true rfl) dX11_shape_8 ⟨Nat.le_of_ble_eq_true rfl, Nat.le_of_ble_eq_true rfl⟩ ⟨Nat.zero_le _, Nat.zero_le _⟩) hS (fun H locs hP hS => ?_)
  have J5 : ∀ (H : Heap) (locs : List Loc) (ls : Array Slot) (u1 : Int32), u1 = (if v2 then (-1) else (if v1 = 6 then 3 else (v1 - v1 / 3 * 3))) → va_P G.1 vwCl (wld G (Mc, M, Mo)) H → va_S (hyA G) s.heap H locs → lv_has ls 3 [(0, .ref (adr G 30)), (1, .int a1), (2, .int v1)] → W p l e { frames := 4, cells := 0, slots := 6 * 0, locals := 85 } s m ([.ref (adr G 30), .int a1] : List Value).toArray below meth c H locs 0 0 (vx_MQ below (hyQ G (.inr (some (.int res)), (Mc, M, Mo))) (hyXQ G (.inr (some (.int res)), (Mc, M, Mo))) ([.ref (adr G 30), .int a1] : List Value).toArray s 0 (6 * 0) (hyA G)) (F0 m 31 ls [.int u1]) := by
    intro H locs ls u1 eu1 hP hS hl
    subst eu1
    exact hy_iret (T := (Mc, M, Mo)) hx hb hr hlocks hP hS (Nat.zero_le _) (Nat.zero_le _) (by rw [← (Option.some.inj h)] <;> rfl) dX11_shape_31
  refine lv_if_eq (tgt := 18) hx hb dX11_shape_11 (by decide) (fun c3 => ?_) (fun c3 => ?_)
  · refine lv_iload_n hx hb dX11_shape_18 rfl (lv_at hl 0 rfl) ?_
    refine lv_bipush (v := 6) hx hb dX11_shape_19 rfl ?_
    refine lv_icmp_ne (tgt := 28) hx hb dX11_shape_21 (by decide) (fun c4 => ?_) (fun c4 => ?_)
    · refine lv_iload_n hx hb dX11_shape_28 rfl (lv_at hl 0 rfl) ?_
      refine lv_iconst (v := 3) hx hb dX11_shape_29 rfl ?_
      refine lv_irem hx hb dX11_shape_30 (by decide) ?_
      exact J5 _ _ ls (v1 - v1 / 3 * 3) (by rw [if_neg (bI_0 c3), if_neg c4] <;> rfl) hP hS (lv_sub hl [1, 2, 0] rfl)
    · refine lv_iconst (v := 3) hx hb dX11_shape_24 rfl ?_
      refine lv_goto (tgt := 31) hx hb dX11_shape_25 (by decide) ?_
      exact J5 _ _ ls 3 (by rw [if_neg (bI_0 c3), if_pos c4] <;> rfl) hP hS (lv_sub hl [1, 2, 0] rfl)
  · refine lv_iconst (v := (-1)) hx hb dX11_shape_14 rfl ?_
    refine lv_goto (tgt := 31) hx hb dX11_shape_15 (by decide) ?_
    exact J5 _ _ ls (-1) (by rw [if_pos (bI_1 c3)] <;> rfl) hP hS (lv_sub hl [1, 2, 0] rfl)
set_option maxHeartbeats 1000000 in
set_option maxRecDepth 100000 in
theorem c_Rf_partNow {l : Launch} {G : hyG} (Mc Mo : hyM) (a1 : Int32) (a2 : Int32) (a3 : Int32) (M : hyM) {res : Int32} (h : Rf_partNow a1 a2 a3 M = some res) : hyC l yX11_partNow (.code yX11_partNow cX11_partNow 5 (some .int)) 6 133 (0) G [.ref (adr G 30), .int a1, .int a2, .int a3] (Mc, M, Mo) (.inr (some (.int res)), (Mc, M, Mo)) := by
  refine hy_of (by decide +kernel) (Nat.le_of_ble_eq_true rfl) ?_
  intro p e s m below meth c hx hb hml hown hts hr hlocks ht hX hP hS ls hl
  have hl : lv_has ls 5 [(0, .ref (adr G 30)), (1, .int a1), (2, .int a2), (3, .int a3)] := hl
  rw [Rf_partNow] at h
  refine lv_aload_n hx hb dX11_partNow_0 rfl (lv_at hl 0 rfl) ?_
  refine lv_iload_n hx hb dX11_partNow_1 rfl (lv_at hl 1 rfl) ?_
  refine lv_iload_n hx hb dX11_partNow_2 rfl (lv_at hl 2 rfl) ?_
  obtain ⟨v1, hv1, h⟩ := hy_bind h
  refine hy_ret (hy_rV0 (T := (Mc, M, Mo)) (v := some (.int v1)) (T2 := (Mc, M, Mo)) (As := [.int a1, .int a2]) (rest := []) (n := 0) hx hb hml hown hts hX hP hS hl (c_Rf_pitch Mc Mo a1 a2 M hv1) m_Rf_pitch q_1502 (hy_recv hX hP 30 10 (by decide) rfl rfl) rfl rfl (Nat.le_of_ble_eq_true rfl) dX11_partNow_3 ⟨Nat.le_of_ble_eq_true rfl, Nat.le_of_ble_eq_true rfl⟩ ⟨Nat.zero_le _, Nat.zero_le _⟩) hS (fun H locs hP hS => ?_)
  refine lv_istore (lv' := [(4, .int v1), (0, .ref (adr G 30)), (1, .int a1), (2, .int a2), (3, .int a3)]) hx hb dX11_partNow_6 hl (by decide) rfl (fun ls hl => ?_)
  refine lv_iload_n hx hb dX11_partNow_8 rfl (lv_at hl 4 rfl) ?_
  by_cases c2 : a3 = 0
  · rw [if_pos c2] at h
    refine lv_tableIn (tgt := 44) (off := 35) hx hb dX11_partNow_9 (by rw [c2]; decide) (by rw [c2]; decide) (by rw [c2]; rfl) (by decide) ?_
    refine lv_iload hx hb dX11_partNow_44 (lv_at hl 0 rfl) ?_
    exact hy_iret (T := (Mc, M, Mo)) hx hb hr hlocks hP hS (Nat.zero_le _) (Nat.zero_le _) (by rw [← (Option.some.inj h)] <;> rfl) dX11_partNow_46
  · rw [if_neg c2] at h
    by_cases c3 : a3 = 1
    · rw [if_pos c3] at h
      refine lv_tableIn (tgt := 47) (off := 38) hx hb dX11_partNow_9 (by rw [c3]; decide) (by rw [c3]; decide) (by rw [c3]; rfl) (by decide) ?_
      refine lv_aload_n hx hb dX11_partNow_47 rfl (lv_at hl 1 rfl) ?_
      refine lv_iload hx hb dX11_partNow_48 (lv_at hl 0 rfl) ?_
      obtain ⟨v8, hv8, h⟩ := hy_bind h
      refine hy_ret (hy_rV0 (T := (Mc, M, Mo)) (v := some (.int v8)) (T2 := (Mc, M, Mo)) (As := [.int v1]) (rest := []) (n := 0) hx hb hml hown hts hX hP hS hl (c_Rf_degree Mc Mo v1 M hv8) m_Rf_degree q_1514 (hy_recv hX hP 30 10 (by decide) rfl rfl) rfl rfl (Nat.le_of_ble_eq_true rfl) dX11_partNow_50 ⟨Nat.le_of_ble_eq_true rfl, Nat.le_of_ble_eq_true rfl⟩ ⟨Nat.zero_le _, Nat.zero_le _⟩) hS (fun H locs hP hS => ?_)
      exact hy_iret (T := (Mc, M, Mo)) hx hb hr hlocks hP hS (Nat.zero_le _) (Nat.zero_le _) (by rw [← (Option.some.inj h)] <;> rfl) dX11_partNow_53
    · rw [if_neg c3] at h
      by_cases c4 : a3 = 2
      · rw [if_pos c4] at h
        refine lv_tableIn (tgt := 54) (off := 45) hx hb dX11_partNow_9 (by rw [c4]; decide) (by rw [c4]; decide) (by rw [c4]; rfl) (by decide) ?_
        refine lv_aload_n hx hb dX11_partNow_54 rfl (lv_at hl 1 rfl) ?_
        refine lv_iload hx hb dX11_partNow_55 (lv_at hl 0 rfl) ?_
        obtain ⟨v9, hv9, h⟩ := hy_bind h
        refine hy_ret (hy_rV0 (T := (Mc, M, Mo)) (v := some (.int v9)) (T2 := (Mc, M, Mo)) (As := [.int v1]) (rest := []) (n := 0) hx hb hml hown hts hX hP hS hl (c_Rf_step Mc Mo v1 M hv9) m_Rf_step q_1529 (hy_recv hX hP 30 10 (by decide) rfl rfl) rfl rfl (Nat.le_of_ble_eq_true rfl) dX11_partNow_57 ⟨Nat.le_of_ble_eq_true rfl, Nat.le_of_ble_eq_true rfl⟩ ⟨Nat.zero_le _, Nat.zero_le _⟩) hS (fun H locs hP hS => ?_)
        exact hy_iret (T := (Mc, M, Mo)) hx hb hr hlocks hP hS (Nat.zero_le _) (Nat.zero_le _) (by rw [← (Option.some.inj h)] <;> rfl) dX11_partNow_60
      · rw [if_neg c4] at h
        by_cases c5 : a3 = 3
        · rw [if_pos c5] at h
          refine lv_tableIn (tgt := 61) (off := 52) hx hb dX11_partNow_9 (by rw [c5]; decide) (by rw [c5]; decide) (by rw [c5]; rfl) (by decide) ?_
          refine lv_aload_n hx hb dX11_partNow_61 rfl (lv_at hl 1 rfl) ?_
          refine lv_iload hx hb dX11_partNow_62 (lv_at hl 0 rfl) ?_
          obtain ⟨v10, hv10, h⟩ := hy_bind h
          refine hy_ret (hy_rV0 (T := (Mc, M, Mo)) (v := some (.int (bI v10))) (T2 := (Mc, M, Mo)) (As := [.int v1]) (rest := []) (n := 0) hx hb hml hown hts hX hP hS hl (c_Rf_isRaised Mc Mo v1 M hv10) m_Rf_isRaised q_1518 (hy_recv hX hP 30 10 (by decide) rfl rfl) rfl rfl (Nat.le_of_ble_eq_true rfl) dX11_partNow_64 ⟨Nat.le_of_ble_eq_true rfl, Nat.le_of_ble_eq_true rfl⟩ ⟨Nat.zero_le _, Nat.zero_le _⟩) hS (fun H locs hP hS => ?_)
          have J12 : ∀ (H : Heap) (locs : List Loc) (ls : Array Slot) (u1 : Int32), u1 = (bI v10) → va_P G.1 vwCl (wld G (Mc, M, Mo)) H → va_S (hyA G) s.heap H locs → lv_has ls 5 [(0, .ref (adr G 30)), (1, .int a1), (2, .int a2), (3, .int a3), (4, .int v1)] → W p l e { frames := 6, cells := 0, slots := 6 * 0, locals := 133 } s m ([.ref (adr G 30), .int a1, .int a2, .int a3] : List Value).toArray below meth c H locs 0 0 (vx_MQ below (hyQ G (.inr (some (.int res)), (Mc, M, Mo))) (hyXQ G (.inr (some (.int res)), (Mc, M, Mo))) ([.ref (adr G 30), .int a1, .int a2, .int a3] : List Value).toArray s 0 (6 * 0) (hyA G)) (F0 m 75 ls [.int u1]) := by
            intro H locs ls u1 eu1 hP hS hl
            subst eu1
            exact hy_iret (T := (Mc, M, Mo)) hx hb hr hlocks hP hS (Nat.zero_le _) (Nat.zero_le _) (by rw [← (Option.some.inj h)] <;> rfl) dX11_partNow_75
          refine lv_if_eq (tgt := 74) hx hb dX11_partNow_67 (by decide) (fun c11 => ?_) (fun c11 => ?_)
          · refine lv_iconst (v := 0) hx hb dX11_partNow_74 rfl ?_
            exact J12 _ _ ls 0 (by rw [(bI_z c11)] <;> rfl) hP hS (lv_sub hl [1, 2, 3, 4, 0] rfl)
          · refine lv_iconst (v := 1) hx hb dX11_partNow_70 rfl ?_
            refine lv_goto (tgt := 75) hx hb dX11_partNow_71 (by decide) ?_
            exact J12 _ _ ls 1 (by rw [(bI_1 c11)] <;> rfl) hP hS (lv_sub hl [1, 2, 3, 4, 0] rfl)
        · rw [if_neg c5] at h
          by_cases c6 : a3 = 4
          · rw [if_pos c6] at h
            refine lv_tableIn (tgt := 76) (off := 67) hx hb dX11_partNow_9 (by rw [c6]; decide) (by rw [c6]; decide) (by rw [c6]; rfl) (by decide) ?_
            refine lv_aload_n hx hb dX11_partNow_76 rfl (lv_at hl 1 rfl) ?_
            refine lv_iload hx hb dX11_partNow_77 (lv_at hl 0 rfl) ?_
            obtain ⟨v13, hv13, h⟩ := hy_bind h
            refine hy_ret (hy_rV0 (T := (Mc, M, Mo)) (v := some (.int v13)) (T2 := (Mc, M, Mo)) (As := [.int v1]) (rest := []) (n := 0) hx hb hml hown hts hX hP hS hl (c_Rf_shape Mc Mo v1 M hv13) m_Rf_shape q_1537 (hy_recv hX hP 30 10 (by decide) rfl rfl) rfl rfl (Nat.le_of_ble_eq_true rfl) dX11_partNow_79 ⟨Nat.le_of_ble_eq_true rfl, Nat.le_of_ble_eq_true rfl⟩ ⟨Nat.zero_le _, Nat.zero_le _⟩) hS (fun H locs hP hS => ?_)
            exact hy_iret (T := (Mc, M, Mo)) hx hb hr hlocks hP hS (Nat.zero_le _) (Nat.zero_le _) (by rw [← (Option.some.inj h)] <;> rfl) dX11_partNow_82
          · rw [if_neg c6] at h
            refine lv_tableOut (tgt := 83) hx hb dX11_partNow_9 (hy_tabOut 0 a3 5 (fun k hk => by match k, hk with | 0, _ => exact c2 | 1, _ => exact c3 | 2, _ => exact c4 | 3, _ => exact c5 | 4, _ => exact c6 | k9 + 5, hk => exact absurd hk (by omega))) (by decide) ?_
            refine lv_aload_n hx hb dX11_partNow_83 rfl (lv_at hl 1 rfl) ?_
            refine lv_iload_n hx hb dX11_partNow_84 rfl (lv_at hl 3 rfl) ?_
            refine lv_iload hx hb dX11_partNow_85 (lv_at hl 0 rfl) ?_
            obtain ⟨v7, hv7, h⟩ := hy_bind h
            refine hy_ret (hy_rV0 (T := (Mc, M, Mo)) (v := some (.int v7)) (T2 := (Mc, M, Mo)) (As := [.int a2, .int v1]) (rest := []) (n := 0) hx hb hml hown hts hX hP hS hl (c_Rf_ledgers Mc Mo a2 v1 M hv7) m_Rf_ledgers q_1541 (hy_recv hX hP 30 10 (by decide) rfl rfl) rfl rfl (Nat.le_of_ble_eq_true rfl) dX11_partNow_87 ⟨Nat.le_of_ble_eq_true rfl, Nat.le_of_ble_eq_true rfl⟩ ⟨Nat.zero_le _, Nat.zero_le _⟩) hS (fun H locs hP hS => ?_)
            exact hy_iret (T := (Mc, M, Mo)) hx hb hr hlocks hP hS (Nat.zero_le _) (Nat.zero_le _) (by rw [← (Option.some.inj h)] <;> rfl) dX11_partNow_90
set_option maxHeartbeats 1000000 in
set_option maxRecDepth 100000 in
theorem c_Rf_part {l : Launch} {G : hyG} (Mc Mo : hyM) (a1 : Int32) (a2 : Int32) (a3 : Int32) (M : hyM) {res : (Int32 × hyM)} (h : Rf_part a1 a2 a3 M = some res) : hyC l yX11_part (.code yX11_part cX11_part 4 (some .int)) 7 157 (0) G [.ref (adr G 30), .int a1, .int a2, .int a3] (Mc, M, Mo) (.inr (some (.int res.1)), (Mc, res.2, Mo)) := by
  refine hy_of (by decide +kernel) (Nat.le_of_ble_eq_true rfl) ?_
  intro p e s m below meth c hx hb hml hown hts hr hlocks ht hX hP hS ls hl
  have hl : lv_has ls 4 [(0, .ref (adr G 30)), (1, .int a1), (2, .int a2), (3, .int a3)] := hl
  rw [Rf_part] at h
  refine lv_aload_n hx hb dX11_part_0 rfl (lv_at hl 0 rfl) ?_
  refine lv_aload_n hx hb dX11_part_1 rfl (lv_at hl 0 rfl) ?_
  refine lv_iload_n hx hb dX11_part_2 rfl (lv_at hl 1 rfl) ?_
  refine lv_iload_n hx hb dX11_part_3 rfl (lv_at hl 2 rfl) ?_
  refine hy_ret (hy_rV0 (T := (Mc, M, Mo)) (v := some (.int (bI (Rf_isPart a1 a2 M)))) (T2 := (Mc, M, Mo)) (As := [.int a1, .int a2]) (rest := [.ref (adr G 30)]) (n := 0) hx hb hml hown hts hX hP hS hl (c_Rf_isPart Mc Mo a1 a2 M rfl) m_Rf_isPart q_1336 (hy_recv hX hP 30 10 (by decide) rfl rfl) rfl rfl (Nat.le_of_ble_eq_true rfl) dX11_part_4 ⟨Nat.le_of_ble_eq_true rfl, Nat.le_of_ble_eq_true rfl⟩ ⟨Nat.zero_le _, Nat.zero_le _⟩) hS (fun H locs hP hS => ?_)
  have J6 : ∀ (H : Heap) (locs : List Loc) (ls : Array Slot) (u1 : Int32), u1 = (if (Rf_isPart a1 a2 M) then (if (Rf_within a3 0 5 M) then 0 else 2) else 1) → va_P G.1 vwCl (wld G (Mc, M, Mo)) H → va_S (hyA G) s.heap H locs → lv_has ls 4 [(0, .ref (adr G 30)), (1, .int a1), (2, .int a2), (3, .int a3)] → W p l e { frames := 7, cells := 0, slots := 6 * 0, locals := 157 } s m ([.ref (adr G 30), .int a1, .int a2, .int a3] : List Value).toArray below meth c H locs 0 0 (vx_MQ below (hyQ G (.inr (some (.int res.1)), (Mc, res.2, Mo))) (hyXQ G (.inr (some (.int res.1)), (Mc, res.2, Mo))) ([.ref (adr G 30), .int a1, .int a2, .int a3] : List Value).toArray s 0 (6 * 0) (hyA G)) (F0 m 28 ls [.int u1, .ref (adr G 30)]) := by
    intro H locs ls u1 eu1 hP hS hl
    subst eu1
    refine hy_putI (ty := .int) (T := (Mc, M, Mo)) (T2 := (Mc, (wI M 30 0 (if (Rf_isPart a1 a2 M) then (if (Rf_within a3 0 5 M) then 0 else 2) else 1)), Mo)) (o := 30) (k := 0) hx hb hown hts hX hP hS (by decide) rfl rfl rfl rfl inX11g tyX11_ok nmX11 (by decide) q_1192 rfl rfl rfl rfl (Nat.le_of_ble_eq_true rfl) dX11_part_28 (fun H locs hP hS => ?_)
    obtain ⟨M3, hM3, h⟩ := hy_bind h
    rw [Option.some.inj hM3] at hP
    refine lv_aload_n hx hb dX11_part_31 rfl (lv_at hl 0 rfl) ?_
    refine hy_get (T := (Mc, M3, Mo)) (o := 30) (k := 0) (v := .int (M3.1 30 0)) hx hb hown hts hX hP (by decide) rfl rfl inX11g (by decide) q_1192 rfl dX11_part_32 ?_
    refine lv_if_le (tgt := 42) hx hb dX11_part_35 (by decide) (fun c4 => ?_) (fun c4 => ?_)
    · rw [if_pos c4] at h
      refine lv_aload_n hx hb dX11_part_42 rfl (lv_at hl 0 rfl) ?_
      refine lv_iload_n hx hb dX11_part_43 rfl (lv_at hl 1 rfl) ?_
      refine lv_iload_n hx hb dX11_part_44 rfl (lv_at hl 2 rfl) ?_
      refine lv_iload_n hx hb dX11_part_45 rfl (lv_at hl 3 rfl) ?_
      obtain ⟨v5, hv5, h⟩ := hy_bind h
      refine hy_ret (hy_rV0 (T := (Mc, M3, Mo)) (v := some (.int v5)) (T2 := (Mc, M3, Mo)) (As := [.int a1, .int a2, .int a3]) (rest := []) (n := 0) hx hb hml hown hts hX hP hS hl (c_Rf_partNow Mc Mo a1 a2 a3 M3 hv5) m_Rf_partNow q_1510 (hy_recv hX hP 30 10 (by decide) rfl rfl) rfl rfl (Nat.le_of_ble_eq_true rfl) dX11_part_46 ⟨Nat.le_of_ble_eq_true rfl, Nat.le_of_ble_eq_true rfl⟩ ⟨Nat.zero_le _, Nat.zero_le _⟩) hS (fun H locs hP hS => ?_)
      exact hy_iret (T := (Mc, M3, Mo)) hx hb hr hlocks hP hS (Nat.zero_le _) (Nat.zero_le _) (by rw [← (Option.some.inj h)] <;> rfl) dX11_part_49
    · rw [if_neg c4] at h
      refine lv_iconst (v := 0) hx hb dX11_part_38 rfl ?_
      refine lv_goto (tgt := 49) hx hb dX11_part_39 (by decide) ?_
      exact hy_iret (T := (Mc, M3, Mo)) hx hb hr hlocks hP hS (Nat.zero_le _) (Nat.zero_le _) (by rw [← (Option.some.inj h)] <;> rfl) dX11_part_49
  refine lv_if_ne (tgt := 14) hx hb dX11_part_7 (by decide) (fun c1 => ?_) (fun c1 => ?_)
  · refine lv_iload_n hx hb dX11_part_14 rfl (lv_at hl 3 rfl) ?_
    refine lv_iconst (v := 0) hx hb dX11_part_15 rfl ?_
    refine lv_iconst (v := 5) hx hb dX11_part_16 rfl ?_
    refine hy_ret (hy_rS0 (T := (Mc, M, Mo)) (v := some (.int (bI (Rf_within a3 0 5 M)))) (T2 := (Mc, M, Mo)) (As := [.int a3, .int 0, .int 5]) (rest := [.ref (adr G 30)]) (n := 0) hx hb hml hown hts hX hP hS hl (c_Rf_within Mc Mo a3 0 5 M rfl) m_Rf_within q_1310 rfl rfl (Nat.le_of_ble_eq_true rfl) dX11_part_17 ⟨Nat.le_of_ble_eq_true rfl, Nat.le_of_ble_eq_true rfl⟩ ⟨Nat.zero_le _, Nat.zero_le _⟩) hS (fun H locs hP hS => ?_)
    refine lv_if_eq (tgt := 27) hx hb dX11_part_20 (by decide) (fun c2 => ?_) (fun c2 => ?_)
    · refine lv_iconst (v := 2) hx hb dX11_part_27 rfl ?_
      exact J6 _ _ ls 2 (by rw [if_pos (bI_1 c1), if_neg (bI_0 c2)] <;> rfl) hP hS (lv_sub hl [0, 1, 2, 3] rfl)
    · refine lv_iconst (v := 0) hx hb dX11_part_23 rfl ?_
      refine lv_goto (tgt := 28) hx hb dX11_part_24 (by decide) ?_
      exact J6 _ _ ls 0 (by rw [if_pos (bI_1 c1), if_pos (bI_1 c2)] <;> rfl) hP hS (lv_sub hl [0, 1, 2, 3] rfl)
  · refine lv_iconst (v := 1) hx hb dX11_part_10 rfl ?_
    refine lv_goto (tgt := 28) hx hb dX11_part_11 (by decide) ?_
    exact J6 _ _ ls 1 (by rw [if_neg (bI_0 c1)] <;> rfl) hP hS (lv_sub hl [0, 1, 2, 3] rfl)
set_option maxHeartbeats 1000000 in
set_option maxRecDepth 100000 in
theorem c_Rf_heads {l : Launch} {G : hyG} (Mc Mo : hyM) (a1 : Int32) (a2 : Int32) (M : hyM) {res : (Int32 × hyM)} (h : Rf_heads a1 a2 M = some res) : hyC l yX11_heads (.code yX11_heads cX11_heads 3 (some .int)) 6 134 (0) G [.ref (adr G 30), .int a1, .int a2] (Mc, M, Mo) (.inr (some (.int res.1)), (Mc, res.2, Mo)) := by
  refine hy_of (by decide +kernel) (Nat.le_of_ble_eq_true rfl) ?_
  intro p e s m below meth c hx hb hml hown hts hr hlocks ht hX hP hS ls hl
  have hl : lv_has ls 3 [(0, .ref (adr G 30)), (1, .int a1), (2, .int a2)] := hl
  rw [Rf_heads] at h
  refine lv_aload_n hx hb dX11_heads_0 rfl (lv_at hl 0 rfl) ?_
  refine lv_aload_n hx hb dX11_heads_1 rfl (lv_at hl 0 rfl) ?_
  refine lv_iload_n hx hb dX11_heads_2 rfl (lv_at hl 1 rfl) ?_
  refine hy_ret (hy_rV0 (T := (Mc, M, Mo)) (v := some (.int (bI (Rf_isNote a1 M)))) (T2 := (Mc, M, Mo)) (As := [.int a1]) (rest := [.ref (adr G 30)]) (n := 0) hx hb hml hown hts hX hP hS hl (c_Rf_isNote Mc Mo a1 M rfl) m_Rf_isNote q_1340 (hy_recv hX hP 30 10 (by decide) rfl rfl) rfl rfl (Nat.le_of_ble_eq_true rfl) dX11_heads_3 ⟨Nat.le_of_ble_eq_true rfl, Nat.le_of_ble_eq_true rfl⟩ ⟨Nat.zero_le _, Nat.zero_le _⟩) hS (fun H locs hP hS => ?_)
  have J6 : ∀ (H : Heap) (locs : List Loc) (ls : Array Slot) (u1 : Int32), u1 = (bI (if (Rf_isNote a1 M) then (!(Rf_within a2 0 1 M)) else true)) → va_P G.1 vwCl (wld G (Mc, M, Mo)) H → va_S (hyA G) s.heap H locs → lv_has ls 3 [(0, .ref (adr G 30)), (1, .int a1), (2, .int a2)] → W p l e { frames := 6, cells := 0, slots := 6 * 0, locals := 134 } s m ([.ref (adr G 30), .int a1, .int a2] : List Value).toArray below meth c H locs 0 0 (vx_MQ below (hyQ G (.inr (some (.int res.1)), (Mc, res.2, Mo))) (hyXQ G (.inr (some (.int res.1)), (Mc, res.2, Mo))) ([.ref (adr G 30), .int a1, .int a2] : List Value).toArray s 0 (6 * 0) (hyA G)) (F0 m 23 ls [.int u1, .ref (adr G 30)]) := by
    intro H locs ls u1 eu1 hP hS hl
    subst eu1
    refine hy_putI (ty := .int) (T := (Mc, M, Mo)) (T2 := (Mc, (wI M 30 0 (bI (if (Rf_isNote a1 M) then (!(Rf_within a2 0 1 M)) else true))), Mo)) (o := 30) (k := 0) hx hb hown hts hX hP hS (by decide) rfl rfl rfl rfl inX11g tyX11_ok nmX11 (by decide) q_1192 rfl rfl rfl rfl (Nat.le_of_ble_eq_true rfl) dX11_heads_23 (fun H locs hP hS => ?_)
    obtain ⟨M3, hM3, h⟩ := hy_bind h
    rw [Option.some.inj hM3] at hP
    refine lv_aload_n hx hb dX11_heads_26 rfl (lv_at hl 0 rfl) ?_
    refine hy_get (T := (Mc, M3, Mo)) (o := 30) (k := 0) (v := .int (M3.1 30 0)) hx hb hown hts hX hP (by decide) rfl rfl inX11g (by decide) q_1192 rfl dX11_heads_27 ?_
    refine lv_if_le (tgt := 37) hx hb dX11_heads_30 (by decide) (fun c4 => ?_) (fun c4 => ?_)
    · rw [if_pos c4] at h
      refine lv_aload_n hx hb dX11_heads_37 rfl (lv_at hl 0 rfl) ?_
      refine lv_iload_n hx hb dX11_heads_38 rfl (lv_at hl 1 rfl) ?_
      refine lv_iload_n hx hb dX11_heads_39 rfl (lv_at hl 2 rfl) ?_
      obtain ⟨v5, hv5, h⟩ := hy_bind h
      refine hy_ret (hy_rV0 (T := (Mc, M3, Mo)) (v := some (.int v5)) (T2 := (Mc, M3, Mo)) (As := [.int a1, .int a2]) (rest := []) (n := 0) hx hb hml hown hts hX hP hS hl (c_Rf_headsNow Mc Mo a1 a2 M3 hv5) m_Rf_headsNow q_1549 (hy_recv hX hP 30 10 (by decide) rfl rfl) rfl rfl (Nat.le_of_ble_eq_true rfl) dX11_heads_40 ⟨Nat.le_of_ble_eq_true rfl, Nat.le_of_ble_eq_true rfl⟩ ⟨Nat.zero_le _, Nat.zero_le _⟩) hS (fun H locs hP hS => ?_)
      exact hy_iret (T := (Mc, M3, Mo)) hx hb hr hlocks hP hS (Nat.zero_le _) (Nat.zero_le _) (by rw [← (Option.some.inj h)] <;> rfl) dX11_heads_43
    · rw [if_neg c4] at h
      refine lv_iconst (v := 0) hx hb dX11_heads_33 rfl ?_
      refine lv_goto (tgt := 43) hx hb dX11_heads_34 (by decide) ?_
      exact hy_iret (T := (Mc, M3, Mo)) hx hb hr hlocks hP hS (Nat.zero_le _) (Nat.zero_le _) (by rw [← (Option.some.inj h)] <;> rfl) dX11_heads_43
  refine lv_if_eq (tgt := 22) hx hb dX11_heads_6 (by decide) (fun c1 => ?_) (fun c1 => ?_)
  · refine lv_iconst (v := 1) hx hb dX11_heads_22 rfl ?_
    exact J6 _ _ ls 1 (by rw [if_neg (bI_0 c1)] <;> rfl) hP hS (lv_sub hl [0, 1, 2] rfl)
  · refine lv_iload_n hx hb dX11_heads_9 rfl (lv_at hl 2 rfl) ?_
    refine lv_iconst (v := 0) hx hb dX11_heads_10 rfl ?_
    refine lv_iconst (v := 1) hx hb dX11_heads_11 rfl ?_
    refine hy_ret (hy_rS0 (T := (Mc, M, Mo)) (v := some (.int (bI (Rf_within a2 0 1 M)))) (T2 := (Mc, M, Mo)) (As := [.int a2, .int 0, .int 1]) (rest := [.ref (adr G 30)]) (n := 0) hx hb hml hown hts hX hP hS hl (c_Rf_within Mc Mo a2 0 1 M rfl) m_Rf_within q_1310 rfl rfl (Nat.le_of_ble_eq_true rfl) dX11_heads_12 ⟨Nat.le_of_ble_eq_true rfl, Nat.le_of_ble_eq_true rfl⟩ ⟨Nat.zero_le _, Nat.zero_le _⟩) hS (fun H locs hP hS => ?_)
    refine lv_if_eq (tgt := 22) hx hb dX11_heads_15 (by decide) (fun c2 => ?_) (fun c2 => ?_)
    · refine lv_iconst (v := 1) hx hb dX11_heads_22 rfl ?_
      exact J6 _ _ ls 1 (by rw [if_pos (bI_1 c1), (bI_z c2)] <;> rfl) hP hS (lv_sub hl [0, 1, 2] rfl)
    · refine lv_iconst (v := 0) hx hb dX11_heads_18 rfl ?_
      refine lv_goto (tgt := 23) hx hb dX11_heads_19 (by decide) ?_
      exact J6 _ _ ls 0 (by rw [if_pos (bI_1 c1), (bI_1 c2)] <;> rfl) hP hS (lv_sub hl [0, 1, 2] rfl)
set_option maxHeartbeats 1000000 in
set_option maxRecDepth 100000 in
theorem c_Rf_timesSung {l : Launch} {G : hyG} (Mc Mo : hyM) (a1 : Int32) (M : hyM) {res : Int32} (h : Rf_timesSung a1 M = some res) : hyC l yX11_timesSung (.code yX11_timesSung cX11_timesSung 4 (some .int)) 0 0 (0) G [.ref (adr G 30), .int a1] (Mc, M, Mo) (.inr (some (.int res)), (Mc, M, Mo)) := by
  refine hy_of (by decide +kernel) (Nat.le_of_ble_eq_true rfl) ?_
  intro p e s m below meth c hx hb hml hown hts hr hlocks ht hX hP hS ls hl
  have hl : lv_has ls 4 [(0, .ref (adr G 30)), (1, .int a1)] := hl
  rw [Rf_timesSung] at h
  refine lv_iconst (v := 0) hx hb dX11_timesSung_0 rfl ?_
  refine lv_istore_n (lv' := [(2, .int 0), (0, .ref (adr G 30)), (1, .int a1)]) hx hb dX11_timesSung_1 rfl hl (by decide) rfl (fun ls hl => ?_)
  refine lv_iconst (v := 0) hx hb dX11_timesSung_2 rfl ?_
  refine lv_istore_n (lv' := [(3, .int 0), (2, .int 0), (0, .ref (adr G 30)), (1, .int a1)]) hx hb dX11_timesSung_3 rfl hl (by decide) rfl (fun ls hl => ?_)
  have L7 : ∀ (f : Nat) (x1 : Int32) (x2 : Int32) (qL : (Int32 × Int32)) (h : Rf_timesSung_L4 a1 M f x1 x2 = some qL) (H : Heap) (locs : List Loc) (ls : Array Slot) (hP : va_P G.1 vwCl (wld G (Mc, M, Mo)) H) (hS : va_S (hyA G) s.heap H locs) (hl : lv_has ls 4 [(0, .ref (adr G 30)), (1, .int a1), (2, .int x1), (3, .int x2)]) (kk : ∀ (y1 : Int32) (y2 : Int32), qL = (y1, y2) → ∀ (H : Heap) (locs : List Loc) (ls : Array Slot), va_P G.1 vwCl (wld G (Mc, M, Mo)) H → va_S (hyA G) s.heap H locs → lv_has ls 4 [(0, .ref (adr G 30)), (1, .int a1), (2, .int y1), (3, .int y2)] → W p l e { frames := 0, cells := 0, slots := 6 * 0, locals := 0 } s m ([.ref (adr G 30), .int a1] : List Value).toArray below meth c H locs 0 0 (vx_MQ below (hyQ G (.inr (some (.int res)), (Mc, M, Mo))) (hyXQ G (.inr (some (.int res)), (Mc, M, Mo))) ([.ref (adr G 30), .int a1] : List Value).toArray s 0 (6 * 0) (hyA G)) (F0 m 36 ls [])), W p l e { frames := 0, cells := 0, slots := 6 * 0, locals := 0 } s m ([.ref (adr G 30), .int a1] : List Value).toArray below meth c H locs 0 0 (vx_MQ below (hyQ G (.inr (some (.int res)), (Mc, M, Mo))) (hyXQ G (.inr (some (.int res)), (Mc, M, Mo))) ([.ref (adr G 30), .int a1] : List Value).toArray s 0 (6 * 0) (hyA G)) (F0 m 4 ls []) := by
    intro f
    induction f with
    | zero =>
      intro x1 x2 qL h H locs ls hP hS hl kk
      rw [Rf_timesSung_L4] at h
      cases h
    | succ f ih =>
      intro x1 x2 qL h H locs ls hP hS hl kk
      rw [Rf_timesSung_L4] at h
      refine lv_iload_n hx hb dX11_timesSung_4 rfl (lv_at hl 3 rfl) ?_
      refine lv_aload_n hx hb dX11_timesSung_5 rfl (lv_at hl 0 rfl) ?_
      refine hy_get (T := (Mc, M, Mo)) (o := 30) (k := 25) (v := .int (M.1 30 25)) hx hb hown hts hX hP (by decide) rfl rfl inX11g (by decide) q_1217 rfl dX11_timesSung_6 ?_
      refine lv_icmp_ge (tgt := 36) hx hb dX11_timesSung_9 (by decide) (fun c3 => ?_) (fun c3 => ?_)
      · rw [if_pos c3] at h
        exact kk x1 x2 (Option.some.inj h).symm _ _ ls hP hS (lv_sub hl [0, 1, 2, 3] rfl)
      · rw [if_neg c3] at h
        refine lv_iload_n hx hb dX11_timesSung_12 rfl (lv_at hl 2 rfl) ?_
        refine lv_aload_n hx hb dX11_timesSung_13 rfl (lv_at hl 0 rfl) ?_
        refine hy_get (T := (Mc, M, Mo)) (o := 30) (k := 26) (v := .ref (adr G 46)) hx hb hown hts hX hP (by decide) rfl rfl inX11g (by decide) q_1218 rfl dX11_timesSung_14 ?_
        refine lv_iload_n hx hb dX11_timesSung_17 rfl (lv_at hl 3 rfl) ?_
        obtain ⟨v4, hv4, h⟩ := hy_bind h
        obtain ⟨nv4, hv4⟩ := ldE_some hv4
        refine hy_iald (T := (Mc, M, Mo)) hx hb hX hP 46 80 (M.1 46) (by decide) rfl nv4 dX11_timesSung_18 ?_
        rw [hv4]
        refine lv_iload_n hx hb dX11_timesSung_19 rfl (lv_at hl 1 rfl) ?_
        have J6 : ∀ (H : Heap) (locs : List Loc) (ls : Array Slot) (u1 : Int32), u1 = (bI (decide (v4 = a1))) → va_P G.1 vwCl (wld G (Mc, M, Mo)) H → va_S (hyA G) s.heap H locs → lv_has ls 4 [(0, .ref (adr G 30)), (1, .int a1), (2, .int x1), (3, .int x2)] → W p l e { frames := 0, cells := 0, slots := 6 * 0, locals := 0 } s m ([.ref (adr G 30), .int a1] : List Value).toArray below meth c H locs 0 0 (vx_MQ below (hyQ G (.inr (some (.int res)), (Mc, M, Mo))) (hyXQ G (.inr (some (.int res)), (Mc, M, Mo))) ([.ref (adr G 30), .int a1] : List Value).toArray s 0 (6 * 0) (hyA G)) (F0 m 28 ls [.int u1, .int x1]) := by
          intro H locs ls u1 eu1 hP hS hl
          subst eu1
          refine lv_iadd hx hb dX11_timesSung_28 ?_
          refine lv_istore_n (lv' := [(2, .int (x1 + (bI (decide (v4 = a1))))), (0, .ref (adr G 30)), (1, .int a1), (3, .int x2)]) hx hb dX11_timesSung_29 rfl hl (by decide) rfl (fun ls hl => ?_)
          refine lv_iinc (v := (x2 + 1)) (lv' := [(3, .int (x2 + 1)), (2, .int (x1 + (bI (decide (v4 = a1))))), (0, .ref (adr G 30)), (1, .int a1)]) hx hb dX11_timesSung_30 hl (k := 3) rfl rfl (by decide) rfl (fun ls hl => ?_)
          refine lv_goto (tgt := 4) hx hb dX11_timesSung_33 (by decide) ?_
          exact ih (x1 + (bI (decide (v4 = a1)))) (x2 + 1) _ h  _ _ ls hP hS (lv_sub hl [2, 3, 1, 0] rfl) kk
        refine lv_icmp_ne (tgt := 27) hx hb dX11_timesSung_20 (by decide) (fun c5 => ?_) (fun c5 => ?_)
        · refine lv_iconst (v := 0) hx hb dX11_timesSung_27 rfl ?_
          exact J6 _ _ ls 0 (by rw [decide_eq_false c5] <;> rfl) hP hS (lv_sub hl [0, 1, 2, 3] rfl)
        · refine lv_iconst (v := 1) hx hb dX11_timesSung_23 rfl ?_
          refine lv_goto (tgt := 28) hx hb dX11_timesSung_24 (by decide) ?_
          exact J6 _ _ ls 1 (by rw [decide_eq_true c5] <;> rfl) hP hS (lv_sub hl [0, 1, 2, 3] rfl)
  obtain ⟨q8, hq8, h⟩ := hy_bind h
  refine L7 hyFu 0 0 q8 hq8 _ _ ls hP hS (lv_sub hl [2, 3, 1, 0] rfl) ?_
  intro y1 y2 e9 H locs ls hP hS hl
  subst e9
  try dsimp only at h
  refine lv_iload_n hx hb dX11_timesSung_36 rfl (lv_at hl 2 rfl) ?_
  exact hy_iret (T := (Mc, M, Mo)) hx hb hr hlocks hP hS (Nat.zero_le _) (Nat.zero_le _) (by rw [← (Option.some.inj h)] <;> rfl) dX11_timesSung_37
set_option maxHeartbeats 1000000 in
set_option maxRecDepth 100000 in
theorem c_Rf_phraseNow {l : Launch} {G : hyG} (Mc Mo : hyM) (a1 : Int32) (a2 : Int32) (M : hyM) {res : Int32} (h : Rf_phraseNow a1 a2 M = some res) : hyC l yX11_phraseNow (.code yX11_phraseNow cX11_phraseNow 3 (some .int)) 2 44 (0) G [.ref (adr G 30), .int a1, .int a2] (Mc, M, Mo) (.inr (some (.int res)), (Mc, M, Mo)) := by
  refine hy_of (by decide +kernel) (Nat.le_of_ble_eq_true rfl) ?_
  intro p e s m below meth c hx hb hml hown hts hr hlocks ht hX hP hS ls hl
  have hl : lv_has ls 3 [(0, .ref (adr G 30)), (1, .int a1), (2, .int a2)] := hl
  rw [Rf_phraseNow] at h
  refine lv_iload_n hx hb dX11_phraseNow_0 rfl (lv_at hl 2 rfl) ?_
  by_cases c1 : a2 = 0
  · rw [if_pos c1] at h
    refine lv_tableIn (tgt := 36) (off := 35) hx hb dX11_phraseNow_1 (by rw [c1]; decide) (by rw [c1]; decide) (by rw [c1]; rfl) (by decide) ?_
    refine lv_aload_n hx hb dX11_phraseNow_36 rfl (lv_at hl 0 rfl) ?_
    refine hy_get (T := (Mc, M, Mo)) (o := 30) (k := 22) (v := .ref (adr G 43)) hx hb hown hts hX hP (by decide) rfl rfl inX11g (by decide) q_1214 rfl dX11_phraseNow_37 ?_
    refine lv_iload_n hx hb dX11_phraseNow_40 rfl (lv_at hl 1 rfl) ?_
    obtain ⟨v7, hv7, h⟩ := hy_bind h
    obtain ⟨nv7, hv7⟩ := ldE_some hv7
    refine hy_iald (T := (Mc, M, Mo)) hx hb hX hP 43 40 (M.1 43) (by decide) rfl nv7 dX11_phraseNow_41 ?_
    rw [hv7]
    exact hy_iret (T := (Mc, M, Mo)) hx hb hr hlocks hP hS (Nat.zero_le _) (Nat.zero_le _) (by rw [← (Option.some.inj h)] <;> rfl) dX11_phraseNow_42
  · rw [if_neg c1] at h
    by_cases c2 : a2 = 1
    · rw [if_pos c2] at h
      refine lv_tableIn (tgt := 43) (off := 42) hx hb dX11_phraseNow_1 (by rw [c2]; decide) (by rw [c2]; decide) (by rw [c2]; rfl) (by decide) ?_
      refine lv_aload_n hx hb dX11_phraseNow_43 rfl (lv_at hl 0 rfl) ?_
      refine hy_get (T := (Mc, M, Mo)) (o := 30) (k := 23) (v := .ref (adr G 44)) hx hb hown hts hX hP (by decide) rfl rfl inX11g (by decide) q_1215 rfl dX11_phraseNow_44 ?_
      refine lv_iload_n hx hb dX11_phraseNow_47 rfl (lv_at hl 1 rfl) ?_
      obtain ⟨v8, hv8, h⟩ := hy_bind h
      obtain ⟨nv8, hv8⟩ := ldE_some hv8
      refine hy_iald (T := (Mc, M, Mo)) hx hb hX hP 44 40 (M.1 44) (by decide) rfl nv8 dX11_phraseNow_48 ?_
      rw [hv8]
      exact hy_iret (T := (Mc, M, Mo)) hx hb hr hlocks hP hS (Nat.zero_le _) (Nat.zero_le _) (by rw [← (Option.some.inj h)] <;> rfl) dX11_phraseNow_49
    · rw [if_neg c2] at h
      by_cases c3 : a2 = 2
      · rw [if_pos c3] at h
        refine lv_tableIn (tgt := 50) (off := 49) hx hb dX11_phraseNow_1 (by rw [c3]; decide) (by rw [c3]; decide) (by rw [c3]; rfl) (by decide) ?_
        refine lv_aload_n hx hb dX11_phraseNow_50 rfl (lv_at hl 0 rfl) ?_
        refine lv_iload_n hx hb dX11_phraseNow_51 rfl (lv_at hl 1 rfl) ?_
        obtain ⟨v9, hv9, h⟩ := hy_bind h
        refine hy_ret (hy_rV0 (T := (Mc, M, Mo)) (v := some (.int v9)) (T2 := (Mc, M, Mo)) (As := [.int a1]) (rest := []) (n := 0) hx hb hml hown hts hX hP hS hl (c_Rf_syllablesOf Mc Mo a1 M hv9) m_Rf_syllablesOf q_1561 (hy_recv hX hP 30 10 (by decide) rfl rfl) rfl rfl (Nat.le_of_ble_eq_true rfl) dX11_phraseNow_52 ⟨Nat.le_of_ble_eq_true rfl, Nat.le_of_ble_eq_true rfl⟩ ⟨Nat.zero_le _, Nat.zero_le _⟩) hS (fun H locs hP hS => ?_)
        exact hy_iret (T := (Mc, M, Mo)) hx hb hr hlocks hP hS (Nat.zero_le _) (Nat.zero_le _) (by rw [← (Option.some.inj h)] <;> rfl) dX11_phraseNow_55
      · rw [if_neg c3] at h
        by_cases c4 : a2 = 3
        · rw [if_pos c4] at h
          refine lv_tableIn (tgt := 56) (off := 55) hx hb dX11_phraseNow_1 (by rw [c4]; decide) (by rw [c4]; decide) (by rw [c4]; rfl) (by decide) ?_
          refine lv_aload_n hx hb dX11_phraseNow_56 rfl (lv_at hl 0 rfl) ?_
          refine hy_get (T := (Mc, M, Mo)) (o := 30) (k := 28) (v := .ref (adr G 48)) hx hb hown hts hX hP (by decide) rfl rfl inX11g (by decide) q_1220 rfl dX11_phraseNow_57 ?_
          refine lv_iload_n hx hb dX11_phraseNow_60 rfl (lv_at hl 1 rfl) ?_
          obtain ⟨v10, hv10, h⟩ := hy_bind h
          obtain ⟨nv10, hv10⟩ := ldE_some hv10
          refine hy_iald (T := (Mc, M, Mo)) hx hb hX hP 48 40 (M.1 48) (by decide) rfl nv10 dX11_phraseNow_61 ?_
          rw [hv10]
          exact hy_iret (T := (Mc, M, Mo)) hx hb hr hlocks hP hS (Nat.zero_le _) (Nat.zero_le _) (by rw [← (Option.some.inj h)] <;> rfl) dX11_phraseNow_62
        · rw [if_neg c4] at h
          by_cases c5 : a2 = 4
          · rw [if_pos c5] at h
            refine lv_tableIn (tgt := 63) (off := 62) hx hb dX11_phraseNow_1 (by rw [c5]; decide) (by rw [c5]; decide) (by rw [c5]; rfl) (by decide) ?_
            refine lv_aload_n hx hb dX11_phraseNow_63 rfl (lv_at hl 0 rfl) ?_
            refine hy_get (T := (Mc, M, Mo)) (o := 30) (k := 29) (v := .ref (adr G 49)) hx hb hown hts hX hP (by decide) rfl rfl inX11g (by decide) q_1221 rfl dX11_phraseNow_64 ?_
            refine lv_iload_n hx hb dX11_phraseNow_67 rfl (lv_at hl 1 rfl) ?_
            obtain ⟨v11, hv11, h⟩ := hy_bind h
            obtain ⟨nv11, hv11⟩ := ldE_some hv11
            refine hy_iald (T := (Mc, M, Mo)) hx hb hX hP 49 40 (M.1 49) (by decide) rfl nv11 dX11_phraseNow_68 ?_
            rw [hv11]
            exact hy_iret (T := (Mc, M, Mo)) hx hb hr hlocks hP hS (Nat.zero_le _) (Nat.zero_le _) (by rw [← (Option.some.inj h)] <;> rfl) dX11_phraseNow_69
          · rw [if_neg c5] at h
            refine lv_tableOut (tgt := 70) hx hb dX11_phraseNow_1 (hy_tabOut 0 a2 5 (fun k hk => by match k, hk with | 0, _ => exact c1 | 1, _ => exact c2 | 2, _ => exact c3 | 3, _ => exact c4 | 4, _ => exact c5 | k9 + 5, hk => exact absurd hk (by omega))) (by decide) ?_
            refine lv_aload_n hx hb dX11_phraseNow_70 rfl (lv_at hl 0 rfl) ?_
            refine lv_iload_n hx hb dX11_phraseNow_71 rfl (lv_at hl 1 rfl) ?_
            obtain ⟨v6, hv6, h⟩ := hy_bind h
            refine hy_ret (hy_rV0 (T := (Mc, M, Mo)) (v := some (.int v6)) (T2 := (Mc, M, Mo)) (As := [.int a1]) (rest := []) (n := 0) hx hb hml hown hts hX hP hS hl (c_Rf_timesSung Mc Mo a1 M hv6) m_Rf_timesSung q_1565 (hy_recv hX hP 30 10 (by decide) rfl rfl) rfl rfl (Nat.le_of_ble_eq_true rfl) dX11_phraseNow_72 ⟨Nat.le_of_ble_eq_true rfl, Nat.le_of_ble_eq_true rfl⟩ ⟨Nat.zero_le _, Nat.zero_le _⟩) hS (fun H locs hP hS => ?_)
            exact hy_iret (T := (Mc, M, Mo)) hx hb hr hlocks hP hS (Nat.zero_le _) (Nat.zero_le _) (by rw [← (Option.some.inj h)] <;> rfl) dX11_phraseNow_75
set_option maxHeartbeats 1000000 in
set_option maxRecDepth 100000 in
theorem c_Rf_phrase {l : Launch} {G : hyG} (Mc Mo : hyM) (a1 : Int32) (a2 : Int32) (M : hyM) {res : (Int32 × hyM)} (h : Rf_phrase a1 a2 M = some res) : hyC l yX11_phrase (.code yX11_phrase cX11_phrase 3 (some .int)) 6 140 (0) G [.ref (adr G 30), .int a1, .int a2] (Mc, M, Mo) (.inr (some (.int res.1)), (Mc, res.2, Mo)) := by
  refine hy_of (by decide +kernel) (Nat.le_of_ble_eq_true rfl) ?_
  intro p e s m below meth c hx hb hml hown hts hr hlocks ht hX hP hS ls hl
  have hl : lv_has ls 3 [(0, .ref (adr G 30)), (1, .int a1), (2, .int a2)] := hl
  rw [Rf_phrase] at h
  refine lv_aload_n hx hb dX11_phrase_0 rfl (lv_at hl 0 rfl) ?_
  obtain ⟨M1, hM1, h⟩ := hy_bind h
  refine hy_ret (hy_rV0 (T := (Mc, M, Mo)) (v := none) (T2 := (Mc, M1, Mo)) (As := []) (rest := []) (n := 0) hx hb hml hown hts hX hP hS hl (c_Rf_lay Mc Mo M hM1) m_Rf_lay q_1384 (hy_recv hX hP 30 10 (by decide) rfl rfl) rfl rfl (Nat.le_of_ble_eq_true rfl) dX11_phrase_1 ⟨Nat.le_of_ble_eq_true rfl, Nat.le_of_ble_eq_true rfl⟩ ⟨Nat.zero_le _, Nat.zero_le _⟩) hS (fun H locs hP hS => ?_)
  refine lv_aload_n hx hb dX11_phrase_4 rfl (lv_at hl 0 rfl) ?_
  refine lv_iload_n hx hb dX11_phrase_5 rfl (lv_at hl 1 rfl) ?_
  refine lv_iconst (v := 0) hx hb dX11_phrase_6 rfl ?_
  refine lv_aload_n hx hb dX11_phrase_7 rfl (lv_at hl 0 rfl) ?_
  refine hy_get (T := (Mc, M1, Mo)) (o := 30) (k := 21) (v := .int (M1.1 30 21)) hx hb hown hts hX hP (by decide) rfl rfl inX11g (by decide) q_1213 rfl dX11_phrase_8 ?_
  refine lv_iconst (v := 1) hx hb dX11_phrase_11 rfl ?_
  refine lv_isub hx hb dX11_phrase_12 ?_
  refine hy_ret (hy_rS0 (T := (Mc, M1, Mo)) (v := some (.int (bI (Rf_within a1 0 ((M1.1 30 21) - 1) M1)))) (T2 := (Mc, M1, Mo)) (As := [.int a1, .int 0, .int ((M1.1 30 21) - 1)]) (rest := [.ref (adr G 30)]) (n := 0) hx hb hml hown hts hX hP hS hl (c_Rf_within Mc Mo a1 0 ((M1.1 30 21) - 1) M1 rfl) m_Rf_within q_1310 rfl rfl (Nat.le_of_ble_eq_true rfl) dX11_phrase_13 ⟨Nat.le_of_ble_eq_true rfl, Nat.le_of_ble_eq_true rfl⟩ ⟨Nat.zero_le _, Nat.zero_le _⟩) hS (fun H locs hP hS => ?_)
  have J7 : ∀ (H : Heap) (locs : List Loc) (ls : Array Slot) (u1 : Int32), u1 = (if (Rf_within a1 0 ((M1.1 30 21) - 1) M1) then (if (Rf_within a2 0 5 M1) then 0 else 2) else 1) → va_P G.1 vwCl (wld G (Mc, M1, Mo)) H → va_S (hyA G) s.heap H locs → lv_has ls 3 [(0, .ref (adr G 30)), (1, .int a1), (2, .int a2)] → W p l e { frames := 6, cells := 0, slots := 6 * 0, locals := 140 } s m ([.ref (adr G 30), .int a1, .int a2] : List Value).toArray below meth c H locs 0 0 (vx_MQ below (hyQ G (.inr (some (.int res.1)), (Mc, res.2, Mo))) (hyXQ G (.inr (some (.int res.1)), (Mc, res.2, Mo))) ([.ref (adr G 30), .int a1, .int a2] : List Value).toArray s 0 (6 * 0) (hyA G)) (F0 m 37 ls [.int u1, .ref (adr G 30)]) := by
    intro H locs ls u1 eu1 hP hS hl
    subst eu1
    refine hy_putI (ty := .int) (T := (Mc, M1, Mo)) (T2 := (Mc, (wI M1 30 0 (if (Rf_within a1 0 ((M1.1 30 21) - 1) M1) then (if (Rf_within a2 0 5 M1) then 0 else 2) else 1)), Mo)) (o := 30) (k := 0) hx hb hown hts hX hP hS (by decide) rfl rfl rfl rfl inX11g tyX11_ok nmX11 (by decide) q_1192 rfl rfl rfl rfl (Nat.le_of_ble_eq_true rfl) dX11_phrase_37 (fun H locs hP hS => ?_)
    obtain ⟨M4, hM4, h⟩ := hy_bind h
    rw [Option.some.inj hM4] at hP
    refine lv_aload_n hx hb dX11_phrase_40 rfl (lv_at hl 0 rfl) ?_
    refine hy_get (T := (Mc, M4, Mo)) (o := 30) (k := 0) (v := .int (M4.1 30 0)) hx hb hown hts hX hP (by decide) rfl rfl inX11g (by decide) q_1192 rfl dX11_phrase_41 ?_
    refine lv_if_le (tgt := 51) hx hb dX11_phrase_44 (by decide) (fun c5 => ?_) (fun c5 => ?_)
    · rw [if_pos c5] at h
      refine lv_aload_n hx hb dX11_phrase_51 rfl (lv_at hl 0 rfl) ?_
      refine lv_iload_n hx hb dX11_phrase_52 rfl (lv_at hl 1 rfl) ?_
      refine lv_iload_n hx hb dX11_phrase_53 rfl (lv_at hl 2 rfl) ?_
      obtain ⟨v6, hv6, h⟩ := hy_bind h
      refine hy_ret (hy_rV0 (T := (Mc, M4, Mo)) (v := some (.int v6)) (T2 := (Mc, M4, Mo)) (As := [.int a1, .int a2]) (rest := []) (n := 0) hx hb hml hown hts hX hP hS hl (c_Rf_phraseNow Mc Mo a1 a2 M4 hv6) m_Rf_phraseNow q_1557 (hy_recv hX hP 30 10 (by decide) rfl rfl) rfl rfl (Nat.le_of_ble_eq_true rfl) dX11_phrase_54 ⟨Nat.le_of_ble_eq_true rfl, Nat.le_of_ble_eq_true rfl⟩ ⟨Nat.zero_le _, Nat.zero_le _⟩) hS (fun H locs hP hS => ?_)
      exact hy_iret (T := (Mc, M4, Mo)) hx hb hr hlocks hP hS (Nat.zero_le _) (Nat.zero_le _) (by rw [← (Option.some.inj h)] <;> rfl) dX11_phrase_57
    · rw [if_neg c5] at h
      refine lv_iconst (v := 0) hx hb dX11_phrase_47 rfl ?_
      refine lv_goto (tgt := 57) hx hb dX11_phrase_48 (by decide) ?_
      exact hy_iret (T := (Mc, M4, Mo)) hx hb hr hlocks hP hS (Nat.zero_le _) (Nat.zero_le _) (by rw [← (Option.some.inj h)] <;> rfl) dX11_phrase_57
  refine lv_if_ne (tgt := 23) hx hb dX11_phrase_16 (by decide) (fun c2 => ?_) (fun c2 => ?_)
  · refine lv_iload_n hx hb dX11_phrase_23 rfl (lv_at hl 2 rfl) ?_
    refine lv_iconst (v := 0) hx hb dX11_phrase_24 rfl ?_
    refine lv_iconst (v := 5) hx hb dX11_phrase_25 rfl ?_
    refine hy_ret (hy_rS0 (T := (Mc, M1, Mo)) (v := some (.int (bI (Rf_within a2 0 5 M1)))) (T2 := (Mc, M1, Mo)) (As := [.int a2, .int 0, .int 5]) (rest := [.ref (adr G 30)]) (n := 0) hx hb hml hown hts hX hP hS hl (c_Rf_within Mc Mo a2 0 5 M1 rfl) m_Rf_within q_1310 rfl rfl (Nat.le_of_ble_eq_true rfl) dX11_phrase_26 ⟨Nat.le_of_ble_eq_true rfl, Nat.le_of_ble_eq_true rfl⟩ ⟨Nat.zero_le _, Nat.zero_le _⟩) hS (fun H locs hP hS => ?_)
    refine lv_if_eq (tgt := 36) hx hb dX11_phrase_29 (by decide) (fun c3 => ?_) (fun c3 => ?_)
    · refine lv_iconst (v := 2) hx hb dX11_phrase_36 rfl ?_
      exact J7 _ _ ls 2 (by rw [if_pos (bI_1 c2), if_neg (bI_0 c3)] <;> rfl) hP hS (lv_sub hl [0, 1, 2] rfl)
    · refine lv_iconst (v := 0) hx hb dX11_phrase_32 rfl ?_
      refine lv_goto (tgt := 37) hx hb dX11_phrase_33 (by decide) ?_
      exact J7 _ _ ls 0 (by rw [if_pos (bI_1 c2), if_pos (bI_1 c3)] <;> rfl) hP hS (lv_sub hl [0, 1, 2] rfl)
  · refine lv_iconst (v := 1) hx hb dX11_phrase_19 rfl ?_
    refine lv_goto (tgt := 37) hx hb dX11_phrase_20 (by decide) ?_
    exact J7 _ _ ls 1 (by rw [if_neg (bI_0 c2)] <;> rfl) hP hS (lv_sub hl [0, 1, 2] rfl)
set_option maxHeartbeats 1000000 in
set_option maxRecDepth 100000 in
theorem c_Rf_sung {l : Launch} {G : hyG} (Mc Mo : hyM) (a1 : Int32) (M : hyM) {res : (Int32 × hyM)} (h : Rf_sung a1 M = some res) : hyC l yX11_sung (.code yX11_sung cX11_sung 2 (some .int)) 2 46 (0) G [.ref (adr G 30), .int a1] (Mc, M, Mo) (.inr (some (.int res.1)), (Mc, res.2, Mo)) := by
  refine hy_of (by decide +kernel) (Nat.le_of_ble_eq_true rfl) ?_
  intro p e s m below meth c hx hb hml hown hts hr hlocks ht hX hP hS ls hl
  have hl : lv_has ls 2 [(0, .ref (adr G 30)), (1, .int a1)] := hl
  rw [Rf_sung] at h
  refine lv_aload_n hx hb dX11_sung_0 rfl (lv_at hl 0 rfl) ?_
  obtain ⟨M1, hM1, h⟩ := hy_bind h
  refine hy_ret (hy_rV0 (T := (Mc, M, Mo)) (v := none) (T2 := (Mc, M1, Mo)) (As := []) (rest := []) (n := 0) hx hb hml hown hts hX hP hS hl (c_Rf_laySung Mc Mo M hM1) m_Rf_laySung q_1360 (hy_recv hX hP 30 10 (by decide) rfl rfl) rfl rfl (Nat.le_of_ble_eq_true rfl) dX11_sung_1 ⟨Nat.le_of_ble_eq_true rfl, Nat.le_of_ble_eq_true rfl⟩ ⟨Nat.zero_le _, Nat.zero_le _⟩) hS (fun H locs hP hS => ?_)
  refine lv_aload_n hx hb dX11_sung_4 rfl (lv_at hl 0 rfl) ?_
  refine lv_iload_n hx hb dX11_sung_5 rfl (lv_at hl 1 rfl) ?_
  refine lv_iconst (v := 0) hx hb dX11_sung_6 rfl ?_
  refine lv_aload_n hx hb dX11_sung_7 rfl (lv_at hl 0 rfl) ?_
  refine hy_get (T := (Mc, M1, Mo)) (o := 30) (k := 25) (v := .int (M1.1 30 25)) hx hb hown hts hX hP (by decide) rfl rfl inX11g (by decide) q_1217 rfl dX11_sung_8 ?_
  refine lv_iconst (v := 1) hx hb dX11_sung_11 rfl ?_
  refine lv_isub hx hb dX11_sung_12 ?_
  refine hy_ret (hy_rS0 (T := (Mc, M1, Mo)) (v := some (.int (bI (Rf_within a1 0 ((M1.1 30 25) - 1) M1)))) (T2 := (Mc, M1, Mo)) (As := [.int a1, .int 0, .int ((M1.1 30 25) - 1)]) (rest := [.ref (adr G 30)]) (n := 0) hx hb hml hown hts hX hP hS hl (c_Rf_within Mc Mo a1 0 ((M1.1 30 25) - 1) M1 rfl) m_Rf_within q_1310 rfl rfl (Nat.le_of_ble_eq_true rfl) dX11_sung_13 ⟨Nat.le_of_ble_eq_true rfl, Nat.le_of_ble_eq_true rfl⟩ ⟨Nat.zero_le _, Nat.zero_le _⟩) hS (fun H locs hP hS => ?_)
  have J6 : ∀ (H : Heap) (locs : List Loc) (ls : Array Slot) (u1 : Int32), u1 = (bI (!(Rf_within a1 0 ((M1.1 30 25) - 1) M1))) → va_P G.1 vwCl (wld G (Mc, M1, Mo)) H → va_S (hyA G) s.heap H locs → lv_has ls 2 [(0, .ref (adr G 30)), (1, .int a1)] → W p l e { frames := 2, cells := 0, slots := 6 * 0, locals := 46 } s m ([.ref (adr G 30), .int a1] : List Value).toArray below meth c H locs 0 0 (vx_MQ below (hyQ G (.inr (some (.int res.1)), (Mc, res.2, Mo))) (hyXQ G (.inr (some (.int res.1)), (Mc, res.2, Mo))) ([.ref (adr G 30), .int a1] : List Value).toArray s 0 (6 * 0) (hyA G)) (F0 m 24 ls [.int u1, .ref (adr G 30)]) := by
    intro H locs ls u1 eu1 hP hS hl
    subst eu1
    refine hy_putI (ty := .int) (T := (Mc, M1, Mo)) (T2 := (Mc, (wI M1 30 0 (bI (!(Rf_within a1 0 ((M1.1 30 25) - 1) M1)))), Mo)) (o := 30) (k := 0) hx hb hown hts hX hP hS (by decide) rfl rfl rfl rfl inX11g tyX11_ok nmX11 (by decide) q_1192 rfl rfl rfl rfl (Nat.le_of_ble_eq_true rfl) dX11_sung_24 (fun H locs hP hS => ?_)
    obtain ⟨M3, hM3, h⟩ := hy_bind h
    rw [Option.some.inj hM3] at hP
    refine lv_aload_n hx hb dX11_sung_27 rfl (lv_at hl 0 rfl) ?_
    refine hy_get (T := (Mc, M3, Mo)) (o := 30) (k := 0) (v := .int (M3.1 30 0)) hx hb hown hts hX hP (by decide) rfl rfl inX11g (by decide) q_1192 rfl dX11_sung_28 ?_
    refine lv_if_le (tgt := 38) hx hb dX11_sung_31 (by decide) (fun c4 => ?_) (fun c4 => ?_)
    · rw [if_pos c4] at h
      refine lv_aload_n hx hb dX11_sung_38 rfl (lv_at hl 0 rfl) ?_
      refine hy_get (T := (Mc, M3, Mo)) (o := 30) (k := 26) (v := .ref (adr G 46)) hx hb hown hts hX hP (by decide) rfl rfl inX11g (by decide) q_1218 rfl dX11_sung_39 ?_
      refine lv_iload_n hx hb dX11_sung_42 rfl (lv_at hl 1 rfl) ?_
      obtain ⟨v5, hv5, h⟩ := hy_bind h
      obtain ⟨nv5, hv5⟩ := ldE_some hv5
      refine hy_iald (T := (Mc, M3, Mo)) hx hb hX hP 46 80 (M3.1 46) (by decide) rfl nv5 dX11_sung_43 ?_
      rw [hv5]
      exact hy_iret (T := (Mc, M3, Mo)) hx hb hr hlocks hP hS (Nat.zero_le _) (Nat.zero_le _) (by rw [← (Option.some.inj h)] <;> rfl) dX11_sung_44
    · rw [if_neg c4] at h
      refine lv_iconst (v := 0) hx hb dX11_sung_34 rfl ?_
      refine lv_goto (tgt := 44) hx hb dX11_sung_35 (by decide) ?_
      exact hy_iret (T := (Mc, M3, Mo)) hx hb hr hlocks hP hS (Nat.zero_le _) (Nat.zero_le _) (by rw [← (Option.some.inj h)] <;> rfl) dX11_sung_44
  refine lv_if_eq (tgt := 23) hx hb dX11_sung_16 (by decide) (fun c2 => ?_) (fun c2 => ?_)
  · refine lv_iconst (v := 1) hx hb dX11_sung_23 rfl ?_
    exact J6 _ _ ls 1 (by rw [(bI_z c2)] <;> rfl) hP hS (lv_sub hl [0, 1] rfl)
  · refine lv_iconst (v := 0) hx hb dX11_sung_19 rfl ?_
    refine lv_goto (tgt := 24) hx hb dX11_sung_20 (by decide) ?_
    exact J6 _ _ ls 0 (by rw [(bI_1 c2)] <;> rfl) hP hS (lv_sub hl [0, 1] rfl)
