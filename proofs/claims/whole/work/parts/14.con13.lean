set_option maxHeartbeats 1000000 in
set_option maxRecDepth 100000 in
theorem c_Rf_takesMetre {l : Launch} {G : hyG} (Mc Mo : hyM) (a1 : Int32) (M : hyM) {res : (Bool × hyM)} (h : Rf_takesMetre a1 M = some res) : hyC l yX11_takesMetre (.code yX11_takesMetre cX11_takesMetre 2 (some .boolean)) 2 46 (0) G [.ref (adr G 30), .int a1] (Mc, M, Mo) (.inr (some (.int (bI res.1))), (Mc, res.2, Mo)) := by
  refine hy_of (by decide +kernel) (Nat.le_of_ble_eq_true rfl) ?_
  intro p e s m below meth c hx hb hml hown hts hr hlocks ht hX hP hS ls hl
  have hl : lv_has ls 2 [(0, .ref (adr G 30)), (1, .int a1)] := hl
  rw [Rf_takesMetre] at h
  refine lv_iload_n hx hb dX11_takesMetre_0 rfl (lv_at hl 1 rfl) ?_
  refine lv_bipush (v := 46) hx hb dX11_takesMetre_1 rfl ?_
  have K15 : ∀ (H : Heap) (locs : List Loc), (if a1 = 46 then (if (M.1 30 31) ≤ 0 then false else (!decide (24 ≤ (M.1 30 32)))) else false) = true → va_P G.1 vwCl (wld G (Mc, M, Mo)) H → va_S (hyA G) s.heap H locs → W p l e { frames := 2, cells := 0, slots := 6 * 0, locals := 46 } s m ([.ref (adr G 30), .int a1] : List Value).toArray below meth c H locs 0 0 (vx_MQ below (hyQ G (.inr (some (.int (bI res.1))), (Mc, res.2, Mo))) (hyXQ G (.inr (some (.int (bI res.1))), (Mc, res.2, Mo))) ([.ref (adr G 30), .int a1] : List Value).toArray s 0 (6 * 0) (hyA G)) (F0 m 22 ls []) := by
    intro H locs cb hP hS
    rw [if_pos cb] at h
    refine lv_aload_n hx hb dX11_takesMetre_22 rfl (lv_at hl 0 rfl) ?_
    refine lv_iconst (v := 0) hx hb dX11_takesMetre_23 rfl ?_
    refine hy_putI (ty := .int) (T := (Mc, M, Mo)) (T2 := (Mc, (wI M 30 31 0), Mo)) (o := 30) (k := 31) hx hb hown hts hX hP hS (by decide) rfl rfl rfl rfl inX11g tyX11_ok nmX11 (by decide) q_1223 rfl rfl rfl rfl (Nat.le_of_ble_eq_true rfl) dX11_takesMetre_24 (fun H locs hP hS => ?_)
    obtain ⟨M4, hM4, h⟩ := hy_bind h
    rw [Option.some.inj hM4] at hP
    refine lv_iconst (v := 1) hx hb dX11_takesMetre_27 rfl ?_
    exact hy_zret (T := (Mc, M4, Mo)) hx hb hr hlocks hP hS (Nat.zero_le _) (Nat.zero_le _) (bI_nar true) (by rw [← (Option.some.inj h)] <;> rfl) dX11_takesMetre_28
  have K16 : ∀ (H : Heap) (locs : List Loc), ¬ (if a1 = 46 then (if (M.1 30 31) ≤ 0 then false else (!decide (24 ≤ (M.1 30 32)))) else false) = true → va_P G.1 vwCl (wld G (Mc, M, Mo)) H → va_S (hyA G) s.heap H locs → W p l e { frames := 2, cells := 0, slots := 6 * 0, locals := 46 } s m ([.ref (adr G 30), .int a1] : List Value).toArray below meth c H locs 0 0 (vx_MQ below (hyQ G (.inr (some (.int (bI res.1))), (Mc, res.2, Mo))) (hyXQ G (.inr (some (.int (bI res.1))), (Mc, res.2, Mo))) ([.ref (adr G 30), .int a1] : List Value).toArray s 0 (6 * 0) (hyA G)) (F0 m 29 ls []) := by
    intro H locs cb hP hS
    rw [if_neg cb] at h
    refine lv_iload_n hx hb dX11_takesMetre_29 rfl (lv_at hl 1 rfl) ?_
    refine lv_bipush (v := 68) hx hb dX11_takesMetre_30 rfl ?_
    have K13 : ∀ (H : Heap) (locs : List Loc), (if a1 = 68 then (if (M.1 30 31) = 0 then (if (M.1 30 32) ≤ 0 then false else (if (M.1 30 33) = 0 then (!decide (24 < (2 * (M.1 30 32)))) else false)) else false) else false) = true → va_P G.1 vwCl (wld G (Mc, M, Mo)) H → va_S (hyA G) s.heap H locs → W p l e { frames := 2, cells := 0, slots := 6 * 0, locals := 46 } s m ([.ref (adr G 30), .int a1] : List Value).toArray below meth c H locs 0 0 (vx_MQ below (hyQ G (.inr (some (.int (bI res.1))), (Mc, res.2, Mo))) (hyXQ G (.inr (some (.int (bI res.1))), (Mc, res.2, Mo))) ([.ref (adr G 30), .int a1] : List Value).toArray s 0 (6 * 0) (hyA G)) (F0 m 67 ls []) := by
      intro H locs cb hP hS
      rw [if_pos cb] at h
      refine lv_aload_n hx hb dX11_takesMetre_67 rfl (lv_at hl 0 rfl) ?_
      refine lv_iconst (v := 1) hx hb dX11_takesMetre_68 rfl ?_
      refine hy_putI (ty := .boolean) (T := (Mc, M, Mo)) (T2 := (Mc, (wI M 30 33 1), Mo)) (o := 30) (k := 33) hx hb hown hts hX hP hS (by decide) rfl rfl rfl rfl inX11g tyX11_ok nmX11 (by decide) q_1225 rfl rfl rfl rfl (Nat.le_of_ble_eq_true rfl) dX11_takesMetre_69 (fun H locs hP hS => ?_)
      obtain ⟨M10, hM10, h⟩ := hy_bind h
      rw [Option.some.inj hM10] at hP
      refine lv_iconst (v := 1) hx hb dX11_takesMetre_72 rfl ?_
      exact hy_zret (T := (Mc, M10, Mo)) hx hb hr hlocks hP hS (Nat.zero_le _) (Nat.zero_le _) (bI_nar true) (by rw [← (Option.some.inj h)] <;> rfl) dX11_takesMetre_73
    have K14 : ∀ (H : Heap) (locs : List Loc), ¬ (if a1 = 68 then (if (M.1 30 31) = 0 then (if (M.1 30 32) ≤ 0 then false else (if (M.1 30 33) = 0 then (!decide (24 < (2 * (M.1 30 32)))) else false)) else false) else false) = true → va_P G.1 vwCl (wld G (Mc, M, Mo)) H → va_S (hyA G) s.heap H locs → W p l e { frames := 2, cells := 0, slots := 6 * 0, locals := 46 } s m ([.ref (adr G 30), .int a1] : List Value).toArray below meth c H locs 0 0 (vx_MQ below (hyQ G (.inr (some (.int (bI res.1))), (Mc, res.2, Mo))) (hyXQ G (.inr (some (.int (bI res.1))), (Mc, res.2, Mo))) ([.ref (adr G 30), .int a1] : List Value).toArray s 0 (6 * 0) (hyA G)) (F0 m 74 ls []) := by
      intro H locs cb hP hS
      rw [if_neg cb] at h
      refine lv_aload_n hx hb dX11_takesMetre_74 rfl (lv_at hl 0 rfl) ?_
      refine lv_iload_n hx hb dX11_takesMetre_75 rfl (lv_at hl 1 rfl) ?_
      obtain ⟨⟨v12, M11⟩, hM11, h⟩ := hy_bind h
      try dsimp only at h
      refine hy_ret (hy_rV0 (T := (Mc, M, Mo)) (v := some (.int (bI v12))) (T2 := (Mc, M11, Mo)) (As := [.int a1]) (rest := []) (n := 0) hx hb hml hown hts hX hP hS hl (c_Rf_takesDigit Mc Mo a1 M hM11) m_Rf_takesDigit q_1439 (hy_recv hX hP 30 10 (by decide) rfl rfl) rfl rfl (Nat.le_of_ble_eq_true rfl) dX11_takesMetre_76 ⟨Nat.le_of_ble_eq_true rfl, Nat.le_of_ble_eq_true rfl⟩ ⟨Nat.zero_le _, Nat.zero_le _⟩) hS (fun H locs hP hS => ?_)
      exact hy_zret (T := (Mc, M11, Mo)) hx hb hr hlocks hP hS (Nat.zero_le _) (Nat.zero_le _) (bI_nar v12) (by rw [← (Option.some.inj h)] <;> rfl) dX11_takesMetre_79
    refine lv_icmp_ne (tgt := 74) hx hb dX11_takesMetre_32 (by decide) (fun c5 => ?_) (fun c5 => ?_)
    · exact K14 _ _ (by rw [if_neg c5] <;> first | rfl | decide) hP hS
    · refine lv_aload_n hx hb dX11_takesMetre_35 rfl (lv_at hl 0 rfl) ?_
      refine hy_get (T := (Mc, M, Mo)) (o := 30) (k := 31) (v := .int (M.1 30 31)) hx hb hown hts hX hP (by decide) rfl rfl inX11g (by decide) q_1223 rfl dX11_takesMetre_36 ?_
      refine lv_if_ne (tgt := 74) hx hb dX11_takesMetre_39 (by decide) (fun c6 => ?_) (fun c6 => ?_)
      · exact K14 _ _ (by rw [if_pos c5, if_neg c6] <;> first | rfl | decide) hP hS
      · refine lv_aload_n hx hb dX11_takesMetre_42 rfl (lv_at hl 0 rfl) ?_
        refine hy_get (T := (Mc, M, Mo)) (o := 30) (k := 32) (v := .int (M.1 30 32)) hx hb hown hts hX hP (by decide) rfl rfl inX11g (by decide) q_1224 rfl dX11_takesMetre_43 ?_
        refine lv_if_le (tgt := 74) hx hb dX11_takesMetre_46 (by decide) (fun c7 => ?_) (fun c7 => ?_)
        · exact K14 _ _ (by rw [if_pos c5, if_pos c6, if_pos c7] <;> first | rfl | decide) hP hS
        · refine lv_aload_n hx hb dX11_takesMetre_49 rfl (lv_at hl 0 rfl) ?_
          refine hy_get (T := (Mc, M, Mo)) (o := 30) (k := 33) (v := .int (M.1 30 33)) hx hb hown hts hX hP (by decide) rfl rfl inX11g (by decide) q_1225 rfl dX11_takesMetre_50 ?_
          refine lv_if_ne (tgt := 74) hx hb dX11_takesMetre_53 (by decide) (fun c8 => ?_) (fun c8 => ?_)
          · exact K14 _ _ (by rw [if_pos c5, if_pos c6, if_neg c7, if_neg c8] <;> first | rfl | decide) hP hS
          · refine lv_iconst (v := 2) hx hb dX11_takesMetre_56 rfl ?_
            refine lv_aload_n hx hb dX11_takesMetre_57 rfl (lv_at hl 0 rfl) ?_
            refine hy_get (T := (Mc, M, Mo)) (o := 30) (k := 32) (v := .int (M.1 30 32)) hx hb hown hts hX hP (by decide) rfl rfl inX11g (by decide) q_1224 rfl dX11_takesMetre_58 ?_
            refine lv_imul hx hb dX11_takesMetre_61 ?_
            refine lv_bipush (v := 24) hx hb dX11_takesMetre_62 rfl ?_
            refine lv_icmp_gt (tgt := 74) hx hb dX11_takesMetre_64 (by decide) (fun c9 => ?_) (fun c9 => ?_)
            · exact K14 _ _ (by rw [if_pos c5, if_pos c6, if_neg c7, if_pos c8, decide_eq_true c9] <;> first | rfl | decide) hP hS
            · exact K13 _ _ (by rw [if_pos c5, if_pos c6, if_neg c7, if_pos c8, decide_eq_false c9] <;> first | rfl | decide) hP hS
  refine lv_icmp_ne (tgt := 29) hx hb dX11_takesMetre_3 (by decide) (fun c1 => ?_) (fun c1 => ?_)
  · exact K16 _ _ (by rw [if_neg c1] <;> first | rfl | decide) hP hS
  · refine lv_aload_n hx hb dX11_takesMetre_6 rfl (lv_at hl 0 rfl) ?_
    refine hy_get (T := (Mc, M, Mo)) (o := 30) (k := 31) (v := .int (M.1 30 31)) hx hb hown hts hX hP (by decide) rfl rfl inX11g (by decide) q_1223 rfl dX11_takesMetre_7 ?_
    refine lv_if_le (tgt := 29) hx hb dX11_takesMetre_10 (by decide) (fun c2 => ?_) (fun c2 => ?_)
    · exact K16 _ _ (by rw [if_pos c1, if_pos c2] <;> first | rfl | decide) hP hS
    · refine lv_aload_n hx hb dX11_takesMetre_13 rfl (lv_at hl 0 rfl) ?_
      refine hy_get (T := (Mc, M, Mo)) (o := 30) (k := 32) (v := .int (M.1 30 32)) hx hb hown hts hX hP (by decide) rfl rfl inX11g (by decide) q_1224 rfl dX11_takesMetre_14 ?_
      refine lv_bipush (v := 24) hx hb dX11_takesMetre_17 rfl ?_
      refine lv_icmp_ge (tgt := 29) hx hb dX11_takesMetre_19 (by decide) (fun c3 => ?_) (fun c3 => ?_)
      · exact K16 _ _ (by rw [if_pos c1, if_neg c2, decide_eq_true c3] <;> first | rfl | decide) hP hS
      · exact K15 _ _ (by rw [if_pos c1, if_neg c2, decide_eq_false c3] <;> first | rfl | decide) hP hS
set_option maxHeartbeats 1000000 in
set_option maxRecDepth 100000 in
theorem c_Rf_rightMetre {l : Launch} {G : hyG} (Mc Mo : hyM) (M : hyM) {res : (Int32 × hyM)} (h : Rf_rightMetre M = some res) : hyC l yX11_rightMetre (.code yX11_rightMetre cX11_rightMetre 2 (some .int)) 3 67 (0) G [.ref (adr G 30)] (Mc, M, Mo) (.inr (some (.int res.1)), (Mc, res.2, Mo)) := by
  refine hy_of (by decide +kernel) (Nat.le_of_ble_eq_true rfl) ?_
  intro p e s m below meth c hx hb hml hown hts hr hlocks ht hX hP hS ls hl
  have hl : lv_has ls 2 [(0, .ref (adr G 30))] := hl
  rw [Rf_rightMetre] at h
  refine lv_aload_n hx hb dX11_rightMetre_0 rfl (lv_at hl 0 rfl) ?_
  refine lv_iconst (v := 0) hx hb dX11_rightMetre_1 rfl ?_
  refine hy_putI (ty := .int) (T := (Mc, M, Mo)) (T2 := (Mc, (wI M 30 31 0), Mo)) (o := 30) (k := 31) hx hb hown hts hX hP hS (by decide) rfl rfl rfl rfl inX11g tyX11_ok nmX11 (by decide) q_1223 rfl rfl rfl rfl (Nat.le_of_ble_eq_true rfl) dX11_rightMetre_2 (fun H locs hP hS => ?_)
  obtain ⟨M1, hM1, h⟩ := hy_bind h
  rw [Option.some.inj hM1] at hP
  refine lv_aload_n hx hb dX11_rightMetre_5 rfl (lv_at hl 0 rfl) ?_
  refine lv_iconst (v := 0) hx hb dX11_rightMetre_6 rfl ?_
  refine hy_putI (ty := .int) (T := (Mc, M1, Mo)) (T2 := (Mc, (wI M1 30 32 0), Mo)) (o := 30) (k := 32) hx hb hown hts hX hP hS (by decide) rfl rfl rfl rfl inX11g tyX11_ok nmX11 (by decide) q_1224 rfl rfl rfl rfl (Nat.le_of_ble_eq_true rfl) dX11_rightMetre_7 (fun H locs hP hS => ?_)
  obtain ⟨M2, hM2, h⟩ := hy_bind h
  rw [Option.some.inj hM2] at hP
  refine lv_aload_n hx hb dX11_rightMetre_10 rfl (lv_at hl 0 rfl) ?_
  refine lv_iconst (v := 0) hx hb dX11_rightMetre_11 rfl ?_
  refine hy_putI (ty := .boolean) (T := (Mc, M2, Mo)) (T2 := (Mc, (wI M2 30 33 0), Mo)) (o := 30) (k := 33) hx hb hown hts hX hP hS (by decide) rfl rfl rfl rfl inX11g tyX11_ok nmX11 (by decide) q_1225 rfl rfl rfl rfl (Nat.le_of_ble_eq_true rfl) dX11_rightMetre_12 (fun H locs hP hS => ?_)
  obtain ⟨M3, hM3, h⟩ := hy_bind h
  rw [Option.some.inj hM3] at hP
  refine lv_iconst (v := 0) hx hb dX11_rightMetre_15 rfl ?_
  refine lv_istore_n (lv' := [(1, .int 0), (0, .ref (adr G 30))]) hx hb dX11_rightMetre_16 rfl hl (by decide) rfl (fun ls hl => ?_)
  have L11 : ∀ (f : Nat) (x4 : Int32) (M5 : hyM) (qL : (Int32 × hyM)) (h : Rf_rightMetre_L17  f x4 M5 = some qL) (H : Heap) (locs : List Loc) (ls : Array Slot) (hP : va_P G.1 vwCl (wld G (Mc, M5, Mo)) H) (hS : va_S (hyA G) s.heap H locs) (hl : lv_has ls 2 [(0, .ref (adr G 30)), (1, .int x4)]) (kk : ∀ (y4 : Int32) (NM5 : hyM), qL = (y4, NM5) → ∀ (H : Heap) (locs : List Loc) (ls : Array Slot), va_P G.1 vwCl (wld G (Mc, NM5, Mo)) H → va_S (hyA G) s.heap H locs → lv_has ls 2 [(0, .ref (adr G 30)), (1, .int y4)] → W p l e { frames := 3, cells := 0, slots := 6 * 0, locals := 67 } s m ([.ref (adr G 30)] : List Value).toArray below meth c H locs 0 0 (vx_MQ below (hyQ G (.inr (some (.int res.1)), (Mc, res.2, Mo))) (hyXQ G (.inr (some (.int res.1)), (Mc, res.2, Mo))) ([.ref (adr G 30)] : List Value).toArray s 0 (6 * 0) (hyA G)) (F0 m 44 ls [])), W p l e { frames := 3, cells := 0, slots := 6 * 0, locals := 67 } s m ([.ref (adr G 30)] : List Value).toArray below meth c H locs 0 0 (vx_MQ below (hyQ G (.inr (some (.int res.1)), (Mc, res.2, Mo))) (hyXQ G (.inr (some (.int res.1)), (Mc, res.2, Mo))) ([.ref (adr G 30)] : List Value).toArray s 0 (6 * 0) (hyA G)) (F0 m 17 ls []) := by
    intro f
    induction f with
    | zero =>
      intro x4 M5 qL h H locs ls hP hS hl kk
      rw [Rf_rightMetre_L17] at h
      cases h
    | succ f ih =>
      intro x4 M5 qL h H locs ls hP hS hl kk
      rw [Rf_rightMetre_L17] at h
      refine lv_iload_n hx hb dX11_rightMetre_17 rfl (lv_at hl 1 rfl) ?_
      refine lv_aload_n hx hb dX11_rightMetre_18 rfl (lv_at hl 0 rfl) ?_
      refine hy_get (T := (Mc, M5, Mo)) (o := 30) (k := 19) (v := .int (M5.1 30 19)) hx hb hown hts hX hP (by decide) rfl rfl inX11g (by decide) q_1211 rfl dX11_rightMetre_19 ?_
      refine lv_icmp_ge (tgt := 44) hx hb dX11_rightMetre_22 (by decide) (fun c6 => ?_) (fun c6 => ?_)
      · rw [if_pos c6] at h
        exact kk x4 M5 (Option.some.inj h).symm _ _ ls hP hS (lv_sub hl [0, 1] rfl)
      · rw [if_neg c6] at h
        refine lv_aload_n hx hb dX11_rightMetre_25 rfl (lv_at hl 0 rfl) ?_
        refine lv_aload_n hx hb dX11_rightMetre_26 rfl (lv_at hl 0 rfl) ?_
        refine hy_get (T := (Mc, M5, Mo)) (o := 30) (k := 20) (v := .ref (adr G 42)) hx hb hown hts hX hP (by decide) rfl rfl inX11g (by decide) q_1212 rfl dX11_rightMetre_27 ?_
        refine lv_iload_n hx hb dX11_rightMetre_30 rfl (lv_at hl 1 rfl) ?_
        obtain ⟨v7, hv7, h⟩ := hy_bind h
        obtain ⟨nv7, hv7⟩ := ldE_some hv7
        refine hy_iald (T := (Mc, M5, Mo)) hx hb hX hP 42 60 (M5.1 42) (by decide) rfl nv7 dX11_rightMetre_31 ?_
        rw [hv7]
        obtain ⟨⟨v9, M8⟩, hM8, h⟩ := hy_bind h
        try dsimp only at h
        refine hy_ret (hy_rV0 (T := (Mc, M5, Mo)) (v := some (.int (bI v9))) (T2 := (Mc, M8, Mo)) (As := [.int v7]) (rest := []) (n := 0) hx hb hml hown hts hX hP hS hl (c_Rf_takesMetre Mc Mo v7 M5 hM8) m_Rf_takesMetre q_1435 (hy_recv hX hP 30 10 (by decide) rfl rfl) rfl rfl (Nat.le_of_ble_eq_true rfl) dX11_rightMetre_32 ⟨Nat.le_of_ble_eq_true rfl, Nat.le_of_ble_eq_true rfl⟩ ⟨Nat.zero_le _, Nat.zero_le _⟩) hS (fun H locs hP hS => ?_)
        refine lv_if_eq (tgt := 44) hx hb dX11_rightMetre_35 (by decide) (fun c10 => ?_) (fun c10 => ?_)
        · rw [if_neg (bI_0 c10)] at h
          exact kk x4 M8 (Option.some.inj h).symm _ _ ls hP hS (lv_sub hl [0, 1] rfl)
        · rw [if_pos (bI_1 c10)] at h
          refine lv_iinc (v := (x4 + 1)) (lv' := [(1, .int (x4 + 1)), (0, .ref (adr G 30))]) hx hb dX11_rightMetre_38 hl (k := 1) rfl rfl (by decide) rfl (fun ls hl => ?_)
          refine lv_goto (tgt := 17) hx hb dX11_rightMetre_41 (by decide) ?_
          exact ih (x4 + 1) M8 _ h  _ _ ls hP hS (lv_sub hl [1, 0] rfl) kk
  obtain ⟨q12, hq12, h⟩ := hy_bind h
  refine L11 hyFu 0 M3 q12 hq12 _ _ ls hP hS (lv_sub hl [1, 0] rfl) ?_
  intro y4 NM5 e9 H locs ls hP hS hl
  subst e9
  try dsimp only at h
  refine lv_iload_n hx hb dX11_rightMetre_44 rfl (lv_at hl 1 rfl) ?_
  exact hy_iret (T := (Mc, NM5, Mo)) hx hb hr hlocks hP hS (Nat.zero_le _) (Nat.zero_le _) (by rw [← (Option.some.inj h)] <;> rfl) dX11_rightMetre_45
set_option maxHeartbeats 1000000 in
set_option maxRecDepth 100000 in
theorem c_Rf_firstError {l : Launch} {G : hyG} (Mc Mo : hyM) (a1 : Bool) (M : hyM) {res : (Int32 × hyM)} (h : Rf_firstError a1 M = some res) : hyC l yX11_firstError (.code yX11_firstError cX11_firstError 2 (some .int)) 4 88 (0) G [.ref (adr G 30), .int (bI a1)] (Mc, M, Mo) (.inr (some (.int res.1)), (Mc, res.2, Mo)) := by
  refine hy_of (by decide +kernel) (Nat.le_of_ble_eq_true rfl) ?_
  intro p e s m below meth c hx hb hml hown hts hr hlocks ht hX hP hS ls hl
  have hl : lv_has ls 2 [(0, .ref (adr G 30)), (1, .int (bI a1))] := hl
  rw [Rf_firstError] at h
  refine lv_aload_n hx hb dX11_firstError_0 rfl (lv_at hl 0 rfl) ?_
  refine lv_iconst (v := 0) hx hb dX11_firstError_1 rfl ?_
  refine hy_putI (ty := .int) (T := (Mc, M, Mo)) (T2 := (Mc, (wI M 30 0 0), Mo)) (o := 30) (k := 0) hx hb hown hts hX hP hS (by decide) rfl rfl rfl rfl inX11g tyX11_ok nmX11 (by decide) q_1192 rfl rfl rfl rfl (Nat.le_of_ble_eq_true rfl) dX11_firstError_2 (fun H locs hP hS => ?_)
  obtain ⟨M1, hM1, h⟩ := hy_bind h
  rw [Option.some.inj hM1] at hP
  refine lv_iload_n hx hb dX11_firstError_5 rfl (lv_at hl 1 rfl) ?_
  refine lv_if_eq (tgt := 16) hx hb dX11_firstError_6 (by decide) (fun c2 => ?_) (fun c2 => ?_)
  · rw [if_neg (bI_0 c2)] at h
    refine lv_aload_n hx hb dX11_firstError_16 rfl (lv_at hl 0 rfl) ?_
    obtain ⟨⟨v4, M3⟩, hM3, h⟩ := hy_bind h
    try dsimp only at h
    refine hy_ret (hy_rV0 (T := (Mc, M1, Mo)) (v := some (.int v4)) (T2 := (Mc, M3, Mo)) (As := []) (rest := []) (n := 0) hx hb hml hown hts hX hP hS hl (c_Rf_rightLine Mc Mo M1 hM3) m_Rf_rightLine q_1443 (hy_recv hX hP 30 10 (by decide) rfl rfl) rfl rfl (Nat.le_of_ble_eq_true rfl) dX11_firstError_17 ⟨Nat.le_of_ble_eq_true rfl, Nat.le_of_ble_eq_true rfl⟩ ⟨Nat.zero_le _, Nat.zero_le _⟩) hS (fun H locs hP hS => ?_)
    exact hy_iret (T := (Mc, M3, Mo)) hx hb hr hlocks hP hS (Nat.zero_le _) (Nat.zero_le _) (by rw [← (Option.some.inj h)] <;> rfl) dX11_firstError_20
  · rw [if_pos (bI_1 c2)] at h
    refine lv_aload_n hx hb dX11_firstError_9 rfl (lv_at hl 0 rfl) ?_
    obtain ⟨⟨v6, M5⟩, hM5, h⟩ := hy_bind h
    try dsimp only at h
    refine hy_ret (hy_rV0 (T := (Mc, M1, Mo)) (v := some (.int v6)) (T2 := (Mc, M5, Mo)) (As := []) (rest := []) (n := 0) hx hb hml hown hts hX hP hS hl (c_Rf_rightMetre Mc Mo M1 hM5) m_Rf_rightMetre q_1431 (hy_recv hX hP 30 10 (by decide) rfl rfl) rfl rfl (Nat.le_of_ble_eq_true rfl) dX11_firstError_10 ⟨Nat.le_of_ble_eq_true rfl, Nat.le_of_ble_eq_true rfl⟩ ⟨Nat.zero_le _, Nat.zero_le _⟩) hS (fun H locs hP hS => ?_)
    refine lv_goto (tgt := 20) hx hb dX11_firstError_13 (by decide) ?_
    exact hy_iret (T := (Mc, M5, Mo)) hx hb hr hlocks hP hS (Nat.zero_le _) (Nat.zero_le _) (by rw [← (Option.some.inj h)] <;> rfl) dX11_firstError_20
set_option maxHeartbeats 1000000 in
set_option maxRecDepth 100000 in
theorem c_Rf_isLine {l : Launch} {G : hyG} (Mc Mo : hyM) (a1 : Int32) (a2 : Int32) (M : hyM) {res : Bool} (h : Rf_isLine a1 a2 M = res) : hyC l yX11_isLine (.code yX11_isLine cX11_isLine 2 (some .boolean)) 1 22 (0) G [.int a1, .int a2] (Mc, M, Mo) (.inr (some (.int (bI res))), (Mc, M, Mo)) := by
  refine hy_of (by decide +kernel) (Nat.le_of_ble_eq_true rfl) ?_
  intro p e s m below meth c hx hb hml hown hts hr hlocks ht hX hP hS ls hl
  have hl : lv_has ls 2 [(0, .int a1), (1, .int a2)] := hl
  rw [Rf_isLine] at h
  refine lv_iload_n hx hb dX11_isLine_0 rfl (lv_at hl 0 rfl) ?_
  refine lv_iconst (v := 0) hx hb dX11_isLine_1 rfl ?_
  refine lv_iconst (v := 3) hx hb dX11_isLine_2 rfl ?_
  refine hy_ret (hy_rS0 (T := (Mc, M, Mo)) (v := some (.int (bI (Rf_within a1 0 3 M)))) (T2 := (Mc, M, Mo)) (As := [.int a1, .int 0, .int 3]) (rest := []) (n := 0) hx hb hml hown hts hX hP hS hl (c_Rf_within Mc Mo a1 0 3 M rfl) m_Rf_within q_1310 rfl rfl (Nat.le_of_ble_eq_true rfl) dX11_isLine_3 ⟨Nat.le_of_ble_eq_true rfl, Nat.le_of_ble_eq_true rfl⟩ ⟨Nat.zero_le _, Nat.zero_le _⟩) hS (fun H locs hP hS => ?_)
  have J3 : ∀ (H : Heap) (locs : List Loc) (ls : Array Slot) (u1 : Int32), u1 = (bI (if (Rf_within a1 0 3 M) then (Rf_within a2 0 23 M) else false)) → va_P G.1 vwCl (wld G (Mc, M, Mo)) H → va_S (hyA G) s.heap H locs → lv_has ls 2 [(0, .int a1), (1, .int a2)] → W p l e { frames := 1, cells := 0, slots := 6 * 0, locals := 22 } s m ([.int a1, .int a2] : List Value).toArray below meth c H locs 0 0 (vx_MQ below (hyQ G (.inr (some (.int (bI res))), (Mc, M, Mo))) (hyXQ G (.inr (some (.int (bI res))), (Mc, M, Mo))) ([.int a1, .int a2] : List Value).toArray s 0 (6 * 0) (hyA G)) (F0 m 24 ls [.int u1]) := by
    intro H locs ls u1 eu1 hP hS hl
    subst eu1
    exact hy_zret (T := (Mc, M, Mo)) hx hb hr hlocks hP hS (Nat.zero_le _) (Nat.zero_le _) (bI_nar (if (Rf_within a1 0 3 M) then (Rf_within a2 0 23 M) else false)) (by rw [← h] <;> rfl) dX11_isLine_24
  refine lv_if_eq (tgt := 23) hx hb dX11_isLine_6 (by decide) (fun c1 => ?_) (fun c1 => ?_)
  · refine lv_iconst (v := 0) hx hb dX11_isLine_23 rfl ?_
    exact J3 _ _ ls 0 (by rw [if_neg (bI_0 c1)] <;> rfl) hP hS (lv_sub hl [0, 1] rfl)
  · refine lv_iload_n hx hb dX11_isLine_9 rfl (lv_at hl 1 rfl) ?_
    refine lv_iconst (v := 0) hx hb dX11_isLine_10 rfl ?_
    refine lv_bipush (v := 23) hx hb dX11_isLine_11 rfl ?_
    refine hy_ret (hy_rS0 (T := (Mc, M, Mo)) (v := some (.int (bI (Rf_within a2 0 23 M)))) (T2 := (Mc, M, Mo)) (As := [.int a2, .int 0, .int 23]) (rest := []) (n := 0) hx hb hml hown hts hX hP hS hl (c_Rf_within Mc Mo a2 0 23 M rfl) m_Rf_within q_1310 rfl rfl (Nat.le_of_ble_eq_true rfl) dX11_isLine_13 ⟨Nat.le_of_ble_eq_true rfl, Nat.le_of_ble_eq_true rfl⟩ ⟨Nat.zero_le _, Nat.zero_le _⟩) hS (fun H locs hP hS => ?_)
    refine lv_if_eq (tgt := 23) hx hb dX11_isLine_16 (by decide) (fun c2 => ?_) (fun c2 => ?_)
    · refine lv_iconst (v := 0) hx hb dX11_isLine_23 rfl ?_
      exact J3 _ _ ls 0 (by rw [if_pos (bI_1 c1), (bI_z c2)] <;> rfl) hP hS (lv_sub hl [0, 1] rfl)
    · refine lv_iconst (v := 1) hx hb dX11_isLine_19 rfl ?_
      refine lv_goto (tgt := 24) hx hb dX11_isLine_20 (by decide) ?_
      exact J3 _ _ ls 1 (by rw [if_pos (bI_1 c1), (bI_1 c2)] <;> rfl) hP hS (lv_sub hl [0, 1] rfl)
set_option maxHeartbeats 1000000 in
set_option maxRecDepth 100000 in
theorem c_Rf_setLine {l : Launch} {G : hyG} (Mc Mo : hyM) (a1 : Int32) (a2 : Int32) (M : hyM) {res : (Int32 × hyM)} (h : Rf_setLine a1 a2 M = some res) : hyC l yX11_setLine (.code yX11_setLine cX11_setLine 6 (some .int)) 3 65 (0) G [.ref (adr G 30), .int a1, .int a2] (Mc, M, Mo) (.inr (some (.int res.1)), (Mc, res.2, Mo)) := by
  refine hy_of (by decide +kernel) (Nat.le_of_ble_eq_true rfl) ?_
  intro p e s m below meth c hx hb hml hown hts hr hlocks ht hX hP hS ls hl
  have hl : lv_has ls 6 [(0, .ref (adr G 30)), (1, .int a1), (2, .int a2)] := hl
  rw [Rf_setLine] at h
  refine lv_aload_n hx hb dX11_setLine_0 rfl (lv_at hl 0 rfl) ?_
  obtain ⟨⟨v2, M1⟩, hM1, h⟩ := hy_bind h
  try dsimp only at h
  refine hy_ret (hy_rV0 (T := (Mc, M, Mo)) (v := some (.int v2)) (T2 := (Mc, M1, Mo)) (As := []) (rest := []) (n := 0) hx hb hml hown hts hX hP hS hl (c_Rf_rightLine Mc Mo M hM1) m_Rf_rightLine q_1443 (hy_recv hX hP 30 10 (by decide) rfl rfl) rfl rfl (Nat.le_of_ble_eq_true rfl) dX11_setLine_1 ⟨Nat.le_of_ble_eq_true rfl, Nat.le_of_ble_eq_true rfl⟩ ⟨Nat.zero_le _, Nat.zero_le _⟩) hS (fun H locs hP hS => ?_)
  refine lv_aload_n hx hb dX11_setLine_4 rfl (lv_at hl 0 rfl) ?_
  refine hy_get (T := (Mc, M1, Mo)) (o := 30) (k := 19) (v := .int (M1.1 30 19)) hx hb hown hts hX hP (by decide) rfl rfl inX11g (by decide) q_1211 rfl dX11_setLine_5 ?_
  have J20 : ∀ (H : Heap) (locs : List Loc) (ls : Array Slot) (u1 : Int32), u1 = (bI (if v2 = (M1.1 30 19) then (!decide ((M1.1 30 31) ≤ 0)) else false)) → va_P G.1 vwCl (wld G (Mc, M1, Mo)) H → va_S (hyA G) s.heap H locs → lv_has ls 6 [(0, .ref (adr G 30)), (1, .int a1), (2, .int a2)] → W p l e { frames := 3, cells := 0, slots := 6 * 0, locals := 65 } s m ([.ref (adr G 30), .int a1, .int a2] : List Value).toArray below meth c H locs 0 0 (vx_MQ below (hyQ G (.inr (some (.int res.1)), (Mc, res.2, Mo))) (hyXQ G (.inr (some (.int res.1)), (Mc, res.2, Mo))) ([.ref (adr G 30), .int a1, .int a2] : List Value).toArray s 0 (6 * 0) (hyA G)) (F0 m 23 ls [.int u1]) := by
    intro H locs ls u1 eu1 hP hS hl
    subst eu1
    refine lv_istore_n (lv' := [(3, .int (bI (if v2 = (M1.1 30 19) then (!decide ((M1.1 30 31) ≤ 0)) else false))), (0, .ref (adr G 30)), (1, .int a1), (2, .int a2)]) hx hb dX11_setLine_23 rfl hl (by decide) rfl (fun ls hl => ?_)
    refine lv_aload_n hx hb dX11_setLine_24 rfl (lv_at hl 1 rfl) ?_
    refine lv_iload_n hx hb dX11_setLine_25 rfl (lv_at hl 2 rfl) ?_
    refine lv_iload_n hx hb dX11_setLine_26 rfl (lv_at hl 3 rfl) ?_
    refine hy_ret (hy_rS0 (T := (Mc, M1, Mo)) (v := some (.int (bI (Rf_isLine a1 a2 M1)))) (T2 := (Mc, M1, Mo)) (As := [.int a1, .int a2]) (rest := [.ref (adr G 30)]) (n := 0) hx hb hml hown hts hX hP hS hl (c_Rf_isLine Mc Mo a1 a2 M1 rfl) m_Rf_isLine q_1451 rfl rfl (Nat.le_of_ble_eq_true rfl) dX11_setLine_27 ⟨Nat.le_of_ble_eq_true rfl, Nat.le_of_ble_eq_true rfl⟩ ⟨Nat.zero_le _, Nat.zero_le _⟩) hS (fun H locs hP hS => ?_)
    have J19 : ∀ (H : Heap) (locs : List Loc) (ls : Array Slot) (u1 : Int32), u1 = (if (Rf_isLine a1 a2 M1) then (if (if v2 = (M1.1 30 19) then (!decide ((M1.1 30 31) ≤ 0)) else false) then 0 else 2) else 1) → va_P G.1 vwCl (wld G (Mc, M1, Mo)) H → va_S (hyA G) s.heap H locs → lv_has ls 6 [(0, .ref (adr G 30)), (1, .int a1), (2, .int a2), (3, .int (bI (if v2 = (M1.1 30 19) then (!decide ((M1.1 30 31) ≤ 0)) else false)))] → W p l e { frames := 3, cells := 0, slots := 6 * 0, locals := 65 } s m ([.ref (adr G 30), .int a1, .int a2] : List Value).toArray below meth c H locs 0 0 (vx_MQ below (hyQ G (.inr (some (.int res.1)), (Mc, res.2, Mo))) (hyXQ G (.inr (some (.int res.1)), (Mc, res.2, Mo))) ([.ref (adr G 30), .int a1, .int a2] : List Value).toArray s 0 (6 * 0) (hyA G)) (F0 m 46 ls [.int u1, .ref (adr G 30)]) := by
      intro H locs ls u1 eu1 hP hS hl
      subst eu1
      refine hy_putI (ty := .int) (T := (Mc, M1, Mo)) (T2 := (Mc, (wI M1 30 0 (if (Rf_isLine a1 a2 M1) then (if (if v2 = (M1.1 30 19) then (!decide ((M1.1 30 31) ≤ 0)) else false) then 0 else 2) else 1)), Mo)) (o := 30) (k := 0) hx hb hown hts hX hP hS (by decide) rfl rfl rfl rfl inX11g tyX11_ok nmX11 (by decide) q_1192 rfl rfl rfl rfl (Nat.le_of_ble_eq_true rfl) dX11_setLine_46 (fun H locs hP hS => ?_)
      obtain ⟨M7, hM7, h⟩ := hy_bind h
      rw [Option.some.inj hM7] at hP
      refine lv_aload_n hx hb dX11_setLine_49 rfl (lv_at hl 0 rfl) ?_
      refine hy_get (T := (Mc, M7, Mo)) (o := 30) (k := 0) (v := .int (M7.1 30 0)) hx hb hown hts hX hP (by decide) rfl rfl inX11g (by decide) q_1192 rfl dX11_setLine_50 ?_
      refine lv_if_le (tgt := 58) hx hb dX11_setLine_53 (by decide) (fun c8 => ?_) (fun c8 => ?_)
      · rw [if_pos c8] at h
        refine lv_bipush (v := 24) hx hb dX11_setLine_58 rfl ?_
        refine lv_iload_n hx hb dX11_setLine_60 rfl (lv_at hl 1 rfl) ?_
        refine lv_imul hx hb dX11_setLine_61 ?_
        refine lv_iload_n hx hb dX11_setLine_62 rfl (lv_at hl 2 rfl) ?_
        refine lv_iadd hx hb dX11_setLine_63 ?_
        refine lv_istore (lv' := [(4, .int ((24 * a1) + a2)), (0, .ref (adr G 30)), (1, .int a1), (2, .int a2), (3, .int (bI (if v2 = (M1.1 30 19) then (!decide ((M1.1 30 31) ≤ 0)) else false)))]) hx hb dX11_setLine_64 hl (by decide) rfl (fun ls hl => ?_)
        refine lv_iconst (v := 0) hx hb dX11_setLine_66 rfl ?_
        refine lv_istore (lv' := [(5, .int 0), (4, .int ((24 * a1) + a2)), (0, .ref (adr G 30)), (1, .int a1), (2, .int a2), (3, .int (bI (if v2 = (M1.1 30 19) then (!decide ((M1.1 30 31) ≤ 0)) else false)))]) hx hb dX11_setLine_67 hl (by decide) rfl (fun ls hl => ?_)
        have L14 : ∀ (f : Nat) (x9 : Int32) (M10 : hyM) (qL : (Int32 × hyM)) (h : Rf_setLine_L69 a1 a2 f x9 M10 = some qL) (H : Heap) (locs : List Loc) (ls : Array Slot) (hP : va_P G.1 vwCl (wld G (Mc, M10, Mo)) H) (hS : va_S (hyA G) s.heap H locs) (hl : lv_has ls 6 [(0, .ref (adr G 30)), (1, .int a1), (2, .int a2), (3, .int (bI (if v2 = (M1.1 30 19) then (!decide ((M1.1 30 31) ≤ 0)) else false))), (4, .int ((24 * a1) + a2)), (5, .int x9)]) (kk : ∀ (y9 : Int32) (NM10 : hyM), qL = (y9, NM10) → ∀ (H : Heap) (locs : List Loc) (ls : Array Slot), va_P G.1 vwCl (wld G (Mc, NM10, Mo)) H → va_S (hyA G) s.heap H locs → lv_has ls 6 [(0, .ref (adr G 30)), (1, .int a1), (2, .int a2), (3, .int (bI (if v2 = (M1.1 30 19) then (!decide ((M1.1 30 31) ≤ 0)) else false))), (4, .int ((24 * a1) + a2)), (5, .int y9)] → W p l e { frames := 3, cells := 0, slots := 6 * 0, locals := 65 } s m ([.ref (adr G 30), .int a1, .int a2] : List Value).toArray below meth c H locs 0 0 (vx_MQ below (hyQ G (.inr (some (.int res.1)), (Mc, res.2, Mo))) (hyXQ G (.inr (some (.int res.1)), (Mc, res.2, Mo))) ([.ref (adr G 30), .int a1, .int a2] : List Value).toArray s 0 (6 * 0) (hyA G)) (F0 m 104 ls [])), W p l e { frames := 3, cells := 0, slots := 6 * 0, locals := 65 } s m ([.ref (adr G 30), .int a1, .int a2] : List Value).toArray below meth c H locs 0 0 (vx_MQ below (hyQ G (.inr (some (.int res.1)), (Mc, res.2, Mo))) (hyXQ G (.inr (some (.int res.1)), (Mc, res.2, Mo))) ([.ref (adr G 30), .int a1, .int a2] : List Value).toArray s 0 (6 * 0) (hyA G)) (F0 m 69 ls []) := by
          intro f
          induction f with
          | zero =>
            intro x9 M10 qL h H locs ls hP hS hl kk
            rw [Rf_setLine_L69] at h
            cases h
          | succ f ih =>
            intro x9 M10 qL h H locs ls hP hS hl kk
            rw [Rf_setLine_L69] at h
            refine lv_iload hx hb dX11_setLine_69 (lv_at hl 5 rfl) ?_
            refine lv_aload_n hx hb dX11_setLine_71 rfl (lv_at hl 0 rfl) ?_
            refine hy_get (T := (Mc, M10, Mo)) (o := 30) (k := 19) (v := .int (M10.1 30 19)) hx hb hown hts hX hP (by decide) rfl rfl inX11g (by decide) q_1211 rfl dX11_setLine_72 ?_
            refine lv_icmp_ge (tgt := 104) hx hb dX11_setLine_75 (by decide) (fun c11 => ?_) (fun c11 => ?_)
            · rw [if_pos c11] at h
              exact kk x9 M10 (Option.some.inj h).symm _ _ ls hP hS (lv_sub hl [0, 1, 2, 3, 4, 5] rfl)
            · rw [if_neg c11] at h
              refine lv_aload_n hx hb dX11_setLine_78 rfl (lv_at hl 0 rfl) ?_
              refine hy_get (T := (Mc, M10, Mo)) (o := 30) (k := 15) (v := .ref (adr G 39)) hx hb hown hts hX hP (by decide) rfl rfl inX11g (by decide) q_1207 rfl dX11_setLine_79 ?_
              refine lv_bipush (v := 60) hx hb dX11_setLine_82 rfl ?_
              refine lv_iload hx hb dX11_setLine_84 (lv_at hl 4 rfl) ?_
              refine lv_imul hx hb dX11_setLine_86 ?_
              refine lv_iload hx hb dX11_setLine_87 (lv_at hl 5 rfl) ?_
              refine lv_iadd hx hb dX11_setLine_89 ?_
              refine lv_aload_n hx hb dX11_setLine_90 rfl (lv_at hl 0 rfl) ?_
              refine hy_get (T := (Mc, M10, Mo)) (o := 30) (k := 20) (v := .ref (adr G 42)) hx hb hown hts hX hP (by decide) rfl rfl inX11g (by decide) q_1212 rfl dX11_setLine_91 ?_
              refine lv_iload hx hb dX11_setLine_94 (lv_at hl 5 rfl) ?_
              obtain ⟨v12, hv12, h⟩ := hy_bind h
              obtain ⟨nv12, hv12⟩ := ldE_some hv12
              refine hy_iald (T := (Mc, M10, Mo)) hx hb hX hP 42 60 (M10.1 42) (by decide) rfl nv12 dX11_setLine_96 ?_
              rw [hv12]
              obtain ⟨M13, hM13, h⟩ := hy_bind h
              obtain ⟨nM13, hM13⟩ := stE_some hM13
              refine hy_iast (T := (Mc, M10, Mo)) (T2 := (Mc, (wI M10 39 ((60 * ((24 * a1) + a2)) + x9).toNatClampNeg v12), Mo)) hx hb hX hP hS 39 5760 (by decide) (fun _ _ => rfl) nM13 rfl dX11_setLine_97 (fun H locs hP hS => ?_)
              rw [hM13] at hP
              refine lv_iinc (v := (x9 + 1)) (lv' := [(5, .int (x9 + 1)), (0, .ref (adr G 30)), (1, .int a1), (2, .int a2), (3, .int (bI (if v2 = (M1.1 30 19) then (!decide ((M1.1 30 31) ≤ 0)) else false))), (4, .int ((24 * a1) + a2))]) hx hb dX11_setLine_98 hl (k := 5) rfl rfl (by decide) rfl (fun ls hl => ?_)
              refine lv_goto (tgt := 69) hx hb dX11_setLine_101 (by decide) ?_
              exact ih (x9 + 1) M13 _ h  _ _ ls hP hS (lv_sub hl [1, 2, 3, 4, 5, 0] rfl) kk
        obtain ⟨q18, hq18, h⟩ := hy_bind h
        refine L14 hyFu 0 M7 q18 hq18 _ _ ls hP hS (lv_sub hl [2, 3, 4, 5, 1, 0] rfl) ?_
        intro y9 NM10 e9 H locs ls hP hS hl
        subst e9
        try dsimp only at h
        refine lv_aload_n hx hb dX11_setLine_104 rfl (lv_at hl 0 rfl) ?_
        refine hy_get (T := (Mc, NM10, Mo)) (o := 30) (k := 14) (v := .ref (adr G 38)) hx hb hown hts hX hP (by decide) rfl rfl inX11g (by decide) q_1206 rfl dX11_setLine_105 ?_
        refine lv_iload hx hb dX11_setLine_108 (lv_at hl 4 rfl) ?_
        refine lv_aload_n hx hb dX11_setLine_110 rfl (lv_at hl 0 rfl) ?_
        refine hy_get (T := (Mc, NM10, Mo)) (o := 30) (k := 19) (v := .int (NM10.1 30 19)) hx hb hown hts hX hP (by decide) rfl rfl inX11g (by decide) q_1211 rfl dX11_setLine_111 ?_
        obtain ⟨M15, hM15, h⟩ := hy_bind h
        obtain ⟨nM15, hM15⟩ := stE_some hM15
        refine hy_iast (T := (Mc, NM10, Mo)) (T2 := (Mc, (wI NM10 38 ((24 * a1) + a2).toNatClampNeg (NM10.1 30 19)), Mo)) hx hb hX hP hS 38 96 (by decide) (fun _ _ => rfl) nM15 rfl dX11_setLine_114 (fun H locs hP hS => ?_)
        rw [hM15] at hP
        refine lv_aload_n hx hb dX11_setLine_115 rfl (lv_at hl 0 rfl) ?_
        refine lv_iconst (v := 0) hx hb dX11_setLine_116 rfl ?_
        refine hy_putI (ty := .int) (T := (Mc, M15, Mo)) (T2 := (Mc, (wI M15 30 19 0), Mo)) (o := 30) (k := 19) hx hb hown hts hX hP hS (by decide) rfl rfl rfl rfl inX11g tyX11_ok nmX11 (by decide) q_1211 rfl rfl rfl rfl (Nat.le_of_ble_eq_true rfl) dX11_setLine_117 (fun H locs hP hS => ?_)
        obtain ⟨M16, hM16, h⟩ := hy_bind h
        rw [Option.some.inj hM16] at hP
        refine lv_aload_n hx hb dX11_setLine_120 rfl (lv_at hl 0 rfl) ?_
        refine lv_iload hx hb dX11_setLine_121 (lv_at hl 4 rfl) ?_
        refine lv_iconst (v := 0) hx hb dX11_setLine_123 rfl ?_
        obtain ⟨v17, hv17, h⟩ := hy_bind h
        refine hy_ret (hy_rV0 (T := (Mc, M16, Mo)) (v := some (.int v17)) (T2 := (Mc, M16, Mo)) (As := [.int ((24 * a1) + a2), .int 0]) (rest := []) (n := 0) hx hb hml hown hts hX hP hS hl (c_Rf_counts Mc Mo ((24 * a1) + a2) 0 M16 hv17) m_Rf_counts q_1400 (hy_recv hX hP 30 10 (by decide) rfl rfl) rfl rfl (Nat.le_of_ble_eq_true rfl) dX11_setLine_124 ⟨Nat.le_of_ble_eq_true rfl, Nat.le_of_ble_eq_true rfl⟩ ⟨Nat.zero_le _, Nat.zero_le _⟩) hS (fun H locs hP hS => ?_)
        exact hy_iret (T := (Mc, M16, Mo)) hx hb hr hlocks hP hS (Nat.zero_le _) (Nat.zero_le _) (by rw [← (Option.some.inj h)] <;> rfl) dX11_setLine_127
      · rw [if_neg c8] at h
        refine lv_iconst (v := 0) hx hb dX11_setLine_56 rfl ?_
        exact hy_iret (T := (Mc, M7, Mo)) hx hb hr hlocks hP hS (Nat.zero_le _) (Nat.zero_le _) (by rw [← (Option.some.inj h)] <;> rfl) dX11_setLine_57
    refine lv_if_ne (tgt := 37) hx hb dX11_setLine_30 (by decide) (fun c5 => ?_) (fun c5 => ?_)
    · refine lv_iload_n hx hb dX11_setLine_37 rfl (lv_at hl 0 rfl) ?_
      refine lv_if_eq (tgt := 45) hx hb dX11_setLine_38 (by decide) (fun c6 => ?_) (fun c6 => ?_)
      · refine lv_iconst (v := 2) hx hb dX11_setLine_45 rfl ?_
        exact J19 _ _ ls 2 (by rw [if_pos (bI_1 c5), if_neg (bI_0 c6)] <;> rfl) hP hS (lv_sub hl [1, 2, 3, 0] rfl)
      · refine lv_iconst (v := 0) hx hb dX11_setLine_41 rfl ?_
        refine lv_goto (tgt := 46) hx hb dX11_setLine_42 (by decide) ?_
        exact J19 _ _ ls 0 (by rw [if_pos (bI_1 c5), if_pos (bI_1 c6)] <;> rfl) hP hS (lv_sub hl [1, 2, 3, 0] rfl)
    · refine lv_iconst (v := 1) hx hb dX11_setLine_33 rfl ?_
      refine lv_goto (tgt := 46) hx hb dX11_setLine_34 (by decide) ?_
      exact J19 _ _ ls 1 (by rw [if_neg (bI_0 c5)] <;> rfl) hP hS (lv_sub hl [1, 2, 3, 0] rfl)
  refine lv_icmp_ne (tgt := 22) hx hb dX11_setLine_8 (by decide) (fun c3 => ?_) (fun c3 => ?_)
  · refine lv_iconst (v := 0) hx hb dX11_setLine_22 rfl ?_
    exact J20 _ _ ls 0 (by rw [if_neg c3] <;> rfl) hP hS (lv_sub hl [0, 1, 2] rfl)
  · refine lv_aload_n hx hb dX11_setLine_11 rfl (lv_at hl 0 rfl) ?_
    refine hy_get (T := (Mc, M1, Mo)) (o := 30) (k := 31) (v := .int (M1.1 30 31)) hx hb hown hts hX hP (by decide) rfl rfl inX11g (by decide) q_1223 rfl dX11_setLine_12 ?_
    refine lv_if_le (tgt := 22) hx hb dX11_setLine_15 (by decide) (fun c4 => ?_) (fun c4 => ?_)
    · refine lv_iconst (v := 0) hx hb dX11_setLine_22 rfl ?_
      exact J20 _ _ ls 0 (by rw [if_pos c3, decide_eq_true c4] <;> rfl) hP hS (lv_sub hl [0, 1, 2] rfl)
    · refine lv_iconst (v := 1) hx hb dX11_setLine_18 rfl ?_
      refine lv_goto (tgt := 23) hx hb dX11_setLine_19 (by decide) ?_
      exact J20 _ _ ls 1 (by rw [if_pos c3, decide_eq_false c4] <;> rfl) hP hS (lv_sub hl [0, 1, 2] rfl)
set_option maxHeartbeats 1000000 in
set_option maxRecDepth 100000 in
theorem c_Rf_clearVerse {l : Launch} {G : hyG} (Mc Mo : hyM) (a1 : Int32) (M : hyM) {res : (Int32 × hyM)} (h : Rf_clearVerse a1 M = some res) : hyC l yX11_clearVerse (.code yX11_clearVerse cX11_clearVerse 4 (some .int)) 1 22 (0) G [.ref (adr G 30), .int a1] (Mc, M, Mo) (.inr (some (.int res.1)), (Mc, res.2, Mo)) := by
  refine hy_of (by decide +kernel) (Nat.le_of_ble_eq_true rfl) ?_
  intro p e s m below meth c hx hb hml hown hts hr hlocks ht hX hP hS ls hl
  have hl : lv_has ls 4 [(0, .ref (adr G 30)), (1, .int a1)] := hl
  rw [Rf_clearVerse] at h
  refine lv_aload_n hx hb dX11_clearVerse_0 rfl (lv_at hl 0 rfl) ?_
  refine lv_iload_n hx hb dX11_clearVerse_1 rfl (lv_at hl 1 rfl) ?_
  refine lv_iconst (v := 0) hx hb dX11_clearVerse_2 rfl ?_
  refine lv_iconst (v := 3) hx hb dX11_clearVerse_3 rfl ?_
  refine hy_ret (hy_rS0 (T := (Mc, M, Mo)) (v := some (.int (bI (Rf_within a1 0 3 M)))) (T2 := (Mc, M, Mo)) (As := [.int a1, .int 0, .int 3]) (rest := [.ref (adr G 30)]) (n := 0) hx hb hml hown hts hX hP hS hl (c_Rf_within Mc Mo a1 0 3 M rfl) m_Rf_within q_1310 rfl rfl (Nat.le_of_ble_eq_true rfl) dX11_clearVerse_4 ⟨Nat.le_of_ble_eq_true rfl, Nat.le_of_ble_eq_true rfl⟩ ⟨Nat.zero_le _, Nat.zero_le _⟩) hS (fun H locs hP hS => ?_)
  have J14 : ∀ (H : Heap) (locs : List Loc) (ls : Array Slot) (u1 : Int32), u1 = (bI (!(Rf_within a1 0 3 M))) → va_P G.1 vwCl (wld G (Mc, M, Mo)) H → va_S (hyA G) s.heap H locs → lv_has ls 4 [(0, .ref (adr G 30)), (1, .int a1)] → W p l e { frames := 1, cells := 0, slots := 6 * 0, locals := 22 } s m ([.ref (adr G 30), .int a1] : List Value).toArray below meth c H locs 0 0 (vx_MQ below (hyQ G (.inr (some (.int res.1)), (Mc, res.2, Mo))) (hyXQ G (.inr (some (.int res.1)), (Mc, res.2, Mo))) ([.ref (adr G 30), .int a1] : List Value).toArray s 0 (6 * 0) (hyA G)) (F0 m 15 ls [.int u1, .ref (adr G 30)]) := by
    intro H locs ls u1 eu1 hP hS hl
    subst eu1
    refine hy_putI (ty := .int) (T := (Mc, M, Mo)) (T2 := (Mc, (wI M 30 0 (bI (!(Rf_within a1 0 3 M)))), Mo)) (o := 30) (k := 0) hx hb hown hts hX hP hS (by decide) rfl rfl rfl rfl inX11g tyX11_ok nmX11 (by decide) q_1192 rfl rfl rfl rfl (Nat.le_of_ble_eq_true rfl) dX11_clearVerse_15 (fun H locs hP hS => ?_)
    obtain ⟨M2, hM2, h⟩ := hy_bind h
    rw [Option.some.inj hM2] at hP
    refine lv_aload_n hx hb dX11_clearVerse_18 rfl (lv_at hl 0 rfl) ?_
    refine hy_get (T := (Mc, M2, Mo)) (o := 30) (k := 0) (v := .int (M2.1 30 0)) hx hb hown hts hX hP (by decide) rfl rfl inX11g (by decide) q_1192 rfl dX11_clearVerse_19 ?_
    refine lv_if_le (tgt := 27) hx hb dX11_clearVerse_22 (by decide) (fun c3 => ?_) (fun c3 => ?_)
    · rw [if_pos c3] at h
      refine lv_iconst (v := 0) hx hb dX11_clearVerse_27 rfl ?_
      refine lv_istore_n (lv' := [(2, .int 0), (0, .ref (adr G 30)), (1, .int a1)]) hx hb dX11_clearVerse_28 rfl hl (by decide) rfl (fun ls hl => ?_)
      refine lv_bipush (v := 24) hx hb dX11_clearVerse_29 rfl ?_
      refine lv_iload_n hx hb dX11_clearVerse_31 rfl (lv_at hl 2 rfl) ?_
      refine lv_imul hx hb dX11_clearVerse_32 ?_
      refine lv_istore_n (lv' := [(3, .int (24 * a1)), (2, .int 0), (0, .ref (adr G 30)), (1, .int a1)]) hx hb dX11_clearVerse_33 rfl hl (by decide) rfl (fun ls hl => ?_)
      have L12 : ∀ (f : Nat) (x4 : Int32) (x5 : Int32) (M6 : hyM) (qL : (Int32 × Int32 × hyM)) (h : Rf_clearVerse_L34 a1 f x4 x5 M6 = some qL) (H : Heap) (locs : List Loc) (ls : Array Slot) (hP : va_P G.1 vwCl (wld G (Mc, M6, Mo)) H) (hS : va_S (hyA G) s.heap H locs) (hl : lv_has ls 4 [(0, .ref (adr G 30)), (1, .int a1), (2, .int x4), (3, .int x5)]) (kk : ∀ (y4 : Int32) (y5 : Int32) (NM6 : hyM), qL = (y4, y5, NM6) → ∀ (H : Heap) (locs : List Loc) (ls : Array Slot), va_P G.1 vwCl (wld G (Mc, NM6, Mo)) H → va_S (hyA G) s.heap H locs → lv_has ls 4 [(0, .ref (adr G 30)), (1, .int a1), (2, .int y4), (3, .int y5)] → W p l e { frames := 1, cells := 0, slots := 6 * 0, locals := 22 } s m ([.ref (adr G 30), .int a1] : List Value).toArray below meth c H locs 0 0 (vx_MQ below (hyQ G (.inr (some (.int res.1)), (Mc, res.2, Mo))) (hyXQ G (.inr (some (.int res.1)), (Mc, res.2, Mo))) ([.ref (adr G 30), .int a1] : List Value).toArray s 0 (6 * 0) (hyA G)) (F0 m 74 ls [])), W p l e { frames := 1, cells := 0, slots := 6 * 0, locals := 22 } s m ([.ref (adr G 30), .int a1] : List Value).toArray below meth c H locs 0 0 (vx_MQ below (hyQ G (.inr (some (.int res.1)), (Mc, res.2, Mo))) (hyXQ G (.inr (some (.int res.1)), (Mc, res.2, Mo))) ([.ref (adr G 30), .int a1] : List Value).toArray s 0 (6 * 0) (hyA G)) (F0 m 34 ls []) := by
        intro f
        induction f with
        | zero =>
          intro x4 x5 M6 qL h H locs ls hP hS hl kk
          rw [Rf_clearVerse_L34] at h
          cases h
        | succ f ih =>
          intro x4 x5 M6 qL h H locs ls hP hS hl kk
          rw [Rf_clearVerse_L34] at h
          refine lv_iload_n hx hb dX11_clearVerse_34 rfl (lv_at hl 3 rfl) ?_
          refine lv_bipush (v := 24) hx hb dX11_clearVerse_35 rfl ?_
          refine lv_iload_n hx hb dX11_clearVerse_37 rfl (lv_at hl 1 rfl) ?_
          refine lv_iconst (v := 1) hx hb dX11_clearVerse_38 rfl ?_
          refine lv_iadd hx hb dX11_clearVerse_39 ?_
          refine lv_imul hx hb dX11_clearVerse_40 ?_
          refine lv_icmp_ge (tgt := 74) hx hb dX11_clearVerse_41 (by decide) (fun c7 => ?_) (fun c7 => ?_)
          · rw [if_pos c7] at h
            exact kk x4 x5 M6 (Option.some.inj h).symm _ _ ls hP hS (lv_sub hl [0, 1, 2, 3] rfl)
          · rw [if_neg c7] at h
            refine lv_iload_n hx hb dX11_clearVerse_44 rfl (lv_at hl 2 rfl) ?_
            refine lv_aload_n hx hb dX11_clearVerse_45 rfl (lv_at hl 0 rfl) ?_
            refine hy_get (T := (Mc, M6, Mo)) (o := 30) (k := 14) (v := .ref (adr G 38)) hx hb hown hts hX hP (by decide) rfl rfl inX11g (by decide) q_1206 rfl dX11_clearVerse_46 ?_
            refine lv_iload_n hx hb dX11_clearVerse_49 rfl (lv_at hl 3 rfl) ?_
            obtain ⟨v8, hv8, h⟩ := hy_bind h
            obtain ⟨nv8, hv8⟩ := ldE_some hv8
            refine hy_iald (T := (Mc, M6, Mo)) hx hb hX hP 38 96 (M6.1 38) (by decide) rfl nv8 dX11_clearVerse_50 ?_
            rw [hv8]
            have J11 : ∀ (H : Heap) (locs : List Loc) (ls : Array Slot) (u1 : Int32), u1 = (bI (!decide (v8 ≤ 0))) → va_P G.1 vwCl (wld G (Mc, M6, Mo)) H → va_S (hyA G) s.heap H locs → lv_has ls 4 [(0, .ref (adr G 30)), (1, .int a1), (2, .int x4), (3, .int x5)] → W p l e { frames := 1, cells := 0, slots := 6 * 0, locals := 22 } s m ([.ref (adr G 30), .int a1] : List Value).toArray below meth c H locs 0 0 (vx_MQ below (hyQ G (.inr (some (.int res.1)), (Mc, res.2, Mo))) (hyXQ G (.inr (some (.int res.1)), (Mc, res.2, Mo))) ([.ref (adr G 30), .int a1] : List Value).toArray s 0 (6 * 0) (hyA G)) (F0 m 59 ls [.int u1, .int x4]) := by
              intro H locs ls u1 eu1 hP hS hl
              subst eu1
              refine lv_iadd hx hb dX11_clearVerse_59 ?_
              refine lv_istore_n (lv' := [(2, .int (x4 + (bI (!decide (v8 ≤ 0))))), (0, .ref (adr G 30)), (1, .int a1), (3, .int x5)]) hx hb dX11_clearVerse_60 rfl hl (by decide) rfl (fun ls hl => ?_)
              refine lv_aload_n hx hb dX11_clearVerse_61 rfl (lv_at hl 1 rfl) ?_
              refine hy_get (T := (Mc, M6, Mo)) (o := 30) (k := 14) (v := .ref (adr G 38)) hx hb hown hts hX hP (by decide) rfl rfl inX11g (by decide) q_1206 rfl dX11_clearVerse_62 ?_
              refine lv_iload_n hx hb dX11_clearVerse_65 rfl (lv_at hl 3 rfl) ?_
              refine lv_iconst (v := 0) hx hb dX11_clearVerse_66 rfl ?_
              obtain ⟨M10, hM10, h⟩ := hy_bind h
              obtain ⟨nM10, hM10⟩ := stE_some hM10
              refine hy_iast (T := (Mc, M6, Mo)) (T2 := (Mc, (wI M6 38 x5.toNatClampNeg 0), Mo)) hx hb hX hP hS 38 96 (by decide) (fun _ _ => rfl) nM10 rfl dX11_clearVerse_67 (fun H locs hP hS => ?_)
              rw [hM10] at hP
              refine lv_iinc (v := (x5 + 1)) (lv' := [(3, .int (x5 + 1)), (2, .int (x4 + (bI (!decide (v8 ≤ 0))))), (0, .ref (adr G 30)), (1, .int a1)]) hx hb dX11_clearVerse_68 hl (k := 3) rfl rfl (by decide) rfl (fun ls hl => ?_)
              refine lv_goto (tgt := 34) hx hb dX11_clearVerse_71 (by decide) ?_
              exact ih (x4 + (bI (!decide (v8 ≤ 0)))) (x5 + 1) M10 _ h  _ _ ls hP hS (lv_sub hl [2, 3, 1, 0] rfl) kk
            refine lv_if_le (tgt := 58) hx hb dX11_clearVerse_51 (by decide) (fun c9 => ?_) (fun c9 => ?_)
            · refine lv_iconst (v := 0) hx hb dX11_clearVerse_58 rfl ?_
              exact J11 _ _ ls 0 (by rw [decide_eq_true c9] <;> rfl) hP hS (lv_sub hl [0, 1, 2, 3] rfl)
            · refine lv_iconst (v := 1) hx hb dX11_clearVerse_54 rfl ?_
              refine lv_goto (tgt := 59) hx hb dX11_clearVerse_55 (by decide) ?_
              exact J11 _ _ ls 1 (by rw [decide_eq_false c9] <;> rfl) hP hS (lv_sub hl [0, 1, 2, 3] rfl)
      obtain ⟨q13, hq13, h⟩ := hy_bind h
      refine L12 hyFu 0 (24 * a1) M2 q13 hq13 _ _ ls hP hS (lv_sub hl [2, 3, 1, 0] rfl) ?_
      intro y4 y5 NM6 e9 H locs ls hP hS hl
      subst e9
      try dsimp only at h
      refine lv_iload_n hx hb dX11_clearVerse_74 rfl (lv_at hl 2 rfl) ?_
      exact hy_iret (T := (Mc, NM6, Mo)) hx hb hr hlocks hP hS (Nat.zero_le _) (Nat.zero_le _) (by rw [← (Option.some.inj h)] <;> rfl) dX11_clearVerse_75
    · rw [if_neg c3] at h
      refine lv_iconst (v := 0) hx hb dX11_clearVerse_25 rfl ?_
      exact hy_iret (T := (Mc, M2, Mo)) hx hb hr hlocks hP hS (Nat.zero_le _) (Nat.zero_le _) (by rw [← (Option.some.inj h)] <;> rfl) dX11_clearVerse_26
  refine lv_if_eq (tgt := 14) hx hb dX11_clearVerse_7 (by decide) (fun c1 => ?_) (fun c1 => ?_)
  · refine lv_iconst (v := 1) hx hb dX11_clearVerse_14 rfl ?_
    exact J14 _ _ ls 1 (by rw [(bI_z c1)] <;> rfl) hP hS (lv_sub hl [0, 1] rfl)
  · refine lv_iconst (v := 0) hx hb dX11_clearVerse_10 rfl ?_
    refine lv_goto (tgt := 15) hx hb dX11_clearVerse_11 (by decide) ?_
    exact J14 _ _ ls 0 (by rw [(bI_1 c1)] <;> rfl) hP hS (lv_sub hl [0, 1] rfl)
set_option maxHeartbeats 1000000 in
set_option maxRecDepth 100000 in
theorem c_Rf_addMetre {l : Launch} {G : hyG} (Mc Mo : hyM) (M : hyM) {res : (Int32 × hyM)} (h : Rf_addMetre M = some res) : hyC l yX11_addMetre (.code yX11_addMetre cX11_addMetre 3 (some .int)) 4 88 (0) G [.ref (adr G 30)] (Mc, M, Mo) (.inr (some (.int res.1)), (Mc, res.2, Mo)) := by
  refine hy_of (by decide +kernel) (Nat.le_of_ble_eq_true rfl) ?_
  intro p e s m below meth c hx hb hml hown hts hr hlocks ht hX hP hS ls hl
  have hl : lv_has ls 3 [(0, .ref (adr G 30))] := hl
  rw [Rf_addMetre] at h
  refine lv_aload_n hx hb dX11_addMetre_0 rfl (lv_at hl 0 rfl) ?_
  obtain ⟨⟨v2, M1⟩, hM1, h⟩ := hy_bind h
  try dsimp only at h
  refine hy_ret (hy_rV0 (T := (Mc, M, Mo)) (v := some (.int v2)) (T2 := (Mc, M1, Mo)) (As := []) (rest := []) (n := 0) hx hb hml hown hts hX hP hS hl (c_Rf_rightMetre Mc Mo M hM1) m_Rf_rightMetre q_1431 (hy_recv hX hP 30 10 (by decide) rfl rfl) rfl rfl (Nat.le_of_ble_eq_true rfl) dX11_addMetre_1 ⟨Nat.le_of_ble_eq_true rfl, Nat.le_of_ble_eq_true rfl⟩ ⟨Nat.zero_le _, Nat.zero_le _⟩) hS (fun H locs hP hS => ?_)
  refine lv_aload_n hx hb dX11_addMetre_4 rfl (lv_at hl 0 rfl) ?_
  refine hy_get (T := (Mc, M1, Mo)) (o := 30) (k := 19) (v := .int (M1.1 30 19)) hx hb hown hts hX hP (by decide) rfl rfl inX11g (by decide) q_1211 rfl dX11_addMetre_5 ?_
  have J25 : ∀ (H : Heap) (locs : List Loc) (ls : Array Slot) (u1 : Int32), u1 = (bI (if v2 = (M1.1 30 19) then (if 0 < (M1.1 30 31) then true else (!decide ((M1.1 30 33) = 0))) else false)) → va_P G.1 vwCl (wld G (Mc, M1, Mo)) H → va_S (hyA G) s.heap H locs → lv_has ls 3 [(0, .ref (adr G 30))] → W p l e { frames := 4, cells := 0, slots := 6 * 0, locals := 88 } s m ([.ref (adr G 30)] : List Value).toArray below meth c H locs 0 0 (vx_MQ below (hyQ G (.inr (some (.int res.1)), (Mc, res.2, Mo))) (hyXQ G (.inr (some (.int res.1)), (Mc, res.2, Mo))) ([.ref (adr G 30)] : List Value).toArray s 0 (6 * 0) (hyA G)) (F0 m 30 ls [.int u1]) := by
    intro H locs ls u1 eu1 hP hS hl
    subst eu1
    refine lv_istore_n (lv' := [(1, .int (bI (if v2 = (M1.1 30 19) then (if 0 < (M1.1 30 31) then true else (!decide ((M1.1 30 33) = 0))) else false))), (0, .ref (adr G 30))]) hx hb dX11_addMetre_30 rfl hl (by decide) rfl (fun ls hl => ?_)
    refine lv_aload_n hx hb dX11_addMetre_31 rfl (lv_at hl 1 rfl) ?_
    refine lv_iload_n hx hb dX11_addMetre_32 rfl (lv_at hl 0 rfl) ?_
    have J24 : ∀ (H : Heap) (locs : List Loc) (ls : Array Slot) (u1 : Int32), u1 = (if (if v2 = (M1.1 30 19) then (if 0 < (M1.1 30 31) then true else (!decide ((M1.1 30 33) = 0))) else false) then (if (M1.1 30 16) = 8 then 2 else 0) else 1) → va_P G.1 vwCl (wld G (Mc, M1, Mo)) H → va_S (hyA G) s.heap H locs → lv_has ls 3 [(0, .ref (adr G 30)), (1, .int (bI (if v2 = (M1.1 30 19) then (if 0 < (M1.1 30 31) then true else (!decide ((M1.1 30 33) = 0))) else false)))] → W p l e { frames := 4, cells := 0, slots := 6 * 0, locals := 88 } s m ([.ref (adr G 30)] : List Value).toArray below meth c H locs 0 0 (vx_MQ below (hyQ G (.inr (some (.int res.1)), (Mc, res.2, Mo))) (hyXQ G (.inr (some (.int res.1)), (Mc, res.2, Mo))) ([.ref (adr G 30)] : List Value).toArray s 0 (6 * 0) (hyA G)) (F0 m 54 ls [.int u1, .ref (adr G 30)]) := by
      intro H locs ls u1 eu1 hP hS hl
      subst eu1
      refine hy_putI (ty := .int) (T := (Mc, M1, Mo)) (T2 := (Mc, (wI M1 30 0 (if (if v2 = (M1.1 30 19) then (if 0 < (M1.1 30 31) then true else (!decide ((M1.1 30 33) = 0))) else false) then (if (M1.1 30 16) = 8 then 2 else 0) else 1)), Mo)) (o := 30) (k := 0) hx hb hown hts hX hP hS (by decide) rfl rfl rfl rfl inX11g tyX11_ok nmX11 (by decide) q_1192 rfl rfl rfl rfl (Nat.le_of_ble_eq_true rfl) dX11_addMetre_54 (fun H locs hP hS => ?_)
      obtain ⟨M8, hM8, h⟩ := hy_bind h
      rw [Option.some.inj hM8] at hP
      refine lv_aload_n hx hb dX11_addMetre_57 rfl (lv_at hl 0 rfl) ?_
      refine hy_get (T := (Mc, M8, Mo)) (o := 30) (k := 0) (v := .int (M8.1 30 0)) hx hb hown hts hX hP (by decide) rfl rfl inX11g (by decide) q_1192 rfl dX11_addMetre_58 ?_
      refine lv_if_le (tgt := 66) hx hb dX11_addMetre_61 (by decide) (fun c9 => ?_) (fun c9 => ?_)
      · rw [if_pos c9] at h
        refine lv_aload_n hx hb dX11_addMetre_66 rfl (lv_at hl 0 rfl) ?_
        refine hy_get (T := (Mc, M8, Mo)) (o := 30) (k := 17) (v := .ref (adr G 40)) hx hb hown hts hX hP (by decide) rfl rfl inX11g (by decide) q_1209 rfl dX11_addMetre_67 ?_
        refine lv_aload_n hx hb dX11_addMetre_70 rfl (lv_at hl 0 rfl) ?_
        refine hy_get (T := (Mc, M8, Mo)) (o := 30) (k := 16) (v := .int (M8.1 30 16)) hx hb hown hts hX hP (by decide) rfl rfl inX11g (by decide) q_1208 rfl dX11_addMetre_71 ?_
        refine lv_aload_n hx hb dX11_addMetre_74 rfl (lv_at hl 0 rfl) ?_
        refine hy_get (T := (Mc, M8, Mo)) (o := 30) (k := 33) (v := .int (M8.1 30 33)) hx hb hown hts hX hP (by decide) rfl rfl inX11g (by decide) q_1225 rfl dX11_addMetre_75 ?_
        have J23 : ∀ (H : Heap) (locs : List Loc) (ls : Array Slot) (u1 : Int32), u1 = (if (M8.1 30 33) = 0 then (M8.1 30 32) else (2 * (M8.1 30 32))) → va_P G.1 vwCl (wld G (Mc, M8, Mo)) H → va_S (hyA G) s.heap H locs → lv_has ls 3 [(0, .ref (adr G 30)), (1, .int (bI (if v2 = (M1.1 30 19) then (if 0 < (M1.1 30 31) then true else (!decide ((M1.1 30 33) = 0))) else false)))] → W p l e { frames := 4, cells := 0, slots := 6 * 0, locals := 88 } s m ([.ref (adr G 30)] : List Value).toArray below meth c H locs 0 0 (vx_MQ below (hyQ G (.inr (some (.int res.1)), (Mc, res.2, Mo))) (hyXQ G (.inr (some (.int res.1)), (Mc, res.2, Mo))) ([.ref (adr G 30)] : List Value).toArray s 0 (6 * 0) (hyA G)) (F0 m 94 ls [.int u1, .int (M8.1 30 16), .ref (adr G 40)]) := by
          intro H locs ls u1 eu1 hP hS hl
          subst eu1
          obtain ⟨M11, hM11, h⟩ := hy_bind h
          obtain ⟨nM11, hM11⟩ := stE_some hM11
          refine hy_iast (T := (Mc, M8, Mo)) (T2 := (Mc, (wI M8 40 (M8.1 30 16).toNatClampNeg (if (M8.1 30 33) = 0 then (M8.1 30 32) else (2 * (M8.1 30 32)))), Mo)) hx hb hX hP hS 40 8 (by decide) (fun _ _ => rfl) nM11 rfl dX11_addMetre_94 (fun H locs hP hS => ?_)
          rw [hM11] at hP
          refine lv_iconst (v := 0) hx hb dX11_addMetre_95 rfl ?_
          refine lv_istore_n (lv' := [(2, .int 0), (0, .ref (adr G 30)), (1, .int (bI (if v2 = (M1.1 30 19) then (if 0 < (M1.1 30 31) then true else (!decide ((M1.1 30 33) = 0))) else false)))]) hx hb dX11_addMetre_96 rfl hl (by decide) rfl (fun ls hl => ?_)
          have L19 : ∀ (f : Nat) (x12 : Int32) (M13 : hyM) (qL : (Int32 × hyM)) (h : Rf_addMetre_L97  f x12 M13 = some qL) (H : Heap) (locs : List Loc) (ls : Array Slot) (hP : va_P G.1 vwCl (wld G (Mc, M13, Mo)) H) (hS : va_S (hyA G) s.heap H locs) (hl : lv_has ls 3 [(0, .ref (adr G 30)), (1, .int (bI (if v2 = (M1.1 30 19) then (if 0 < (M1.1 30 31) then true else (!decide ((M1.1 30 33) = 0))) else false))), (2, .int x12)]) (kk : ∀ (y12 : Int32) (NM13 : hyM), qL = (y12, NM13) → ∀ (H : Heap) (locs : List Loc) (ls : Array Slot), va_P G.1 vwCl (wld G (Mc, NM13, Mo)) H → va_S (hyA G) s.heap H locs → lv_has ls 3 [(0, .ref (adr G 30)), (1, .int (bI (if v2 = (M1.1 30 19) then (if 0 < (M1.1 30 31) then true else (!decide ((M1.1 30 33) = 0))) else false))), (2, .int y12)] → W p l e { frames := 4, cells := 0, slots := 6 * 0, locals := 88 } s m ([.ref (adr G 30)] : List Value).toArray below meth c H locs 0 0 (vx_MQ below (hyQ G (.inr (some (.int res.1)), (Mc, res.2, Mo))) (hyXQ G (.inr (some (.int res.1)), (Mc, res.2, Mo))) ([.ref (adr G 30)] : List Value).toArray s 0 (6 * 0) (hyA G)) (F0 m 141 ls [])), W p l e { frames := 4, cells := 0, slots := 6 * 0, locals := 88 } s m ([.ref (adr G 30)] : List Value).toArray below meth c H locs 0 0 (vx_MQ below (hyQ G (.inr (some (.int res.1)), (Mc, res.2, Mo))) (hyXQ G (.inr (some (.int res.1)), (Mc, res.2, Mo))) ([.ref (adr G 30)] : List Value).toArray s 0 (6 * 0) (hyA G)) (F0 m 97 ls []) := by
            intro f
            induction f with
            | zero =>
              intro x12 M13 qL h H locs ls hP hS hl kk
              rw [Rf_addMetre_L97] at h
              cases h
            | succ f ih =>
              intro x12 M13 qL h H locs ls hP hS hl kk
              rw [Rf_addMetre_L97] at h
              refine lv_iload_n hx hb dX11_addMetre_97 rfl (lv_at hl 2 rfl) ?_
              refine lv_aload_n hx hb dX11_addMetre_98 rfl (lv_at hl 0 rfl) ?_
              refine hy_get (T := (Mc, M13, Mo)) (o := 30) (k := 17) (v := .ref (adr G 40)) hx hb hown hts hX hP (by decide) rfl rfl inX11g (by decide) q_1209 rfl dX11_addMetre_99 ?_
              refine lv_aload_n hx hb dX11_addMetre_102 rfl (lv_at hl 0 rfl) ?_
              refine hy_get (T := (Mc, M13, Mo)) (o := 30) (k := 16) (v := .int (M13.1 30 16)) hx hb hown hts hX hP (by decide) rfl rfl inX11g (by decide) q_1208 rfl dX11_addMetre_103 ?_
              obtain ⟨v14, hv14, h⟩ := hy_bind h
              obtain ⟨nv14, hv14⟩ := ldE_some hv14
              refine hy_iald (T := (Mc, M13, Mo)) hx hb hX hP 40 8 (M13.1 40) (by decide) rfl nv14 dX11_addMetre_106 ?_
              rw [hv14]
              refine lv_icmp_ge (tgt := 141) hx hb dX11_addMetre_107 (by decide) (fun c15 => ?_) (fun c15 => ?_)
              · rw [if_pos c15] at h
                exact kk x12 M13 (Option.some.inj h).symm _ _ ls hP hS (lv_sub hl [0, 1, 2] rfl)
              · rw [if_neg c15] at h
                refine lv_aload_n hx hb dX11_addMetre_110 rfl (lv_at hl 0 rfl) ?_
                refine hy_get (T := (Mc, M13, Mo)) (o := 30) (k := 18) (v := .ref (adr G 41)) hx hb hown hts hX hP (by decide) rfl rfl inX11g (by decide) q_1210 rfl dX11_addMetre_111 ?_
                refine lv_bipush (v := 24) hx hb dX11_addMetre_114 rfl ?_
                refine lv_aload_n hx hb dX11_addMetre_116 rfl (lv_at hl 0 rfl) ?_
                refine hy_get (T := (Mc, M13, Mo)) (o := 30) (k := 16) (v := .int (M13.1 30 16)) hx hb hown hts hX hP (by decide) rfl rfl inX11g (by decide) q_1208 rfl dX11_addMetre_117 ?_
                refine lv_imul hx hb dX11_addMetre_120 ?_
                refine lv_iload_n hx hb dX11_addMetre_121 rfl (lv_at hl 2 rfl) ?_
                refine lv_iadd hx hb dX11_addMetre_122 ?_
                refine lv_aload_n hx hb dX11_addMetre_123 rfl (lv_at hl 0 rfl) ?_
                refine hy_get (T := (Mc, M13, Mo)) (o := 30) (k := 34) (v := .ref (adr G 50)) hx hb hown hts hX hP (by decide) rfl rfl inX11g (by decide) q_1226 rfl dX11_addMetre_124 ?_
                refine lv_iload_n hx hb dX11_addMetre_127 rfl (lv_at hl 2 rfl) ?_
                refine lv_aload_n hx hb dX11_addMetre_128 rfl (lv_at hl 0 rfl) ?_
                refine hy_get (T := (Mc, M13, Mo)) (o := 30) (k := 32) (v := .int (M13.1 30 32)) hx hb hown hts hX hP (by decide) rfl rfl inX11g (by decide) q_1224 rfl dX11_addMetre_129 ?_
                obtain ⟨v16, hv16, h⟩ := hy_bind h
                obtain ⟨nv16, hv16⟩ := jrm_some hv16
                refine lv_irem hx hb dX11_addMetre_132 nv16 ?_
                rw [hv16]
                obtain ⟨v17, hv17, h⟩ := hy_bind h
                obtain ⟨nv17, hv17⟩ := ldE_some hv17
                refine hy_iald (T := (Mc, M13, Mo)) hx hb hX hP 50 48 (M13.1 50) (by decide) rfl nv17 dX11_addMetre_133 ?_
                rw [hv17]
                obtain ⟨M18, hM18, h⟩ := hy_bind h
                obtain ⟨nM18, hM18⟩ := stE_some hM18
                refine hy_iast (T := (Mc, M13, Mo)) (T2 := (Mc, (wI M13 41 ((24 * (M13.1 30 16)) + x12).toNatClampNeg v17), Mo)) hx hb hX hP hS 41 192 (by decide) (fun _ _ => rfl) nM18 rfl dX11_addMetre_134 (fun H locs hP hS => ?_)
                rw [hM18] at hP
                refine lv_iinc (v := (x12 + 1)) (lv' := [(2, .int (x12 + 1)), (0, .ref (adr G 30)), (1, .int (bI (if v2 = (M1.1 30 19) then (if 0 < (M1.1 30 31) then true else (!decide ((M1.1 30 33) = 0))) else false)))]) hx hb dX11_addMetre_135 hl (k := 2) rfl rfl (by decide) rfl (fun ls hl => ?_)
                refine lv_goto (tgt := 97) hx hb dX11_addMetre_138 (by decide) ?_
                exact ih (x12 + 1) M18 _ h  _ _ ls hP hS (lv_sub hl [1, 2, 0] rfl) kk
          obtain ⟨q22, hq22, h⟩ := hy_bind h
          refine L19 hyFu 0 M11 q22 hq22 _ _ ls hP hS (lv_sub hl [1, 2, 0] rfl) ?_
          intro y12 NM13 e9 H locs ls hP hS hl
          subst e9
          try dsimp only at h
          refine lv_aload_n hx hb dX11_addMetre_141 rfl (lv_at hl 0 rfl) ?_
          refine lv_dup hx hb dX11_addMetre_142 rfl ?_
          refine hy_get (T := (Mc, NM13, Mo)) (o := 30) (k := 16) (v := .int (NM13.1 30 16)) hx hb hown hts hX hP (by decide) rfl rfl inX11g (by decide) q_1208 rfl dX11_addMetre_143 ?_
          refine lv_iconst (v := 1) hx hb dX11_addMetre_146 rfl ?_
          refine lv_iadd hx hb dX11_addMetre_147 ?_
          refine hy_putI (ty := .int) (T := (Mc, NM13, Mo)) (T2 := (Mc, (wI NM13 30 16 ((NM13.1 30 16) + 1)), Mo)) (o := 30) (k := 16) hx hb hown hts hX hP hS (by decide) rfl rfl rfl rfl inX11g tyX11_ok nmX11 (by decide) q_1208 rfl rfl rfl rfl (Nat.le_of_ble_eq_true rfl) dX11_addMetre_148 (fun H locs hP hS => ?_)
          obtain ⟨M20, hM20, h⟩ := hy_bind h
          rw [Option.some.inj hM20] at hP
          refine lv_aload_n hx hb dX11_addMetre_151 rfl (lv_at hl 0 rfl) ?_
          refine lv_iconst (v := 0) hx hb dX11_addMetre_152 rfl ?_
          refine hy_putI (ty := .int) (T := (Mc, M20, Mo)) (T2 := (Mc, (wI M20 30 19 0), Mo)) (o := 30) (k := 19) hx hb hown hts hX hP hS (by decide) rfl rfl rfl rfl inX11g tyX11_ok nmX11 (by decide) q_1211 rfl rfl rfl rfl (Nat.le_of_ble_eq_true rfl) dX11_addMetre_153 (fun H locs hP hS => ?_)
          obtain ⟨M21, hM21, h⟩ := hy_bind h
          rw [Option.some.inj hM21] at hP
          refine lv_aload_n hx hb dX11_addMetre_156 rfl (lv_at hl 0 rfl) ?_
          refine hy_get (T := (Mc, M21, Mo)) (o := 30) (k := 16) (v := .int (M21.1 30 16)) hx hb hown hts hX hP (by decide) rfl rfl inX11g (by decide) q_1208 rfl dX11_addMetre_157 ?_
          refine lv_iconst (v := 1) hx hb dX11_addMetre_160 rfl ?_
          refine lv_isub hx hb dX11_addMetre_161 ?_
          exact hy_iret (T := (Mc, M21, Mo)) hx hb hr hlocks hP hS (Nat.zero_le _) (Nat.zero_le _) (by rw [← (Option.some.inj h)] <;> rfl) dX11_addMetre_162
        refine lv_if_eq (tgt := 90) hx hb dX11_addMetre_78 (by decide) (fun c10 => ?_) (fun c10 => ?_)
        · refine lv_aload_n hx hb dX11_addMetre_90 rfl (lv_at hl 0 rfl) ?_
          refine hy_get (T := (Mc, M8, Mo)) (o := 30) (k := 32) (v := .int (M8.1 30 32)) hx hb hown hts hX hP (by decide) rfl rfl inX11g (by decide) q_1224 rfl dX11_addMetre_91 ?_
          exact J23 _ _ ls (M8.1 30 32) (by rw [if_pos c10] <;> rfl) hP hS (lv_sub hl [0, 1] rfl)
        · refine lv_iconst (v := 2) hx hb dX11_addMetre_81 rfl ?_
          refine lv_aload_n hx hb dX11_addMetre_82 rfl (lv_at hl 0 rfl) ?_
          refine hy_get (T := (Mc, M8, Mo)) (o := 30) (k := 32) (v := .int (M8.1 30 32)) hx hb hown hts hX hP (by decide) rfl rfl inX11g (by decide) q_1224 rfl dX11_addMetre_83 ?_
          refine lv_imul hx hb dX11_addMetre_86 ?_
          refine lv_goto (tgt := 94) hx hb dX11_addMetre_87 (by decide) ?_
          exact J23 _ _ ls (2 * (M8.1 30 32)) (by rw [if_neg c10] <;> rfl) hP hS (lv_sub hl [0, 1] rfl)
      · rw [if_neg c9] at h
        refine lv_iconst (v := 0) hx hb dX11_addMetre_64 rfl ?_
        exact hy_iret (T := (Mc, M8, Mo)) hx hb hr hlocks hP hS (Nat.zero_le _) (Nat.zero_le _) (by rw [← (Option.some.inj h)] <;> rfl) dX11_addMetre_65
    refine lv_if_ne (tgt := 40) hx hb dX11_addMetre_33 (by decide) (fun c6 => ?_) (fun c6 => ?_)
    · refine lv_aload_n hx hb dX11_addMetre_40 rfl (lv_at hl 1 rfl) ?_
      refine hy_get (T := (Mc, M1, Mo)) (o := 30) (k := 16) (v := .int (M1.1 30 16)) hx hb hown hts hX hP (by decide) rfl rfl inX11g (by decide) q_1208 rfl dX11_addMetre_41 ?_
      refine lv_bipush (v := 8) hx hb dX11_addMetre_44 rfl ?_
      refine lv_icmp_ne (tgt := 53) hx hb dX11_addMetre_46 (by decide) (fun c7 => ?_) (fun c7 => ?_)
      · refine lv_iconst (v := 0) hx hb dX11_addMetre_53 rfl ?_
        exact J24 _ _ ls 0 (by rw [if_pos (bI_1 c6), if_neg c7] <;> rfl) hP hS (lv_sub hl [1, 0] rfl)
      · refine lv_iconst (v := 2) hx hb dX11_addMetre_49 rfl ?_
        refine lv_goto (tgt := 54) hx hb dX11_addMetre_50 (by decide) ?_
        exact J24 _ _ ls 2 (by rw [if_pos (bI_1 c6), if_pos c7] <;> rfl) hP hS (lv_sub hl [1, 0] rfl)
    · refine lv_iconst (v := 1) hx hb dX11_addMetre_36 rfl ?_
      refine lv_goto (tgt := 54) hx hb dX11_addMetre_37 (by decide) ?_
      exact J24 _ _ ls 1 (by rw [if_neg (bI_0 c6)] <;> rfl) hP hS (lv_sub hl [1, 0] rfl)
  refine lv_icmp_ne (tgt := 29) hx hb dX11_addMetre_8 (by decide) (fun c3 => ?_) (fun c3 => ?_)
  · refine lv_iconst (v := 0) hx hb dX11_addMetre_29 rfl ?_
    exact J25 _ _ ls 0 (by rw [if_neg c3] <;> rfl) hP hS (lv_sub hl [0] rfl)
  · refine lv_aload_n hx hb dX11_addMetre_11 rfl (lv_at hl 0 rfl) ?_
    refine hy_get (T := (Mc, M1, Mo)) (o := 30) (k := 31) (v := .int (M1.1 30 31)) hx hb hown hts hX hP (by decide) rfl rfl inX11g (by decide) q_1223 rfl dX11_addMetre_12 ?_
    refine lv_if_gt (tgt := 25) hx hb dX11_addMetre_15 (by decide) (fun c4 => ?_) (fun c4 => ?_)
    · refine lv_iconst (v := 1) hx hb dX11_addMetre_25 rfl ?_
      refine lv_goto (tgt := 30) hx hb dX11_addMetre_26 (by decide) ?_
      exact J25 _ _ ls 1 (by rw [if_pos c3, if_pos c4] <;> rfl) hP hS (lv_sub hl [0] rfl)
    · refine lv_aload_n hx hb dX11_addMetre_18 rfl (lv_at hl 0 rfl) ?_
      refine hy_get (T := (Mc, M1, Mo)) (o := 30) (k := 33) (v := .int (M1.1 30 33)) hx hb hown hts hX hP (by decide) rfl rfl inX11g (by decide) q_1225 rfl dX11_addMetre_19 ?_
      refine lv_if_eq (tgt := 29) hx hb dX11_addMetre_22 (by decide) (fun c5 => ?_) (fun c5 => ?_)
      · refine lv_iconst (v := 0) hx hb dX11_addMetre_29 rfl ?_
        exact J25 _ _ ls 0 (by rw [if_pos c3, if_neg c4, decide_eq_true c5] <;> rfl) hP hS (lv_sub hl [0] rfl)
      · refine lv_iconst (v := 1) hx hb dX11_addMetre_25 rfl ?_
        refine lv_goto (tgt := 30) hx hb dX11_addMetre_26 (by decide) ?_
        exact J25 _ _ ls 1 (by rw [if_pos c3, if_neg c4, decide_eq_false c5] <;> rfl) hP hS (lv_sub hl [0] rfl)
set_option maxHeartbeats 1000000 in
set_option maxRecDepth 100000 in
theorem c_Rf_isMetre {l : Launch} {G : hyG} (Mc Mo : hyM) (a1 : Int32) (M : hyM) {res : Bool} (h : Rf_isMetre a1 M = res) : hyC l yX11_isMetre (.code yX11_isMetre cX11_isMetre 2 (some .boolean)) 1 22 (0) G [.ref (adr G 30), .int a1] (Mc, M, Mo) (.inr (some (.int (bI res))), (Mc, M, Mo)) := by
  refine hy_of (by decide +kernel) (Nat.le_of_ble_eq_true rfl) ?_
  intro p e s m below meth c hx hb hml hown hts hr hlocks ht hX hP hS ls hl
  have hl : lv_has ls 2 [(0, .ref (adr G 30)), (1, .int a1)] := hl
  rw [Rf_isMetre] at h
  refine lv_iload_n hx hb dX11_isMetre_0 rfl (lv_at hl 1 rfl) ?_
  refine lv_iconst (v := 0) hx hb dX11_isMetre_1 rfl ?_
  refine lv_aload_n hx hb dX11_isMetre_2 rfl (lv_at hl 0 rfl) ?_
  refine hy_get (T := (Mc, M, Mo)) (o := 30) (k := 16) (v := .int (M.1 30 16)) hx hb hown hts hX hP (by decide) rfl rfl inX11g (by decide) q_1208 rfl dX11_isMetre_3 ?_
  refine lv_iconst (v := 1) hx hb dX11_isMetre_6 rfl ?_
  refine lv_isub hx hb dX11_isMetre_7 ?_
  refine hy_ret (hy_rS0 (T := (Mc, M, Mo)) (v := some (.int (bI (Rf_within a1 0 ((M.1 30 16) - 1) M)))) (T2 := (Mc, M, Mo)) (As := [.int a1, .int 0, .int ((M.1 30 16) - 1)]) (rest := []) (n := 0) hx hb hml hown hts hX hP hS hl (c_Rf_within Mc Mo a1 0 ((M.1 30 16) - 1) M rfl) m_Rf_within q_1310 rfl rfl (Nat.le_of_ble_eq_true rfl) dX11_isMetre_8 ⟨Nat.le_of_ble_eq_true rfl, Nat.le_of_ble_eq_true rfl⟩ ⟨Nat.zero_le _, Nat.zero_le _⟩) hS (fun H locs hP hS => ?_)
  exact hy_zret (T := (Mc, M, Mo)) hx hb hr hlocks hP hS (Nat.zero_le _) (Nat.zero_le _) (bI_nar (Rf_within a1 0 ((M.1 30 16) - 1) M)) (by rw [← h] <;> rfl) dX11_isMetre_11
set_option maxHeartbeats 1000000 in
set_option maxRecDepth 100000 in
theorem c_Rf_dropMetre {l : Launch} {G : hyG} (Mc Mo : hyM) (a1 : Int32) (M : hyM) {res : (Int32 × hyM)} (h : Rf_dropMetre a1 M = some res) : hyC l yX11_dropMetre (.code yX11_dropMetre cX11_dropMetre 4 (some .int)) 2 43 (0) G [.ref (adr G 30), .int a1] (Mc, M, Mo) (.inr (some (.int res.1)), (Mc, res.2, Mo)) := by
  refine hy_of (by decide +kernel) (Nat.le_of_ble_eq_true rfl) ?_
  intro p e s m below meth c hx hb hml hown hts hr hlocks ht hX hP hS ls hl
  have hl : lv_has ls 4 [(0, .ref (adr G 30)), (1, .int a1)] := hl
  rw [Rf_dropMetre] at h
  refine lv_aload_n hx hb dX11_dropMetre_0 rfl (lv_at hl 0 rfl) ?_
  refine lv_aload_n hx hb dX11_dropMetre_1 rfl (lv_at hl 0 rfl) ?_
  refine lv_iload_n hx hb dX11_dropMetre_2 rfl (lv_at hl 1 rfl) ?_
  refine hy_ret (hy_rV0 (T := (Mc, M, Mo)) (v := some (.int (bI (Rf_isMetre a1 M)))) (T2 := (Mc, M, Mo)) (As := [.int a1]) (rest := [.ref (adr G 30)]) (n := 0) hx hb hml hown hts hX hP hS hl (c_Rf_isMetre Mc Mo a1 M rfl) m_Rf_isMetre q_1466 (hy_recv hX hP 30 10 (by decide) rfl rfl) rfl rfl (Nat.le_of_ble_eq_true rfl) dX11_dropMetre_3 ⟨Nat.le_of_ble_eq_true rfl, Nat.le_of_ble_eq_true rfl⟩ ⟨Nat.zero_le _, Nat.zero_le _⟩) hS (fun H locs hP hS => ?_)
  have J19 : ∀ (H : Heap) (locs : List Loc) (ls : Array Slot) (u1 : Int32), u1 = (bI (!(Rf_isMetre a1 M))) → va_P G.1 vwCl (wld G (Mc, M, Mo)) H → va_S (hyA G) s.heap H locs → lv_has ls 4 [(0, .ref (adr G 30)), (1, .int a1)] → W p l e { frames := 2, cells := 0, slots := 6 * 0, locals := 43 } s m ([.ref (adr G 30), .int a1] : List Value).toArray below meth c H locs 0 0 (vx_MQ below (hyQ G (.inr (some (.int res.1)), (Mc, res.2, Mo))) (hyXQ G (.inr (some (.int res.1)), (Mc, res.2, Mo))) ([.ref (adr G 30), .int a1] : List Value).toArray s 0 (6 * 0) (hyA G)) (F0 m 14 ls [.int u1, .ref (adr G 30)]) := by
    intro H locs ls u1 eu1 hP hS hl
    subst eu1
    refine hy_putI (ty := .int) (T := (Mc, M, Mo)) (T2 := (Mc, (wI M 30 0 (bI (!(Rf_isMetre a1 M)))), Mo)) (o := 30) (k := 0) hx hb hown hts hX hP hS (by decide) rfl rfl rfl rfl inX11g tyX11_ok nmX11 (by decide) q_1192 rfl rfl rfl rfl (Nat.le_of_ble_eq_true rfl) dX11_dropMetre_14 (fun H locs hP hS => ?_)
    obtain ⟨M2, hM2, h⟩ := hy_bind h
    rw [Option.some.inj hM2] at hP
    refine lv_aload_n hx hb dX11_dropMetre_17 rfl (lv_at hl 0 rfl) ?_
    refine hy_get (T := (Mc, M2, Mo)) (o := 30) (k := 0) (v := .int (M2.1 30 0)) hx hb hown hts hX hP (by decide) rfl rfl inX11g (by decide) q_1192 rfl dX11_dropMetre_18 ?_
    refine lv_if_le (tgt := 26) hx hb dX11_dropMetre_21 (by decide) (fun c3 => ?_) (fun c3 => ?_)
    · rw [if_pos c3] at h
      refine lv_aload_n hx hb dX11_dropMetre_26 rfl (lv_at hl 0 rfl) ?_
      refine lv_dup hx hb dX11_dropMetre_27 rfl ?_
      refine hy_get (T := (Mc, M2, Mo)) (o := 30) (k := 16) (v := .int (M2.1 30 16)) hx hb hown hts hX hP (by decide) rfl rfl inX11g (by decide) q_1208 rfl dX11_dropMetre_28 ?_
      refine lv_iconst (v := 1) hx hb dX11_dropMetre_31 rfl ?_
      refine lv_isub hx hb dX11_dropMetre_32 ?_
      refine hy_putI (ty := .int) (T := (Mc, M2, Mo)) (T2 := (Mc, (wI M2 30 16 ((M2.1 30 16) - 1)), Mo)) (o := 30) (k := 16) hx hb hown hts hX hP hS (by decide) rfl rfl rfl rfl inX11g tyX11_ok nmX11 (by decide) q_1208 rfl rfl rfl rfl (Nat.le_of_ble_eq_true rfl) dX11_dropMetre_33 (fun H locs hP hS => ?_)
      obtain ⟨M4, hM4, h⟩ := hy_bind h
      rw [Option.some.inj hM4] at hP
      refine lv_iload_n hx hb dX11_dropMetre_36 rfl (lv_at hl 1 rfl) ?_
      refine lv_istore_n (lv' := [(2, .int a1), (0, .ref (adr G 30)), (1, .int a1)]) hx hb dX11_dropMetre_37 rfl hl (by decide) rfl (fun ls hl => ?_)
      have L17 : ∀ (f : Nat) (x5 : Int32) (M6 : hyM) (qL : (Int32 × hyM)) (h : Rf_dropMetre_L38  f x5 M6 = some qL) (H : Heap) (locs : List Loc) (ls : Array Slot) (hP : va_P G.1 vwCl (wld G (Mc, M6, Mo)) H) (hS : va_S (hyA G) s.heap H locs) (hl : lv_has ls 4 [(0, .ref (adr G 30)), (1, .int a1), (2, .int x5)]) (kk : ∀ (y5 : Int32) (NM6 : hyM), qL = (y5, NM6) → ∀ (H : Heap) (locs : List Loc) (ls : Array Slot), va_P G.1 vwCl (wld G (Mc, NM6, Mo)) H → va_S (hyA G) s.heap H locs → lv_has ls 4 [(0, .ref (adr G 30)), (1, .int a1), (2, .int y5)] → W p l e { frames := 2, cells := 0, slots := 6 * 0, locals := 43 } s m ([.ref (adr G 30), .int a1] : List Value).toArray below meth c H locs 0 0 (vx_MQ below (hyQ G (.inr (some (.int res.1)), (Mc, res.2, Mo))) (hyXQ G (.inr (some (.int res.1)), (Mc, res.2, Mo))) ([.ref (adr G 30), .int a1] : List Value).toArray s 0 (6 * 0) (hyA G)) (F0 m 104 ls [])), W p l e { frames := 2, cells := 0, slots := 6 * 0, locals := 43 } s m ([.ref (adr G 30), .int a1] : List Value).toArray below meth c H locs 0 0 (vx_MQ below (hyQ G (.inr (some (.int res.1)), (Mc, res.2, Mo))) (hyXQ G (.inr (some (.int res.1)), (Mc, res.2, Mo))) ([.ref (adr G 30), .int a1] : List Value).toArray s 0 (6 * 0) (hyA G)) (F0 m 38 ls []) := by
        intro f
        induction f with
        | zero =>
          intro x5 M6 qL h H locs ls hP hS hl kk
          rw [Rf_dropMetre_L38] at h
          cases h
        | succ f ih =>
          intro x5 M6 qL h H locs ls hP hS hl kk
          rw [Rf_dropMetre_L38] at h
          refine lv_iload_n hx hb dX11_dropMetre_38 rfl (lv_at hl 2 rfl) ?_
          refine lv_aload_n hx hb dX11_dropMetre_39 rfl (lv_at hl 0 rfl) ?_
          refine hy_get (T := (Mc, M6, Mo)) (o := 30) (k := 16) (v := .int (M6.1 30 16)) hx hb hown hts hX hP (by decide) rfl rfl inX11g (by decide) q_1208 rfl dX11_dropMetre_40 ?_
          refine lv_icmp_ge (tgt := 104) hx hb dX11_dropMetre_43 (by decide) (fun c7 => ?_) (fun c7 => ?_)
          · rw [if_pos c7] at h
            exact kk x5 M6 (Option.some.inj h).symm _ _ ls hP hS (lv_sub hl [0, 1, 2] rfl)
          · rw [if_neg c7] at h
            refine lv_aload_n hx hb dX11_dropMetre_46 rfl (lv_at hl 0 rfl) ?_
            refine hy_get (T := (Mc, M6, Mo)) (o := 30) (k := 17) (v := .ref (adr G 40)) hx hb hown hts hX hP (by decide) rfl rfl inX11g (by decide) q_1209 rfl dX11_dropMetre_47 ?_
            refine lv_iload_n hx hb dX11_dropMetre_50 rfl (lv_at hl 2 rfl) ?_
            refine lv_aload_n hx hb dX11_dropMetre_51 rfl (lv_at hl 0 rfl) ?_
            refine hy_get (T := (Mc, M6, Mo)) (o := 30) (k := 17) (v := .ref (adr G 40)) hx hb hown hts hX hP (by decide) rfl rfl inX11g (by decide) q_1209 rfl dX11_dropMetre_52 ?_
            refine lv_iload_n hx hb dX11_dropMetre_55 rfl (lv_at hl 2 rfl) ?_
            refine lv_iconst (v := 1) hx hb dX11_dropMetre_56 rfl ?_
            refine lv_iadd hx hb dX11_dropMetre_57 ?_
            obtain ⟨v8, hv8, h⟩ := hy_bind h
            obtain ⟨nv8, hv8⟩ := ldE_some hv8
            refine hy_iald (T := (Mc, M6, Mo)) hx hb hX hP 40 8 (M6.1 40) (by decide) rfl nv8 dX11_dropMetre_58 ?_
            rw [hv8]
            obtain ⟨M9, hM9, h⟩ := hy_bind h
            obtain ⟨nM9, hM9⟩ := stE_some hM9
            refine hy_iast (T := (Mc, M6, Mo)) (T2 := (Mc, (wI M6 40 x5.toNatClampNeg v8), Mo)) hx hb hX hP hS 40 8 (by decide) (fun _ _ => rfl) nM9 rfl dX11_dropMetre_59 (fun H locs hP hS => ?_)
            rw [hM9] at hP
            refine lv_iconst (v := 0) hx hb dX11_dropMetre_60 rfl ?_
            refine lv_istore_n (lv' := [(3, .int 0), (0, .ref (adr G 30)), (1, .int a1), (2, .int x5)]) hx hb dX11_dropMetre_61 rfl hl (by decide) rfl (fun ls hl => ?_)
            have L15 : ∀ (f : Nat) (x10 : Int32) (M11 : hyM) (qL : (Int32 × hyM)) (h : Rf_dropMetre_L62 x5 f x10 M11 = some qL) (H : Heap) (locs : List Loc) (ls : Array Slot) (hP : va_P G.1 vwCl (wld G (Mc, M11, Mo)) H) (hS : va_S (hyA G) s.heap H locs) (hl : lv_has ls 4 [(0, .ref (adr G 30)), (1, .int a1), (2, .int x5), (3, .int x10)]) (kk : ∀ (y10 : Int32) (NM11 : hyM), qL = (y10, NM11) → ∀ (H : Heap) (locs : List Loc) (ls : Array Slot), va_P G.1 vwCl (wld G (Mc, NM11, Mo)) H → va_S (hyA G) s.heap H locs → lv_has ls 4 [(0, .ref (adr G 30)), (1, .int a1), (2, .int x5), (3, .int y10)] → W p l e { frames := 2, cells := 0, slots := 6 * 0, locals := 43 } s m ([.ref (adr G 30), .int a1] : List Value).toArray below meth c H locs 0 0 (vx_MQ below (hyQ G (.inr (some (.int res.1)), (Mc, res.2, Mo))) (hyXQ G (.inr (some (.int res.1)), (Mc, res.2, Mo))) ([.ref (adr G 30), .int a1] : List Value).toArray s 0 (6 * 0) (hyA G)) (F0 m 98 ls [])), W p l e { frames := 2, cells := 0, slots := 6 * 0, locals := 43 } s m ([.ref (adr G 30), .int a1] : List Value).toArray below meth c H locs 0 0 (vx_MQ below (hyQ G (.inr (some (.int res.1)), (Mc, res.2, Mo))) (hyXQ G (.inr (some (.int res.1)), (Mc, res.2, Mo))) ([.ref (adr G 30), .int a1] : List Value).toArray s 0 (6 * 0) (hyA G)) (F0 m 62 ls []) := by
              intro f
              induction f with
              | zero =>
                intro x10 M11 qL h H locs ls hP hS hl kk
                rw [Rf_dropMetre_L62] at h
                cases h
              | succ f ih =>
                intro x10 M11 qL h H locs ls hP hS hl kk
                rw [Rf_dropMetre_L62] at h
                refine lv_iload_n hx hb dX11_dropMetre_62 rfl (lv_at hl 3 rfl) ?_
                refine lv_bipush (v := 24) hx hb dX11_dropMetre_63 rfl ?_
                refine lv_icmp_ge (tgt := 98) hx hb dX11_dropMetre_65 (by decide) (fun c12 => ?_) (fun c12 => ?_)
                · rw [if_pos c12] at h
                  exact kk x10 M11 (Option.some.inj h).symm _ _ ls hP hS (lv_sub hl [0, 1, 2, 3] rfl)
                · rw [if_neg c12] at h
                  refine lv_aload_n hx hb dX11_dropMetre_68 rfl (lv_at hl 0 rfl) ?_
                  refine hy_get (T := (Mc, M11, Mo)) (o := 30) (k := 18) (v := .ref (adr G 41)) hx hb hown hts hX hP (by decide) rfl rfl inX11g (by decide) q_1210 rfl dX11_dropMetre_69 ?_
                  refine lv_bipush (v := 24) hx hb dX11_dropMetre_72 rfl ?_
                  refine lv_iload_n hx hb dX11_dropMetre_74 rfl (lv_at hl 2 rfl) ?_
                  refine lv_imul hx hb dX11_dropMetre_75 ?_
                  refine lv_iload_n hx hb dX11_dropMetre_76 rfl (lv_at hl 3 rfl) ?_
                  refine lv_iadd hx hb dX11_dropMetre_77 ?_
                  refine lv_aload_n hx hb dX11_dropMetre_78 rfl (lv_at hl 0 rfl) ?_
                  refine hy_get (T := (Mc, M11, Mo)) (o := 30) (k := 18) (v := .ref (adr G 41)) hx hb hown hts hX hP (by decide) rfl rfl inX11g (by decide) q_1210 rfl dX11_dropMetre_79 ?_
                  refine lv_bipush (v := 24) hx hb dX11_dropMetre_82 rfl ?_
                  refine lv_iload_n hx hb dX11_dropMetre_84 rfl (lv_at hl 2 rfl) ?_
                  refine lv_iconst (v := 1) hx hb dX11_dropMetre_85 rfl ?_
                  refine lv_iadd hx hb dX11_dropMetre_86 ?_
                  refine lv_imul hx hb dX11_dropMetre_87 ?_
                  refine lv_iload_n hx hb dX11_dropMetre_88 rfl (lv_at hl 3 rfl) ?_
                  refine lv_iadd hx hb dX11_dropMetre_89 ?_
                  obtain ⟨v13, hv13, h⟩ := hy_bind h
                  obtain ⟨nv13, hv13⟩ := ldE_some hv13
                  refine hy_iald (T := (Mc, M11, Mo)) hx hb hX hP 41 192 (M11.1 41) (by decide) rfl nv13 dX11_dropMetre_90 ?_
                  rw [hv13]
                  obtain ⟨M14, hM14, h⟩ := hy_bind h
                  obtain ⟨nM14, hM14⟩ := stE_some hM14
                  refine hy_iast (T := (Mc, M11, Mo)) (T2 := (Mc, (wI M11 41 ((24 * x5) + x10).toNatClampNeg v13), Mo)) hx hb hX hP hS 41 192 (by decide) (fun _ _ => rfl) nM14 rfl dX11_dropMetre_91 (fun H locs hP hS => ?_)
                  rw [hM14] at hP
                  refine lv_iinc (v := (x10 + 1)) (lv' := [(3, .int (x10 + 1)), (0, .ref (adr G 30)), (1, .int a1), (2, .int x5)]) hx hb dX11_dropMetre_92 hl (k := 3) rfl rfl (by decide) rfl (fun ls hl => ?_)
                  refine lv_goto (tgt := 62) hx hb dX11_dropMetre_95 (by decide) ?_
                  exact ih (x10 + 1) M14 _ h  _ _ ls hP hS (lv_sub hl [1, 2, 3, 0] rfl) kk
            obtain ⟨q16, hq16, h⟩ := hy_bind h
            refine L15 hyFu 0 M9 q16 hq16 _ _ ls hP hS (lv_sub hl [1, 2, 3, 0] rfl) ?_
            intro y10 NM11 e9 H locs ls hP hS hl
            subst e9
            try dsimp only at h
            refine lv_iinc (v := (x5 + 1)) (lv' := [(2, .int (x5 + 1)), (0, .ref (adr G 30)), (1, .int a1), (3, .int y10)]) hx hb dX11_dropMetre_98 hl (k := 2) rfl rfl (by decide) rfl (fun ls hl => ?_)
            refine lv_goto (tgt := 38) hx hb dX11_dropMetre_101 (by decide) ?_
            exact ih (x5 + 1) NM11 _ h  _ _ ls hP hS (lv_sub hl [1, 2, 0] rfl) kk
      obtain ⟨q18, hq18, h⟩ := hy_bind h
      refine L17 hyFu a1 M4 q18 hq18 _ _ ls hP hS (lv_sub hl [1, 2, 0] rfl) ?_
      intro y5 NM6 e9 H locs ls hP hS hl
      subst e9
      try dsimp only at h
      refine lv_aload_n hx hb dX11_dropMetre_104 rfl (lv_at hl 0 rfl) ?_
      refine hy_get (T := (Mc, NM6, Mo)) (o := 30) (k := 16) (v := .int (NM6.1 30 16)) hx hb hown hts hX hP (by decide) rfl rfl inX11g (by decide) q_1208 rfl dX11_dropMetre_105 ?_
      exact hy_iret (T := (Mc, NM6, Mo)) hx hb hr hlocks hP hS (Nat.zero_le _) (Nat.zero_le _) (by rw [← (Option.some.inj h)] <;> rfl) dX11_dropMetre_108
    · rw [if_neg c3] at h
      refine lv_iconst (v := 0) hx hb dX11_dropMetre_24 rfl ?_
      exact hy_iret (T := (Mc, M2, Mo)) hx hb hr hlocks hP hS (Nat.zero_le _) (Nat.zero_le _) (by rw [← (Option.some.inj h)] <;> rfl) dX11_dropMetre_25
  refine lv_if_eq (tgt := 13) hx hb dX11_dropMetre_6 (by decide) (fun c1 => ?_) (fun c1 => ?_)
  · refine lv_iconst (v := 1) hx hb dX11_dropMetre_13 rfl ?_
    exact J19 _ _ ls 1 (by rw [(bI_z c1)] <;> rfl) hP hS (lv_sub hl [0, 1] rfl)
  · refine lv_iconst (v := 0) hx hb dX11_dropMetre_9 rfl ?_
    refine lv_goto (tgt := 14) hx hb dX11_dropMetre_10 (by decide) ?_
    exact J19 _ _ ls 0 (by rw [(bI_1 c1)] <;> rfl) hP hS (lv_sub hl [0, 1] rfl)
