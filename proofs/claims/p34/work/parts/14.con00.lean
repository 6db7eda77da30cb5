set_option maxHeartbeats 1000000 in
set_option maxRecDepth 100000 in
theorem c_Ba_change {l : Launch} {G : hyG} (Mr Mo : hyM) (a1 : Int32) (a2 : Int32) (M : hyM) {res : hyM} (h : Ba_change a1 a2 M = res) : hyC l yX0_change (.code yX0_change cX0_change 3 none) 0 0 (0) G [.ref (adr G 4), .int a1, .int a2] (M, Mr, Mo) (.inr none, (res, Mr, Mo)) := by
  refine hy_of (by decide +kernel) (Nat.le_of_ble_eq_true rfl) ?_
  intro p e s m below meth c hx hb hml hown hts hr hlocks ht hX hP hS ls hl
  have hl : lv_has ls 3 [(0, .ref (adr G 4)), (1, .int a1), (2, .int a2)] := hl
  rw [Ba_change] at h
  refine lv_aload_n hx hb dX0_change_0 rfl (lv_at hl 0 rfl) ?_
  refine lv_iload_n hx hb dX0_change_1 rfl (lv_at hl 1 rfl) ?_
  refine hy_putI (ty := .int) (T := (M, Mr, Mo)) (T2 := ((wI M 4 0 a1), Mr, Mo)) (o := 4) (k := 0) hx hb hown hts hX hP hS (by decide) rfl rfl rfl rfl inX0g tyX0_ok nmX0 (by decide) q_149 rfl rfl rfl rfl (Nat.le_of_ble_eq_true rfl) dX0_change_2 (fun H locs hP hS => ?_)
  refine lv_aload_n hx hb dX0_change_5 rfl (lv_at hl 0 rfl) ?_
  refine lv_iload_n hx hb dX0_change_6 rfl (lv_at hl 2 rfl) ?_
  refine hy_putI (ty := .int) (T := ((wI M 4 0 a1), Mr, Mo)) (T2 := ((wI (wI M 4 0 a1) 4 1 a2), Mr, Mo)) (o := 4) (k := 1) hx hb hown hts hX hP hS (by decide) rfl rfl rfl rfl inX0g tyX0_ok nmX0 (by decide) q_151 rfl rfl rfl rfl (Nat.le_of_ble_eq_true rfl) dX0_change_7 (fun H locs hP hS => ?_)
  exact hy_vret (T := ((wI (wI M 4 0 a1) 4 1 a2), Mr, Mo)) hx hb hr hlocks hP hS (Nat.zero_le _) (Nat.zero_le _) (by rw [← h] <;> rfl) dX0_change_10
set_option maxHeartbeats 1000000 in
set_option maxRecDepth 100000 in
theorem c_Ba_numberAt {l : Launch} {G : hyG} (Mr Mo : hyM) (a1 : Int32) (M : hyM) {res : Int32} (h : Ba_numberAt a1 M = some res) : hyC l yX0_numberAt (.code yX0_numberAt cX0_numberAt 2 (some .int)) 0 0 (0) G [.ref (adr G 4), .int a1] (M, Mr, Mo) (.inr (some (.int res)), (M, Mr, Mo)) := by
  refine hy_of (by decide +kernel) (Nat.le_of_ble_eq_true rfl) ?_
  intro p e s m below meth c hx hb hml hown hts hr hlocks ht hX hP hS ls hl
  have hl : lv_has ls 2 [(0, .ref (adr G 4)), (1, .int a1)] := hl
  rw [Ba_numberAt] at h
  refine lv_iload_n hx hb dX0_numberAt_0 rfl (lv_at hl 1 rfl) ?_
  refine lv_aload_n hx hb dX0_numberAt_1 rfl (lv_at hl 0 rfl) ?_
  refine hy_get (T := (M, Mr, Mo)) (o := 4) (k := 1) (v := .int (M.1 4 1)) hx hb hown hts hX hP (by decide) rfl rfl inX0g (by decide) q_151 rfl dX0_numberAt_2 ?_
  have K4 : ∀ (H : Heap) (locs : List Loc), (if a1 < (M.1 4 1) then true else (!decide (0 < (M.1 4 0)))) = true → va_P G.1 vwCl (wld G (M, Mr, Mo)) H → va_S (hyA G) s.heap H locs → W p l e { frames := 0, cells := 0, slots := 6 * 0, locals := 0 } s m ([.ref (adr G 4), .int a1] : List Value).toArray below meth c H locs 0 0 (vx_MQ below (hyQ G (.inr (some (.int res)), (M, Mr, Mo))) (hyXQ G (.inr (some (.int res)), (M, Mr, Mo))) ([.ref (adr G 4), .int a1] : List Value).toArray s 0 (6 * 0) (hyA G)) (F0 m 15 ls []) := by
    intro H locs cb hP hS
    rw [if_pos cb] at h
    refine lv_iconst (v := 0) hx hb dX0_numberAt_15 rfl ?_
    exact hy_iret (T := (M, Mr, Mo)) hx hb hr hlocks hP hS (Nat.zero_le _) (Nat.zero_le _) (by rw [← (Option.some.inj h)] <;> rfl) dX0_numberAt_16
  have K5 : ∀ (H : Heap) (locs : List Loc), ¬ (if a1 < (M.1 4 1) then true else (!decide (0 < (M.1 4 0)))) = true → va_P G.1 vwCl (wld G (M, Mr, Mo)) H → va_S (hyA G) s.heap H locs → W p l e { frames := 0, cells := 0, slots := 6 * 0, locals := 0 } s m ([.ref (adr G 4), .int a1] : List Value).toArray below meth c H locs 0 0 (vx_MQ below (hyQ G (.inr (some (.int res)), (M, Mr, Mo))) (hyXQ G (.inr (some (.int res)), (M, Mr, Mo))) ([.ref (adr G 4), .int a1] : List Value).toArray s 0 (6 * 0) (hyA G)) (F0 m 17 ls []) := by
    intro H locs cb hP hS
    rw [if_neg cb] at h
    refine lv_iconst (v := 1) hx hb dX0_numberAt_17 rfl ?_
    refine lv_iload_n hx hb dX0_numberAt_18 rfl (lv_at hl 1 rfl) ?_
    refine lv_aload_n hx hb dX0_numberAt_19 rfl (lv_at hl 0 rfl) ?_
    refine hy_get (T := (M, Mr, Mo)) (o := 4) (k := 1) (v := .int (M.1 4 1)) hx hb hown hts hX hP (by decide) rfl rfl inX0g (by decide) q_151 rfl dX0_numberAt_20 ?_
    refine lv_isub hx hb dX0_numberAt_23 ?_
    refine lv_aload_n hx hb dX0_numberAt_24 rfl (lv_at hl 0 rfl) ?_
    refine hy_get (T := (M, Mr, Mo)) (o := 4) (k := 0) (v := .int (M.1 4 0)) hx hb hown hts hX hP (by decide) rfl rfl inX0g (by decide) q_149 rfl dX0_numberAt_25 ?_
    obtain ⟨v3, hv3, h⟩ := hy_bind h
    obtain ⟨nv3, hv3⟩ := jdv_some hv3
    refine lv_idiv hx hb dX0_numberAt_28 nv3 ?_
    rw [hv3]
    refine lv_iadd hx hb dX0_numberAt_29 ?_
    exact hy_iret (T := (M, Mr, Mo)) hx hb hr hlocks hP hS (Nat.zero_le _) (Nat.zero_le _) (by rw [← (Option.some.inj h)] <;> rfl) dX0_numberAt_30
  refine lv_icmp_lt (tgt := 15) hx hb dX0_numberAt_5 (by decide) (fun c1 => ?_) (fun c1 => ?_)
  · exact K4 _ _ (by rw [if_pos c1] <;> first | rfl | decide) hP hS
  · refine lv_aload_n hx hb dX0_numberAt_8 rfl (lv_at hl 0 rfl) ?_
    refine hy_get (T := (M, Mr, Mo)) (o := 4) (k := 0) (v := .int (M.1 4 0)) hx hb hown hts hX hP (by decide) rfl rfl inX0g (by decide) q_149 rfl dX0_numberAt_9 ?_
    refine lv_if_gt (tgt := 17) hx hb dX0_numberAt_12 (by decide) (fun c2 => ?_) (fun c2 => ?_)
    · exact K5 _ _ (by rw [if_neg c1, decide_eq_true c2] <;> first | rfl | decide) hP hS
    · exact K4 _ _ (by rw [if_neg c1, decide_eq_false c2] <;> first | rfl | decide) hP hS
set_option maxHeartbeats 1000000 in
set_option maxRecDepth 100000 in
theorem c_Ba_unitsBefore {l : Launch} {G : hyG} (Mr Mo : hyM) (a1 : Int32) (M : hyM) {res : Int32} (h : Ba_unitsBefore a1 M = some res) : hyC l yX0_unitsBefore (.code yX0_unitsBefore cX0_unitsBefore 2 (some .int)) 0 0 (0) G [.ref (adr G 4), .int a1] (M, Mr, Mo) (.inr (some (.int res)), (M, Mr, Mo)) := by
  refine hy_of (by decide +kernel) (Nat.le_of_ble_eq_true rfl) ?_
  intro p e s m below meth c hx hb hml hown hts hr hlocks ht hX hP hS ls hl
  have hl : lv_has ls 2 [(0, .ref (adr G 4)), (1, .int a1)] := hl
  rw [Ba_unitsBefore] at h
  refine lv_iload_n hx hb dX0_unitsBefore_0 rfl (lv_at hl 1 rfl) ?_
  refine lv_aload_n hx hb dX0_unitsBefore_1 rfl (lv_at hl 0 rfl) ?_
  refine hy_get (T := (M, Mr, Mo)) (o := 4) (k := 1) (v := .int (M.1 4 1)) hx hb hown hts hX hP (by decide) rfl rfl inX0g (by decide) q_151 rfl dX0_unitsBefore_2 ?_
  have K4 : ∀ (H : Heap) (locs : List Loc), (if a1 < (M.1 4 1) then true else (!decide (0 < (M.1 4 0)))) = true → va_P G.1 vwCl (wld G (M, Mr, Mo)) H → va_S (hyA G) s.heap H locs → W p l e { frames := 0, cells := 0, slots := 6 * 0, locals := 0 } s m ([.ref (adr G 4), .int a1] : List Value).toArray below meth c H locs 0 0 (vx_MQ below (hyQ G (.inr (some (.int res)), (M, Mr, Mo))) (hyXQ G (.inr (some (.int res)), (M, Mr, Mo))) ([.ref (adr G 4), .int a1] : List Value).toArray s 0 (6 * 0) (hyA G)) (F0 m 15 ls []) := by
    intro H locs cb hP hS
    rw [if_pos cb] at h
    refine lv_iload_n hx hb dX0_unitsBefore_15 rfl (lv_at hl 1 rfl) ?_
    exact hy_iret (T := (M, Mr, Mo)) hx hb hr hlocks hP hS (Nat.zero_le _) (Nat.zero_le _) (by rw [← (Option.some.inj h)] <;> rfl) dX0_unitsBefore_16
  have K5 : ∀ (H : Heap) (locs : List Loc), ¬ (if a1 < (M.1 4 1) then true else (!decide (0 < (M.1 4 0)))) = true → va_P G.1 vwCl (wld G (M, Mr, Mo)) H → va_S (hyA G) s.heap H locs → W p l e { frames := 0, cells := 0, slots := 6 * 0, locals := 0 } s m ([.ref (adr G 4), .int a1] : List Value).toArray below meth c H locs 0 0 (vx_MQ below (hyQ G (.inr (some (.int res)), (M, Mr, Mo))) (hyXQ G (.inr (some (.int res)), (M, Mr, Mo))) ([.ref (adr G 4), .int a1] : List Value).toArray s 0 (6 * 0) (hyA G)) (F0 m 17 ls []) := by
    intro H locs cb hP hS
    rw [if_neg cb] at h
    refine lv_iload_n hx hb dX0_unitsBefore_17 rfl (lv_at hl 1 rfl) ?_
    refine lv_aload_n hx hb dX0_unitsBefore_18 rfl (lv_at hl 0 rfl) ?_
    refine hy_get (T := (M, Mr, Mo)) (o := 4) (k := 1) (v := .int (M.1 4 1)) hx hb hown hts hX hP (by decide) rfl rfl inX0g (by decide) q_151 rfl dX0_unitsBefore_19 ?_
    refine lv_isub hx hb dX0_unitsBefore_22 ?_
    refine lv_aload_n hx hb dX0_unitsBefore_23 rfl (lv_at hl 0 rfl) ?_
    refine hy_get (T := (M, Mr, Mo)) (o := 4) (k := 0) (v := .int (M.1 4 0)) hx hb hown hts hX hP (by decide) rfl rfl inX0g (by decide) q_149 rfl dX0_unitsBefore_24 ?_
    obtain ⟨v3, hv3, h⟩ := hy_bind h
    obtain ⟨nv3, hv3⟩ := jrm_some hv3
    refine lv_irem hx hb dX0_unitsBefore_27 nv3 ?_
    rw [hv3]
    exact hy_iret (T := (M, Mr, Mo)) hx hb hr hlocks hP hS (Nat.zero_le _) (Nat.zero_le _) (by rw [← (Option.some.inj h)] <;> rfl) dX0_unitsBefore_28
  refine lv_icmp_lt (tgt := 15) hx hb dX0_unitsBefore_5 (by decide) (fun c1 => ?_) (fun c1 => ?_)
  · exact K4 _ _ (by rw [if_pos c1] <;> first | rfl | decide) hP hS
  · refine lv_aload_n hx hb dX0_unitsBefore_8 rfl (lv_at hl 0 rfl) ?_
    refine hy_get (T := (M, Mr, Mo)) (o := 4) (k := 0) (v := .int (M.1 4 0)) hx hb hown hts hX hP (by decide) rfl rfl inX0g (by decide) q_149 rfl dX0_unitsBefore_9 ?_
    refine lv_if_gt (tgt := 17) hx hb dX0_unitsBefore_12 (by decide) (fun c2 => ?_) (fun c2 => ?_)
    · exact K5 _ _ (by rw [if_neg c1, decide_eq_true c2] <;> first | rfl | decide) hP hS
    · exact K4 _ _ (by rw [if_neg c1, decide_eq_false c2] <;> first | rfl | decide) hP hS
set_option maxHeartbeats 1000000 in
set_option maxRecDepth 100000 in
theorem c_Ba_unitsFrom {l : Launch} {G : hyG} (Mr Mo : hyM) (a1 : Int32) (M : hyM) {res : Int32} (h : Ba_unitsFrom a1 M = some res) : hyC l yX0_unitsFrom (.code yX0_unitsFrom cX0_unitsFrom 2 (some .int)) 1 21 (0) G [.ref (adr G 4), .int a1] (M, Mr, Mo) (.inr (some (.int res)), (M, Mr, Mo)) := by
  refine hy_of (by decide +kernel) (Nat.le_of_ble_eq_true rfl) ?_
  intro p e s m below meth c hx hb hml hown hts hr hlocks ht hX hP hS ls hl
  have hl : lv_has ls 2 [(0, .ref (adr G 4)), (1, .int a1)] := hl
  rw [Ba_unitsFrom] at h
  refine lv_iload_n hx hb dX0_unitsFrom_0 rfl (lv_at hl 1 rfl) ?_
  refine lv_aload_n hx hb dX0_unitsFrom_1 rfl (lv_at hl 0 rfl) ?_
  refine hy_get (T := (M, Mr, Mo)) (o := 4) (k := 1) (v := .int (M.1 4 1)) hx hb hown hts hX hP (by decide) rfl rfl inX0g (by decide) q_151 rfl dX0_unitsFrom_2 ?_
  have J3 : ∀ (H : Heap) (locs : List Loc) (ls : Array Slot) (u1 : Int32), u1 = (if (M.1 4 1) ≤ a1 then (M.1 4 0) else (M.1 4 1)) → va_P G.1 vwCl (wld G (M, Mr, Mo)) H → va_S (hyA G) s.heap H locs → lv_has ls 2 [(0, .ref (adr G 4)), (1, .int a1)] → W p l e { frames := 1, cells := 0, slots := 6 * 0, locals := 21 } s m ([.ref (adr G 4), .int a1] : List Value).toArray below meth c H locs 0 0 (vx_MQ below (hyQ G (.inr (some (.int res)), (M, Mr, Mo))) (hyXQ G (.inr (some (.int res)), (M, Mr, Mo))) ([.ref (adr G 4), .int a1] : List Value).toArray s 0 (6 * 0) (hyA G)) (F0 m 19 ls [.int u1]) := by
    intro H locs ls u1 eu1 hP hS hl
    subst eu1
    refine lv_aload_n hx hb dX0_unitsFrom_19 rfl (lv_at hl 0 rfl) ?_
    refine lv_iload_n hx hb dX0_unitsFrom_20 rfl (lv_at hl 1 rfl) ?_
    obtain ⟨v2, hv2, h⟩ := hy_bind h
    refine hy_ret (hy_rV0 (T := (M, Mr, Mo)) (v := some (.int v2)) (T2 := (M, Mr, Mo)) (As := [.int a1]) (rest := [.int (if (M.1 4 1) ≤ a1 then (M.1 4 0) else (M.1 4 1))]) (n := 0) hx hb hml hown hts hX hP hS hl (c_Ba_unitsBefore Mr Mo a1 M hv2) m_Ba_unitsBefore q_708 (hy_recv hX hP 4 0 (by decide) rfl rfl) rfl rfl (Nat.le_of_ble_eq_true rfl) dX0_unitsFrom_21 ⟨Nat.le_of_ble_eq_true rfl, Nat.le_of_ble_eq_true rfl⟩ ⟨Nat.zero_le _, Nat.zero_le _⟩) hS (fun H locs hP hS => ?_)
    refine lv_isub hx hb dX0_unitsFrom_24 ?_
    exact hy_iret (T := (M, Mr, Mo)) hx hb hr hlocks hP hS (Nat.zero_le _) (Nat.zero_le _) (by rw [← (Option.some.inj h)] <;> rfl) dX0_unitsFrom_25
  refine lv_icmp_ge (tgt := 15) hx hb dX0_unitsFrom_5 (by decide) (fun c1 => ?_) (fun c1 => ?_)
  · refine lv_aload_n hx hb dX0_unitsFrom_15 rfl (lv_at hl 0 rfl) ?_
    refine hy_get (T := (M, Mr, Mo)) (o := 4) (k := 0) (v := .int (M.1 4 0)) hx hb hown hts hX hP (by decide) rfl rfl inX0g (by decide) q_149 rfl dX0_unitsFrom_16 ?_
    exact J3 _ _ ls (M.1 4 0) (by rw [if_pos c1] <;> rfl) hP hS (lv_sub hl [0, 1] rfl)
  · refine lv_aload_n hx hb dX0_unitsFrom_8 rfl (lv_at hl 0 rfl) ?_
    refine hy_get (T := (M, Mr, Mo)) (o := 4) (k := 1) (v := .int (M.1 4 1)) hx hb hown hts hX hP (by decide) rfl rfl inX0g (by decide) q_151 rfl dX0_unitsFrom_9 ?_
    refine lv_goto (tgt := 19) hx hb dX0_unitsFrom_12 (by decide) ?_
    exact J3 _ _ ls (M.1 4 1) (by rw [if_neg c1] <;> rfl) hP hS (lv_sub hl [0, 1] rfl)
set_option maxHeartbeats 1000000 in
set_option maxRecDepth 100000 in
theorem c_Ba_divide {l : Launch} {G : hyG} (Mr Mo : hyM) (a1 : Int32) (M : hyM) {res : Bool} (h : Ba_divide a1 M = some res) : hyC l yX0_divide (.code yX0_divide cX0_divide 2 (some .boolean)) 0 0 (0) G [.ref (adr G 4), .int a1] (M, Mr, Mo) (.inr (some (.int (bI res))), (M, Mr, Mo)) := by
  refine hy_of (by decide +kernel) (Nat.le_of_ble_eq_true rfl) ?_
  intro p e s m below meth c hx hb hml hown hts hr hlocks ht hX hP hS ls hl
  have hl : lv_has ls 2 [(0, .ref (adr G 4)), (1, .int a1)] := hl
  rw [Ba_divide] at h
  refine lv_aload_n hx hb dX0_divide_0 rfl (lv_at hl 0 rfl) ?_
  refine hy_get (T := (M, Mr, Mo)) (o := 4) (k := 0) (v := .int (M.1 4 0)) hx hb hown hts hX hP (by decide) rfl rfl inX0g (by decide) q_149 rfl dX0_divide_1 ?_
  refine lv_if_le (tgt := 20) hx hb dX0_divide_4 (by decide) (fun c1 => ?_) (fun c1 => ?_)
  · rw [if_pos c1] at h
    refine lv_iconst (v := 0) hx hb dX0_divide_20 rfl ?_
    exact hy_zret (T := (M, Mr, Mo)) hx hb hr hlocks hP hS (Nat.zero_le _) (Nat.zero_le _) (bI_nar false) (by rw [← (Option.some.inj h)] <;> rfl) dX0_divide_21
  · rw [if_neg c1] at h
    refine lv_iload_n hx hb dX0_divide_7 rfl (lv_at hl 1 rfl) ?_
    refine lv_aload_n hx hb dX0_divide_8 rfl (lv_at hl 0 rfl) ?_
    refine hy_get (T := (M, Mr, Mo)) (o := 4) (k := 0) (v := .int (M.1 4 0)) hx hb hown hts hX hP (by decide) rfl rfl inX0g (by decide) q_149 rfl dX0_divide_9 ?_
    obtain ⟨v2, hv2, h⟩ := hy_bind h
    obtain ⟨nv2, hv2⟩ := jrm_some hv2
    refine lv_irem hx hb dX0_divide_12 nv2 ?_
    rw [hv2]
    have J4 : ∀ (H : Heap) (locs : List Loc) (ls : Array Slot) (u1 : Int32), u1 = (bI (decide (v2 = 0))) → va_P G.1 vwCl (wld G (M, Mr, Mo)) H → va_S (hyA G) s.heap H locs → lv_has ls 2 [(0, .ref (adr G 4)), (1, .int a1)] → W p l e { frames := 0, cells := 0, slots := 6 * 0, locals := 0 } s m ([.ref (adr G 4), .int a1] : List Value).toArray below meth c H locs 0 0 (vx_MQ below (hyQ G (.inr (some (.int (bI res))), (M, Mr, Mo))) (hyXQ G (.inr (some (.int (bI res))), (M, Mr, Mo))) ([.ref (adr G 4), .int a1] : List Value).toArray s 0 (6 * 0) (hyA G)) (F0 m 21 ls [.int u1]) := by
      intro H locs ls u1 eu1 hP hS hl
      subst eu1
      exact hy_zret (T := (M, Mr, Mo)) hx hb hr hlocks hP hS (Nat.zero_le _) (Nat.zero_le _) (bI_nar (decide (v2 = 0))) (by rw [← (Option.some.inj h)] <;> rfl) dX0_divide_21
    refine lv_if_ne (tgt := 20) hx hb dX0_divide_13 (by decide) (fun c3 => ?_) (fun c3 => ?_)
    · refine lv_iconst (v := 0) hx hb dX0_divide_20 rfl ?_
      exact J4 _ _ ls 0 (by rw [decide_eq_false c3] <;> rfl) hP hS (lv_sub hl [0, 1] rfl)
    · refine lv_iconst (v := 1) hx hb dX0_divide_16 rfl ?_
      refine lv_goto (tgt := 21) hx hb dX0_divide_17 (by decide) ?_
      exact J4 _ _ ls 1 (by rw [decide_eq_true c3] <;> rfl) hP hS (lv_sub hl [0, 1] rfl)
set_option maxHeartbeats 1000000 in
set_option maxRecDepth 100000 in
theorem c_In_codeAt {l : Launch} {G : hyG} (Mr Mo : hyM) (a1 : Int32) (M : hyM) {res : Int32} (h : In_codeAt a1 M = res) : hyC l yX3_codeAt (.code yX3_codeAt cX3_codeAt 2 (some .int)) 1 21 (0) G [.ref (adr G 28), .int a1] (M, Mr, Mo) (.inr (some (.int res)), (M, Mr, Mo)) := by
  refine hy_of (by decide +kernel) (Nat.le_of_ble_eq_true rfl) ?_
  intro p e s m below meth c hx hb hml hown hts hr hlocks ht hX hP hS ls hl
  have hl : lv_has ls 2 [(0, .ref (adr G 28)), (1, .int a1)] := hl
  rw [In_codeAt] at h
  refine lv_aload_n hx hb dX3_codeAt_0 rfl (lv_at hl 0 rfl) ?_
  refine hy_get (T := (M, Mr, Mo)) (o := 28) (k := 0) (v := .ref (adr G 29)) hx hb hown hts hX hP (by decide) rfl rfl inX3g (by decide) q_283 rfl dX3_codeAt_1 ?_
  refine lv_iload_n hx hb dX3_codeAt_4 rfl (lv_at hl 1 rfl) ?_
  refine hy_ret (hy_rSN (T := (M, Mr, Mo)) (v := some (.int (atf 60 (M.1 29) a1))) (T2 := (M, Mr, Mo)) (As := [.ref (adr G 29), .int a1]) (rest := []) (n := 0) hx hb hml hown hts hX hP hS hl (c_at 29 60 (hy34 G (by decide)) (by decide) (fun _ _ => rfl) a1 (M, Mr, Mo)) m_Hp_at q_916 rfl rfl (Nat.le_of_ble_eq_true rfl) dX3_codeAt_5 ⟨Nat.le_of_ble_eq_true rfl, Nat.le_of_ble_eq_true rfl⟩ ⟨Nat.zero_le _, Nat.zero_le _⟩) hS (fun H locs hP hS => ?_)
  exact hy_iret (T := (M, Mr, Mo)) hx hb hr hlocks hP hS (Nat.zero_le _) (Nat.zero_le _) (by rw [← h] <;> rfl) dX3_codeAt_8
set_option maxHeartbeats 1000000 in
set_option maxRecDepth 100000 in
theorem c_In_isDigit {l : Launch} {G : hyG} (Mr Mo : hyM) (a1 : Int32) (M : hyM) {res : Bool} (h : In_isDigit a1 M = res) : hyC l yX3_isDigit (.code yX3_isDigit cX3_isDigit 1 (some .boolean)) 0 0 (0) G [.int a1] (M, Mr, Mo) (.inr (some (.int (bI res))), (M, Mr, Mo)) := by
  refine hy_of (by decide +kernel) (Nat.le_of_ble_eq_true rfl) ?_
  intro p e s m below meth c hx hb hml hown hts hr hlocks ht hX hP hS ls hl
  have hl : lv_has ls 1 [(0, .int a1)] := hl
  rw [In_isDigit] at h
  refine lv_iload_n hx hb dX3_isDigit_0 rfl (lv_at hl 0 rfl) ?_
  refine lv_bipush (v := 48) hx hb dX3_isDigit_1 rfl ?_
  have J3 : ∀ (H : Heap) (locs : List Loc) (ls : Array Slot) (u1 : Int32), u1 = (bI (if a1 < 48 then false else (!decide (57 < a1)))) → va_P G.1 vwCl (wld G (M, Mr, Mo)) H → va_S (hyA G) s.heap H locs → lv_has ls 1 [(0, .int a1)] → W p l e { frames := 0, cells := 0, slots := 6 * 0, locals := 0 } s m ([.int a1] : List Value).toArray below meth c H locs 0 0 (vx_MQ below (hyQ G (.inr (some (.int (bI res))), (M, Mr, Mo))) (hyXQ G (.inr (some (.int (bI res))), (M, Mr, Mo))) ([.int a1] : List Value).toArray s 0 (6 * 0) (hyA G)) (F0 m 17 ls [.int u1]) := by
    intro H locs ls u1 eu1 hP hS hl
    subst eu1
    exact hy_zret (T := (M, Mr, Mo)) hx hb hr hlocks hP hS (Nat.zero_le _) (Nat.zero_le _) (bI_nar (if a1 < 48 then false else (!decide (57 < a1)))) (by rw [← h] <;> rfl) dX3_isDigit_17
  refine lv_icmp_lt (tgt := 16) hx hb dX3_isDigit_3 (by decide) (fun c1 => ?_) (fun c1 => ?_)
  · refine lv_iconst (v := 0) hx hb dX3_isDigit_16 rfl ?_
    exact J3 _ _ ls 0 (by rw [if_pos c1] <;> rfl) hP hS (lv_sub hl [0] rfl)
  · refine lv_iload_n hx hb dX3_isDigit_6 rfl (lv_at hl 0 rfl) ?_
    refine lv_bipush (v := 57) hx hb dX3_isDigit_7 rfl ?_
    refine lv_icmp_gt (tgt := 16) hx hb dX3_isDigit_9 (by decide) (fun c2 => ?_) (fun c2 => ?_)
    · refine lv_iconst (v := 0) hx hb dX3_isDigit_16 rfl ?_
      exact J3 _ _ ls 0 (by rw [if_neg c1, decide_eq_true c2] <;> rfl) hP hS (lv_sub hl [0] rfl)
    · refine lv_iconst (v := 1) hx hb dX3_isDigit_12 rfl ?_
      refine lv_goto (tgt := 17) hx hb dX3_isDigit_13 (by decide) ?_
      exact J3 _ _ ls 1 (by rw [if_neg c1, decide_eq_false c2] <;> rfl) hP hS (lv_sub hl [0] rfl)
set_option maxHeartbeats 1000000 in
set_option maxRecDepth 100000 in
theorem c_Bo_sizeOf {l : Launch} {G : hyG} (Mr Mo : hyM) (a1 : Int32) (M : hyM) {res : Int32} (h : Bo_sizeOf a1 M = res) : hyC l yX1_sizeOf (.code yX1_sizeOf cX1_sizeOf 2 (some .int)) 1 21 (0) G [.ref (adr G 25), .int a1] (M, Mr, Mo) (.inr (some (.int res)), (M, Mr, Mo)) := by
  refine hy_of (by decide +kernel) (Nat.le_of_ble_eq_true rfl) ?_
  intro p e s m below meth c hx hb hml hown hts hr hlocks ht hX hP hS ls hl
  have hl : lv_has ls 2 [(0, .ref (adr G 25)), (1, .int a1)] := hl
  rw [Bo_sizeOf] at h
  refine lv_aload_n hx hb dX1_sizeOf_0 rfl (lv_at hl 0 rfl) ?_
  refine hy_get (T := (M, Mr, Mo)) (o := 25) (k := 1) (v := .ref (adr G 27)) hx hb hown hts hX hP (by decide) rfl rfl inX1g (by decide) q_267 rfl dX1_sizeOf_1 ?_
  refine lv_iload_n hx hb dX1_sizeOf_4 rfl (lv_at hl 1 rfl) ?_
  refine hy_ret (hy_rSN (T := (M, Mr, Mo)) (v := some (.int (atf 8 (M.1 27) a1))) (T2 := (M, Mr, Mo)) (As := [.ref (adr G 27), .int a1]) (rest := []) (n := 0) hx hb hml hown hts hX hP hS hl (c_at 27 8 (hy34 G (by decide)) (by decide) (fun _ _ => rfl) a1 (M, Mr, Mo)) m_Hp_at q_564 rfl rfl (Nat.le_of_ble_eq_true rfl) dX1_sizeOf_5 ⟨Nat.le_of_ble_eq_true rfl, Nat.le_of_ble_eq_true rfl⟩ ⟨Nat.zero_le _, Nat.zero_le _⟩) hS (fun H locs hP hS => ?_)
  exact hy_iret (T := (M, Mr, Mo)) hx hb hr hlocks hP hS (Nat.zero_le _) (Nat.zero_le _) (by rw [← h] <;> rfl) dX1_sizeOf_8
set_option maxHeartbeats 1000000 in
set_option maxRecDepth 100000 in
theorem c_Bo_push {l : Launch} {G : hyG} (Mr Mo : hyM) (a1 : Int32) (M : hyM) {res : hyM} (h : Bo_push a1 M = res) : hyC l yX1_push (.code yX1_push cX1_push 3 none) 2 42 (0) G [.ref (adr G 25), .int a1] (M, Mr, Mo) (.inr none, (res, Mr, Mo)) := by
  refine hy_of (by decide +kernel) (Nat.le_of_ble_eq_true rfl) ?_
  intro p e s m below meth c hx hb hml hown hts hr hlocks ht hX hP hS ls hl
  have hl : lv_has ls 3 [(0, .ref (adr G 25)), (1, .int a1)] := hl
  rw [Bo_push] at h
  refine lv_aload_n hx hb dX1_push_0 rfl (lv_at hl 0 rfl) ?_
  refine lv_aload_n hx hb dX1_push_1 rfl (lv_at hl 0 rfl) ?_
  refine hy_get (T := (M, Mr, Mo)) (o := 25) (k := 2) (v := .int (M.1 25 2)) hx hb hown hts hX hP (by decide) rfl rfl inX1g (by decide) q_268 rfl dX1_push_2 ?_
  refine hy_ret (hy_rV0 (T := (M, Mr, Mo)) (v := some (.int (Bo_sizeOf (M.1 25 2) M))) (T2 := (M, Mr, Mo)) (As := [.int (M.1 25 2)]) (rest := []) (n := 0) hx hb hml hown hts hX hP hS hl (c_Bo_sizeOf Mr Mo (M.1 25 2) M rfl) m_Bo_sizeOf q_956 (hy_recv hX hP 25 1 (by decide) rfl rfl) rfl rfl (Nat.le_of_ble_eq_true rfl) dX1_push_5 ⟨Nat.le_of_ble_eq_true rfl, Nat.le_of_ble_eq_true rfl⟩ ⟨Nat.zero_le _, Nat.zero_le _⟩) hS (fun H locs hP hS => ?_)
  refine lv_istore_n (lv' := [(2, .int (Bo_sizeOf (M.1 25 2) M)), (0, .ref (adr G 25)), (1, .int a1)]) hx hb dX1_push_8 rfl hl (by decide) rfl (fun ls hl => ?_)
  refine lv_aload_n hx hb dX1_push_9 rfl (lv_at hl 1 rfl) ?_
  refine hy_get (T := (M, Mr, Mo)) (o := 25) (k := 0) (v := .ref (adr G 26)) hx hb hown hts hX hP (by decide) rfl rfl inX1g (by decide) q_266 rfl dX1_push_10 ?_
  refine lv_aload_n hx hb dX1_push_13 rfl (lv_at hl 1 rfl) ?_
  refine hy_get (T := (M, Mr, Mo)) (o := 25) (k := 2) (v := .int (M.1 25 2)) hx hb hown hts hX hP (by decide) rfl rfl inX1g (by decide) q_268 rfl dX1_push_14 ?_
  refine lv_bipush (v := 24) hx hb dX1_push_17 rfl ?_
  refine lv_imul hx hb dX1_push_19 ?_
  refine lv_iload_n hx hb dX1_push_20 rfl (lv_at hl 0 rfl) ?_
  refine lv_iadd hx hb dX1_push_21 ?_
  refine lv_iload_n hx hb dX1_push_22 rfl (lv_at hl 2 rfl) ?_
  refine hy_ret (hy_rSN (T := (M, Mr, Mo)) (v := none) (T2 := ((putf M 26 192 (((M.1 25 2) * 24) + (Bo_sizeOf (M.1 25 2) M)) a1), Mr, Mo)) (As := [.ref (adr G 26), .int (((M.1 25 2) * 24) + (Bo_sizeOf (M.1 25 2) M)), .int a1]) (rest := []) (n := 0) hx hb hml hown hts hX hP hS hl (c_put Mr Mo 26 192 (by decide) (by decide) (fun _ _ => rfl) (((M.1 25 2) * 24) + (Bo_sizeOf (M.1 25 2) M)) a1 M) m_Hp_put q_949 rfl rfl (Nat.le_of_ble_eq_true rfl) dX1_push_23 ⟨Nat.le_of_ble_eq_true rfl, Nat.le_of_ble_eq_true rfl⟩ ⟨Nat.zero_le _, Nat.zero_le _⟩) hS (fun H locs hP hS => ?_)
  refine lv_aload_n hx hb dX1_push_26 rfl (lv_at hl 1 rfl) ?_
  refine hy_get (T := ((putf M 26 192 (((M.1 25 2) * 24) + (Bo_sizeOf (M.1 25 2) M)) a1), Mr, Mo)) (o := 25) (k := 1) (v := .ref (adr G 27)) hx hb hown hts hX hP (by decide) rfl rfl inX1g (by decide) q_267 rfl dX1_push_27 ?_
  refine lv_aload_n hx hb dX1_push_30 rfl (lv_at hl 1 rfl) ?_
  refine hy_get (T := ((putf M 26 192 (((M.1 25 2) * 24) + (Bo_sizeOf (M.1 25 2) M)) a1), Mr, Mo)) (o := 25) (k := 2) (v := .int ((putf M 26 192 (((M.1 25 2) * 24) + (Bo_sizeOf (M.1 25 2) M)) a1).1 25 2)) hx hb hown hts hX hP (by decide) rfl rfl inX1g (by decide) q_268 rfl dX1_push_31 ?_
  refine lv_iload_n hx hb dX1_push_34 rfl (lv_at hl 0 rfl) ?_
  refine lv_iconst (v := 1) hx hb dX1_push_35 rfl ?_
  refine lv_iadd hx hb dX1_push_36 ?_
  refine hy_ret (hy_rSN (T := ((putf M 26 192 (((M.1 25 2) * 24) + (Bo_sizeOf (M.1 25 2) M)) a1), Mr, Mo)) (v := none) (T2 := ((putf (putf M 26 192 (((M.1 25 2) * 24) + (Bo_sizeOf (M.1 25 2) M)) a1) 27 8 ((putf M 26 192 (((M.1 25 2) * 24) + (Bo_sizeOf (M.1 25 2) M)) a1).1 25 2) ((Bo_sizeOf (M.1 25 2) M) + 1)), Mr, Mo)) (As := [.ref (adr G 27), .int ((putf M 26 192 (((M.1 25 2) * 24) + (Bo_sizeOf (M.1 25 2) M)) a1).1 25 2), .int ((Bo_sizeOf (M.1 25 2) M) + 1)]) (rest := []) (n := 0) hx hb hml hown hts hX hP hS hl (c_put Mr Mo 27 8 (by decide) (by decide) (fun _ _ => rfl) ((putf M 26 192 (((M.1 25 2) * 24) + (Bo_sizeOf (M.1 25 2) M)) a1).1 25 2) ((Bo_sizeOf (M.1 25 2) M) + 1) (putf M 26 192 (((M.1 25 2) * 24) + (Bo_sizeOf (M.1 25 2) M)) a1)) m_Hp_put q_949 rfl rfl (Nat.le_of_ble_eq_true rfl) dX1_push_37 ⟨Nat.le_of_ble_eq_true rfl, Nat.le_of_ble_eq_true rfl⟩ ⟨Nat.zero_le _, Nat.zero_le _⟩) hS (fun H locs hP hS => ?_)
  exact hy_vret (T := ((putf (putf M 26 192 (((M.1 25 2) * 24) + (Bo_sizeOf (M.1 25 2) M)) a1) 27 8 ((putf M 26 192 (((M.1 25 2) * 24) + (Bo_sizeOf (M.1 25 2) M)) a1).1 25 2) ((Bo_sizeOf (M.1 25 2) M) + 1)), Mr, Mo)) hx hb hr hlocks hP hS (Nat.zero_le _) (Nat.zero_le _) (by rw [← h] <;> rfl) dX1_push_40
set_option maxHeartbeats 1000000 in
set_option maxRecDepth 100000 in
theorem c_Bo_numberAt {l : Launch} {G : hyG} (Mr Mo : hyM) (a1 : Int32) (a2 : Int32) (M : hyM) {res : Int32} (h : Bo_numberAt a1 a2 M = res) : hyC l yX1_numberAt (.code yX1_numberAt cX1_numberAt 3 (some .int)) 1 21 (0) G [.ref (adr G 25), .int a1, .int a2] (M, Mr, Mo) (.inr (some (.int res)), (M, Mr, Mo)) := by
  refine hy_of (by decide +kernel) (Nat.le_of_ble_eq_true rfl) ?_
  intro p e s m below meth c hx hb hml hown hts hr hlocks ht hX hP hS ls hl
  have hl : lv_has ls 3 [(0, .ref (adr G 25)), (1, .int a1), (2, .int a2)] := hl
  rw [Bo_numberAt] at h
  refine lv_aload_n hx hb dX1_numberAt_0 rfl (lv_at hl 0 rfl) ?_
  refine hy_get (T := (M, Mr, Mo)) (o := 25) (k := 0) (v := .ref (adr G 26)) hx hb hown hts hX hP (by decide) rfl rfl inX1g (by decide) q_266 rfl dX1_numberAt_1 ?_
  refine lv_iload_n hx hb dX1_numberAt_4 rfl (lv_at hl 1 rfl) ?_
  refine lv_bipush (v := 24) hx hb dX1_numberAt_5 rfl ?_
  refine lv_imul hx hb dX1_numberAt_7 ?_
  refine lv_iload_n hx hb dX1_numberAt_8 rfl (lv_at hl 2 rfl) ?_
  refine lv_iadd hx hb dX1_numberAt_9 ?_
  refine hy_ret (hy_rSN (T := (M, Mr, Mo)) (v := some (.int (atf 192 (M.1 26) ((a1 * 24) + a2)))) (T2 := (M, Mr, Mo)) (As := [.ref (adr G 26), .int ((a1 * 24) + a2)]) (rest := []) (n := 0) hx hb hml hown hts hX hP hS hl (c_at 26 192 (hy34 G (by decide)) (by decide) (fun _ _ => rfl) ((a1 * 24) + a2) (M, Mr, Mo)) m_Hp_at q_564 rfl rfl (Nat.le_of_ble_eq_true rfl) dX1_numberAt_10 ⟨Nat.le_of_ble_eq_true rfl, Nat.le_of_ble_eq_true rfl⟩ ⟨Nat.zero_le _, Nat.zero_le _⟩) hS (fun H locs hP hS => ?_)
  exact hy_iret (T := (M, Mr, Mo)) hx hb hr hlocks hP hS (Nat.zero_le _) (Nat.zero_le _) (by rw [← h] <;> rfl) dX1_numberAt_13
set_option maxHeartbeats 1000000 in
set_option maxRecDepth 100000 in
theorem c_Bo_pushAllAgain {l : Launch} {G : hyG} (Mr Mo : hyM) (M : hyM) {res : hyM} (h : Bo_pushAllAgain M = some res) : hyC l yX1_pushAllAgain (.code yX1_pushAllAgain cX1_pushAllAgain 3 none) 3 64 (0) G [.ref (adr G 25)] (M, Mr, Mo) (.inr none, (res, Mr, Mo)) := by
  refine hy_of (by decide +kernel) (Nat.le_of_ble_eq_true rfl) ?_
  intro p e s m below meth c hx hb hml hown hts hr hlocks ht hX hP hS ls hl
  have hl : lv_has ls 3 [(0, .ref (adr G 25))] := hl
  rw [Bo_pushAllAgain] at h
  refine lv_aload_n hx hb dX1_pushAllAgain_0 rfl (lv_at hl 0 rfl) ?_
  refine lv_aload_n hx hb dX1_pushAllAgain_1 rfl (lv_at hl 0 rfl) ?_
  refine hy_get (T := (M, Mr, Mo)) (o := 25) (k := 2) (v := .int (M.1 25 2)) hx hb hown hts hX hP (by decide) rfl rfl inX1g (by decide) q_268 rfl dX1_pushAllAgain_2 ?_
  refine hy_ret (hy_rV0 (T := (M, Mr, Mo)) (v := some (.int (Bo_sizeOf (M.1 25 2) M))) (T2 := (M, Mr, Mo)) (As := [.int (M.1 25 2)]) (rest := []) (n := 0) hx hb hml hown hts hX hP hS hl (c_Bo_sizeOf Mr Mo (M.1 25 2) M rfl) m_Bo_sizeOf q_956 (hy_recv hX hP 25 1 (by decide) rfl rfl) rfl rfl (Nat.le_of_ble_eq_true rfl) dX1_pushAllAgain_5 ⟨Nat.le_of_ble_eq_true rfl, Nat.le_of_ble_eq_true rfl⟩ ⟨Nat.zero_le _, Nat.zero_le _⟩) hS (fun H locs hP hS => ?_)
  refine lv_istore_n (lv' := [(1, .int (Bo_sizeOf (M.1 25 2) M)), (0, .ref (adr G 25))]) hx hb dX1_pushAllAgain_8 rfl hl (by decide) rfl (fun ls hl => ?_)
  refine lv_iconst (v := 0) hx hb dX1_pushAllAgain_9 rfl ?_
  refine lv_istore_n (lv' := [(2, .int 0), (1, .int (Bo_sizeOf (M.1 25 2) M)), (0, .ref (adr G 25))]) hx hb dX1_pushAllAgain_10 rfl hl (by decide) rfl (fun ls hl => ?_)
  have L5 : ∀ (f : Nat) (x1 : Int32) (M2 : hyM) (qL : (Int32 × hyM)) (h : Bo_pushAllAgain_L11 M f x1 M2 = some qL) (H : Heap) (locs : List Loc) (ls : Array Slot) (hP : va_P G.1 vwCl (wld G (M2, Mr, Mo)) H) (hS : va_S (hyA G) s.heap H locs) (hl : lv_has ls 3 [(0, .ref (adr G 25)), (1, .int (Bo_sizeOf (M.1 25 2) M)), (2, .int x1)]) (kk : ∀ (y1 : Int32) (NM2 : hyM), qL = (y1, NM2) → ∀ (H : Heap) (locs : List Loc) (ls : Array Slot), va_P G.1 vwCl (wld G (NM2, Mr, Mo)) H → va_S (hyA G) s.heap H locs → lv_has ls 3 [(0, .ref (adr G 25)), (1, .int (Bo_sizeOf (M.1 25 2) M)), (2, .int y1)] → W p l e { frames := 3, cells := 0, slots := 6 * 0, locals := 64 } s m ([.ref (adr G 25)] : List Value).toArray below meth c H locs 0 0 (vx_MQ below (hyQ G (.inr none, (res, Mr, Mo))) (hyXQ G (.inr none, (res, Mr, Mo))) ([.ref (adr G 25)] : List Value).toArray s 0 (6 * 0) (hyA G)) (F0 m 35 ls [])), W p l e { frames := 3, cells := 0, slots := 6 * 0, locals := 64 } s m ([.ref (adr G 25)] : List Value).toArray below meth c H locs 0 0 (vx_MQ below (hyQ G (.inr none, (res, Mr, Mo))) (hyXQ G (.inr none, (res, Mr, Mo))) ([.ref (adr G 25)] : List Value).toArray s 0 (6 * 0) (hyA G)) (F0 m 11 ls []) := by
    intro f
    induction f with
    | zero =>
      intro x1 M2 qL h H locs ls hP hS hl kk
      rw [Bo_pushAllAgain_L11] at h
      cases h
    | succ f ih =>
      intro x1 M2 qL h H locs ls hP hS hl kk
      rw [Bo_pushAllAgain_L11] at h
      refine lv_iload_n hx hb dX1_pushAllAgain_11 rfl (lv_at hl 2 rfl) ?_
      refine lv_iload_n hx hb dX1_pushAllAgain_12 rfl (lv_at hl 1 rfl) ?_
      refine lv_icmp_ge (tgt := 35) hx hb dX1_pushAllAgain_13 (by decide) (fun c3 => ?_) (fun c3 => ?_)
      · rw [if_pos c3] at h
        exact kk x1 M2 (Option.some.inj h).symm _ _ ls hP hS (lv_sub hl [0, 1, 2] rfl)
      · rw [if_neg c3] at h
        refine lv_aload_n hx hb dX1_pushAllAgain_16 rfl (lv_at hl 0 rfl) ?_
        refine lv_aload_n hx hb dX1_pushAllAgain_17 rfl (lv_at hl 0 rfl) ?_
        refine lv_aload_n hx hb dX1_pushAllAgain_18 rfl (lv_at hl 0 rfl) ?_
        refine hy_get (T := (M2, Mr, Mo)) (o := 25) (k := 2) (v := .int (M2.1 25 2)) hx hb hown hts hX hP (by decide) rfl rfl inX1g (by decide) q_268 rfl dX1_pushAllAgain_19 ?_
        refine lv_iload_n hx hb dX1_pushAllAgain_22 rfl (lv_at hl 2 rfl) ?_
        refine hy_ret (hy_rV0 (T := (M2, Mr, Mo)) (v := some (.int (Bo_numberAt (M2.1 25 2) x1 M2))) (T2 := (M2, Mr, Mo)) (As := [.int (M2.1 25 2), .int x1]) (rest := [.ref (adr G 25)]) (n := 0) hx hb hml hown hts hX hP hS hl (c_Bo_numberAt Mr Mo (M2.1 25 2) x1 M2 rfl) m_Bo_numberAt q_961 (hy_recv hX hP 25 1 (by decide) rfl rfl) rfl rfl (Nat.le_of_ble_eq_true rfl) dX1_pushAllAgain_23 ⟨Nat.le_of_ble_eq_true rfl, Nat.le_of_ble_eq_true rfl⟩ ⟨Nat.zero_le _, Nat.zero_le _⟩) hS (fun H locs hP hS => ?_)
        refine hy_ret (hy_rV0 (T := (M2, Mr, Mo)) (v := none) (T2 := ((Bo_push (Bo_numberAt (M2.1 25 2) x1 M2) M2), Mr, Mo)) (As := [.int (Bo_numberAt (M2.1 25 2) x1 M2)]) (rest := []) (n := 0) hx hb hml hown hts hX hP hS hl (c_Bo_push Mr Mo (Bo_numberAt (M2.1 25 2) x1 M2) M2 rfl) m_Bo_push q_952 (hy_recv hX hP 25 1 (by decide) rfl rfl) rfl rfl (Nat.le_of_ble_eq_true rfl) dX1_pushAllAgain_26 ⟨Nat.le_of_ble_eq_true rfl, Nat.le_of_ble_eq_true rfl⟩ ⟨Nat.zero_le _, Nat.zero_le _⟩) hS (fun H locs hP hS => ?_)
        obtain ⟨M4, hM4, h⟩ := hy_bind h
        rw [Option.some.inj hM4] at hP
        refine lv_iinc (v := (x1 + 1)) (lv' := [(2, .int (x1 + 1)), (0, .ref (adr G 25)), (1, .int (Bo_sizeOf (M.1 25 2) M))]) hx hb dX1_pushAllAgain_29 hl (k := 2) rfl rfl (by decide) rfl (fun ls hl => ?_)
        refine lv_goto (tgt := 11) hx hb dX1_pushAllAgain_32 (by decide) ?_
        exact ih (x1 + 1) M4 _ h  _ _ ls hP hS (lv_sub hl [1, 2, 0] rfl) kk
  obtain ⟨q6, hq6, h⟩ := hy_bind h
  refine L5 hyFu 0 M q6 hq6 _ _ ls hP hS (lv_sub hl [2, 1, 0] rfl) ?_
  intro y1 NM2 e9 H locs ls hP hS hl
  subst e9
  try dsimp only at h
  exact hy_vret (T := (NM2, Mr, Mo)) hx hb hr hlocks hP hS (Nat.zero_le _) (Nat.zero_le _) (by rw [← (Option.some.inj h)] <;> rfl) dX1_pushAllAgain_35
set_option maxHeartbeats 1000000 in
set_option maxRecDepth 100000 in
theorem c_Bo_take {l : Launch} {G : hyG} (Mr Mo : hyM) (M : hyM) {res : hyM} (h : Bo_take M = some res) : hyC l yX1_take (.code yX1_take cX1_take 5 none) 4 86 (0) G [.ref (adr G 25), .ref (adr G 28)] (M, Mr, Mo) (.inr none, (res, Mr, Mo)) := by
  refine hy_of (by decide +kernel) (Nat.le_of_ble_eq_true rfl) ?_
  intro p e s m below meth c hx hb hml hown hts hr hlocks ht hX hP hS ls hl
  have hl : lv_has ls 5 [(0, .ref (adr G 25)), (1, .ref (adr G 28))] := hl
  rw [Bo_take] at h
  refine lv_aload_n hx hb dX1_take_0 rfl (lv_at hl 0 rfl) ?_
  refine hy_get (T := (M, Mr, Mo)) (o := 25) (k := 1) (v := .ref (adr G 27)) hx hb hown hts hX hP (by decide) rfl rfl inX1g (by decide) q_267 rfl dX1_take_1 ?_
  refine lv_aload_n hx hb dX1_take_4 rfl (lv_at hl 0 rfl) ?_
  refine hy_get (T := (M, Mr, Mo)) (o := 25) (k := 2) (v := .int (M.1 25 2)) hx hb hown hts hX hP (by decide) rfl rfl inX1g (by decide) q_268 rfl dX1_take_5 ?_
  refine lv_iconst (v := 0) hx hb dX1_take_8 rfl ?_
  refine hy_ret (hy_rSN (T := (M, Mr, Mo)) (v := none) (T2 := ((putf M 27 8 (M.1 25 2) 0), Mr, Mo)) (As := [.ref (adr G 27), .int (M.1 25 2), .int 0]) (rest := []) (n := 0) hx hb hml hown hts hX hP hS hl (c_put Mr Mo 27 8 (by decide) (by decide) (fun _ _ => rfl) (M.1 25 2) 0 M) m_Hp_put q_949 rfl rfl (Nat.le_of_ble_eq_true rfl) dX1_take_9 ⟨Nat.le_of_ble_eq_true rfl, Nat.le_of_ble_eq_true rfl⟩ ⟨Nat.zero_le _, Nat.zero_le _⟩) hS (fun H locs hP hS => ?_)
  obtain ⟨M1, hM1, h⟩ := hy_bind h
  rw [Option.some.inj hM1] at hP
  refine lv_iconst (v := 0) hx hb dX1_take_12 rfl ?_
  refine lv_istore_n (lv' := [(2, .int 0), (0, .ref (adr G 25)), (1, .ref (adr G 28))]) hx hb dX1_take_13 rfl hl (by decide) rfl (fun ls hl => ?_)
  refine lv_iconst (v := 0) hx hb dX1_take_14 rfl ?_
  refine lv_istore_n (lv' := [(3, .int 0), (2, .int 0), (0, .ref (adr G 25)), (1, .ref (adr G 28))]) hx hb dX1_take_15 rfl hl (by decide) rfl (fun ls hl => ?_)
  have L9 : ∀ (f : Nat) (x2 : Int32) (x3 : Int32) (M4 : hyM) (qL : (Int32 × Int32 × hyM)) (h : Bo_take_L16  f x2 x3 M4 = some qL) (H : Heap) (locs : List Loc) (ls : Array Slot) (hP : va_P G.1 vwCl (wld G (M4, Mr, Mo)) H) (hS : va_S (hyA G) s.heap H locs) (hl : lv_has ls 5 [(0, .ref (adr G 25)), (1, .ref (adr G 28)), (2, .int x2), (3, .int x3)]) (kk : ∀ (y2 : Int32) (y3 : Int32) (NM4 : hyM), qL = (y2, y3, NM4) → ∀ (H : Heap) (locs : List Loc) (ls : Array Slot), va_P G.1 vwCl (wld G (NM4, Mr, Mo)) H → va_S (hyA G) s.heap H locs → lv_has ls 5 [(0, .ref (adr G 25)), (1, .ref (adr G 28)), (2, .int y2), (3, .int y3)] → W p l e { frames := 4, cells := 0, slots := 6 * 0, locals := 86 } s m ([.ref (adr G 25), .ref (adr G 28)] : List Value).toArray below meth c H locs 0 0 (vx_MQ below (hyQ G (.inr none, (res, Mr, Mo))) (hyXQ G (.inr none, (res, Mr, Mo))) ([.ref (adr G 25), .ref (adr G 28)] : List Value).toArray s 0 (6 * 0) (hyA G)) (F0 m 73 ls [])), W p l e { frames := 4, cells := 0, slots := 6 * 0, locals := 86 } s m ([.ref (adr G 25), .ref (adr G 28)] : List Value).toArray below meth c H locs 0 0 (vx_MQ below (hyQ G (.inr none, (res, Mr, Mo))) (hyXQ G (.inr none, (res, Mr, Mo))) ([.ref (adr G 25), .ref (adr G 28)] : List Value).toArray s 0 (6 * 0) (hyA G)) (F0 m 16 ls []) := by
    intro f
    induction f with
    | zero =>
      intro x2 x3 M4 qL h H locs ls hP hS hl kk
      rw [Bo_take_L16] at h
      cases h
    | succ f ih =>
      intro x2 x3 M4 qL h H locs ls hP hS hl kk
      rw [Bo_take_L16] at h
      refine lv_iload_n hx hb dX1_take_16 rfl (lv_at hl 3 rfl) ?_
      refine lv_aload_n hx hb dX1_take_17 rfl (lv_at hl 1 rfl) ?_
      refine hy_getN (T := (M4, Mr, Mo)) (o := 28) (k := 1) (v := .int (M4.1 28 1)) hx hb hown hts hX hP (by decide) rfl rfl inX3g (by decide) q_285 rfl dX1_take_18 ?_
      refine lv_icmp_ge (tgt := 73) hx hb dX1_take_21 (by decide) (fun c5 => ?_) (fun c5 => ?_)
      · rw [if_pos c5] at h
        exact kk x2 x3 M4 (Option.some.inj h).symm _ _ ls hP hS (lv_sub hl [0, 1, 2, 3] rfl)
      · rw [if_neg c5] at h
        refine lv_aload_n hx hb dX1_take_24 rfl (lv_at hl 1 rfl) ?_
        refine lv_iload_n hx hb dX1_take_25 rfl (lv_at hl 3 rfl) ?_
        refine hy_ret (hy_rVN (T := (M4, Mr, Mo)) (v := some (.int (In_codeAt x3 M4))) (T2 := (M4, Mr, Mo)) (As := [.int x3]) (rest := []) (n := 0) hx hb hml hown hts hX hP hS hl (c_In_codeAt Mr Mo x3 M4 rfl) m_In_codeAt q_950 (hy_recv hX hP 28 3 (by decide) rfl rfl) rfl rfl (Nat.le_of_ble_eq_true rfl) dX1_take_26 ⟨Nat.le_of_ble_eq_true rfl, Nat.le_of_ble_eq_true rfl⟩ ⟨Nat.zero_le _, Nat.zero_le _⟩) hS (fun H locs hP hS => ?_)
        refine lv_istore (lv' := [(4, .int (In_codeAt x3 M4)), (0, .ref (adr G 25)), (1, .ref (adr G 28)), (2, .int x2), (3, .int x3)]) hx hb dX1_take_29 hl (by decide) rfl (fun ls hl => ?_)
        refine lv_iload hx hb dX1_take_31 (lv_at hl 0 rfl) ?_
        refine hy_ret (hy_rSN (T := (M4, Mr, Mo)) (v := some (.int (bI (In_isDigit (In_codeAt x3 M4) M4)))) (T2 := (M4, Mr, Mo)) (As := [.int (In_codeAt x3 M4)]) (rest := []) (n := 0) hx hb hml hown hts hX hP hS hl (c_In_isDigit Mr Mo (In_codeAt x3 M4) M4 rfl) m_In_isDigit q_951 rfl rfl (Nat.le_of_ble_eq_true rfl) dX1_take_33 ⟨Nat.le_of_ble_eq_true rfl, Nat.le_of_ble_eq_true rfl⟩ ⟨Nat.zero_le _, Nat.zero_le _⟩) hS (fun H locs hP hS => ?_)
        refine lv_if_eq (tgt := 53) hx hb dX1_take_36 (by decide) (fun c6 => ?_) (fun c6 => ?_)
        · rw [if_neg (bI_0 c6)] at h
          refine lv_iload hx hb dX1_take_53 (lv_at hl 0 rfl) ?_
          refine lv_bipush (v := 46) hx hb dX1_take_55 rfl ?_
          refine lv_icmp_ne (tgt := 67) hx hb dX1_take_57 (by decide) (fun c7 => ?_) (fun c7 => ?_)
          · rw [if_neg c7] at h
            refine lv_iinc (v := (x3 + 1)) (lv' := [(3, .int (x3 + 1)), (4, .int (In_codeAt x3 M4)), (0, .ref (adr G 25)), (1, .ref (adr G 28)), (2, .int x2)]) hx hb dX1_take_67 hl (k := 4) rfl rfl (by decide) rfl (fun ls hl => ?_)
            refine lv_goto (tgt := 16) hx hb dX1_take_70 (by decide) ?_
            exact ih x2 (x3 + 1) M4 _ h  _ _ ls hP hS (lv_sub hl [2, 3, 4, 0] rfl) kk
          · rw [if_pos (c7)] at h
            refine lv_aload_n hx hb dX1_take_60 rfl (lv_at hl 1 rfl) ?_
            refine lv_iload_n hx hb dX1_take_61 rfl (lv_at hl 3 rfl) ?_
            refine hy_ret (hy_rV0 (T := (M4, Mr, Mo)) (v := none) (T2 := ((Bo_push x2 M4), Mr, Mo)) (As := [.int x2]) (rest := []) (n := 0) hx hb hml hown hts hX hP hS hl (c_Bo_push Mr Mo x2 M4 rfl) m_Bo_push q_952 (hy_recv hX hP 25 1 (by decide) rfl rfl) rfl rfl (Nat.le_of_ble_eq_true rfl) dX1_take_62 ⟨Nat.le_of_ble_eq_true rfl, Nat.le_of_ble_eq_true rfl⟩ ⟨Nat.zero_le _, Nat.zero_le _⟩) hS (fun H locs hP hS => ?_)
            obtain ⟨M8, hM8, h⟩ := hy_bind h
            rw [Option.some.inj hM8] at hP
            refine lv_iconst (v := 0) hx hb dX1_take_65 rfl ?_
            refine lv_istore_n (lv' := [(2, .int 0), (4, .int (In_codeAt x3 M4)), (0, .ref (adr G 25)), (1, .ref (adr G 28)), (3, .int x3)]) hx hb dX1_take_66 rfl hl (by decide) rfl (fun ls hl => ?_)
            refine lv_iinc (v := (x3 + 1)) (lv' := [(3, .int (x3 + 1)), (2, .int 0), (4, .int (In_codeAt x3 M4)), (0, .ref (adr G 25)), (1, .ref (adr G 28))]) hx hb dX1_take_67 hl (k := 4) rfl rfl (by decide) rfl (fun ls hl => ?_)
            refine lv_goto (tgt := 16) hx hb dX1_take_70 (by decide) ?_
            exact ih 0 (x3 + 1) M8 _ h  _ _ ls hP hS (lv_sub hl [3, 4, 1, 0] rfl) kk
        · rw [if_pos (bI_1 c6)] at h
          refine lv_bipush (v := 10) hx hb dX1_take_39 rfl ?_
          refine lv_iload_n hx hb dX1_take_41 rfl (lv_at hl 3 rfl) ?_
          refine lv_imul hx hb dX1_take_42 ?_
          refine lv_iload hx hb dX1_take_43 (lv_at hl 0 rfl) ?_
          refine lv_bipush (v := 48) hx hb dX1_take_45 rfl ?_
          refine lv_isub hx hb dX1_take_47 ?_
          refine lv_iadd hx hb dX1_take_48 ?_
          refine lv_istore_n (lv' := [(2, .int ((10 * x2) + ((In_codeAt x3 M4) - 48))), (4, .int (In_codeAt x3 M4)), (0, .ref (adr G 25)), (1, .ref (adr G 28)), (3, .int x3)]) hx hb dX1_take_49 rfl hl (by decide) rfl (fun ls hl => ?_)
          refine lv_goto (tgt := 67) hx hb dX1_take_50 (by decide) ?_
          refine lv_iinc (v := (x3 + 1)) (lv' := [(3, .int (x3 + 1)), (2, .int ((10 * x2) + ((In_codeAt x3 M4) - 48))), (4, .int (In_codeAt x3 M4)), (0, .ref (adr G 25)), (1, .ref (adr G 28))]) hx hb dX1_take_67 hl (k := 4) rfl rfl (by decide) rfl (fun ls hl => ?_)
          refine lv_goto (tgt := 16) hx hb dX1_take_70 (by decide) ?_
          exact ih ((10 * x2) + ((In_codeAt x3 M4) - 48)) (x3 + 1) M4 _ h  _ _ ls hP hS (lv_sub hl [3, 4, 1, 0] rfl) kk
  obtain ⟨q15, hq15, h⟩ := hy_bind h
  refine L9 hyFu 0 0 M1 q15 hq15 _ _ ls hP hS (lv_sub hl [2, 3, 1, 0] rfl) ?_
  intro y2 y3 NM4 e9 H locs ls hP hS hl
  subst e9
  try dsimp only at h
  refine lv_iload_n hx hb dX1_take_73 rfl (lv_at hl 2 rfl) ?_
  refine lv_if_le (tgt := 85) hx hb dX1_take_74 (by decide) (fun c10 => ?_) (fun c10 => ?_)
  · rw [if_pos c10] at h
    refine lv_aload_n hx hb dX1_take_85 rfl (lv_at hl 0 rfl) ?_
    obtain ⟨M11, hM11, h⟩ := hy_bind h
    refine hy_ret (hy_rV0 (T := (NM4, Mr, Mo)) (v := none) (T2 := (M11, Mr, Mo)) (As := []) (rest := []) (n := 0) hx hb hml hown hts hX hP hS hl (c_Bo_pushAllAgain Mr Mo NM4 hM11) m_Bo_pushAllAgain q_957 (hy_recv hX hP 25 1 (by decide) rfl rfl) rfl rfl (Nat.le_of_ble_eq_true rfl) dX1_take_86 ⟨Nat.le_of_ble_eq_true rfl, Nat.le_of_ble_eq_true rfl⟩ ⟨Nat.zero_le _, Nat.zero_le _⟩) hS (fun H locs hP hS => ?_)
    refine lv_aload_n hx hb dX1_take_89 rfl (lv_at hl 0 rfl) ?_
    refine lv_dup hx hb dX1_take_90 rfl ?_
    refine hy_get (T := (M11, Mr, Mo)) (o := 25) (k := 2) (v := .int (M11.1 25 2)) hx hb hown hts hX hP (by decide) rfl rfl inX1g (by decide) q_268 rfl dX1_take_91 ?_
    refine lv_iconst (v := 1) hx hb dX1_take_94 rfl ?_
    refine lv_iadd hx hb dX1_take_95 ?_
    refine hy_putI (ty := .int) (T := (M11, Mr, Mo)) (T2 := ((wI M11 25 2 ((M11.1 25 2) + 1)), Mr, Mo)) (o := 25) (k := 2) hx hb hown hts hX hP hS (by decide) rfl rfl rfl rfl inX1g tyX1_ok nmX1 (by decide) q_268 rfl rfl rfl rfl (Nat.le_of_ble_eq_true rfl) dX1_take_96 (fun H locs hP hS => ?_)
    obtain ⟨M12, hM12, h⟩ := hy_bind h
    rw [Option.some.inj hM12] at hP
    exact hy_vret (T := (M12, Mr, Mo)) hx hb hr hlocks hP hS (Nat.zero_le _) (Nat.zero_le _) (by rw [← (Option.some.inj h)] <;> rfl) dX1_take_99
  · rw [if_neg c10] at h
    refine lv_aload_n hx hb dX1_take_77 rfl (lv_at hl 0 rfl) ?_
    refine lv_iload_n hx hb dX1_take_78 rfl (lv_at hl 2 rfl) ?_
    refine hy_ret (hy_rV0 (T := (NM4, Mr, Mo)) (v := none) (T2 := ((Bo_push y2 NM4), Mr, Mo)) (As := [.int y2]) (rest := []) (n := 0) hx hb hml hown hts hX hP hS hl (c_Bo_push Mr Mo y2 NM4 rfl) m_Bo_push q_952 (hy_recv hX hP 25 1 (by decide) rfl rfl) rfl rfl (Nat.le_of_ble_eq_true rfl) dX1_take_79 ⟨Nat.le_of_ble_eq_true rfl, Nat.le_of_ble_eq_true rfl⟩ ⟨Nat.zero_le _, Nat.zero_le _⟩) hS (fun H locs hP hS => ?_)
    obtain ⟨M13, hM13, h⟩ := hy_bind h
    rw [Option.some.inj hM13] at hP
    refine lv_goto (tgt := 89) hx hb dX1_take_82 (by decide) ?_
    refine lv_aload_n hx hb dX1_take_89 rfl (lv_at hl 0 rfl) ?_
    refine lv_dup hx hb dX1_take_90 rfl ?_
    refine hy_get (T := (M13, Mr, Mo)) (o := 25) (k := 2) (v := .int (M13.1 25 2)) hx hb hown hts hX hP (by decide) rfl rfl inX1g (by decide) q_268 rfl dX1_take_91 ?_
    refine lv_iconst (v := 1) hx hb dX1_take_94 rfl ?_
    refine lv_iadd hx hb dX1_take_95 ?_
    refine hy_putI (ty := .int) (T := (M13, Mr, Mo)) (T2 := ((wI M13 25 2 ((M13.1 25 2) + 1)), Mr, Mo)) (o := 25) (k := 2) hx hb hown hts hX hP hS (by decide) rfl rfl rfl rfl inX1g tyX1_ok nmX1 (by decide) q_268 rfl rfl rfl rfl (Nat.le_of_ble_eq_true rfl) dX1_take_96 (fun H locs hP hS => ?_)
    obtain ⟨M14, hM14, h⟩ := hy_bind h
    rw [Option.some.inj hM14] at hP
    exact hy_vret (T := (M14, Mr, Mo)) hx hb hr hlocks hP hS (Nat.zero_le _) (Nat.zero_le _) (by rw [← (Option.some.inj h)] <;> rfl) dX1_take_99
set_option maxHeartbeats 1000000 in
set_option maxRecDepth 100000 in
theorem c_Bo_remove {l : Launch} {G : hyG} (Mr Mo : hyM) (a1 : Int32) (M : hyM) {res : hyM} (h : Bo_remove a1 M = some res) : hyC l yX1_remove (.code yX1_remove cX1_remove 4 none) 2 43 (0) G [.ref (adr G 25), .int a1] (M, Mr, Mo) (.inr none, (res, Mr, Mo)) := by
  refine hy_of (by decide +kernel) (Nat.le_of_ble_eq_true rfl) ?_
  intro p e s m below meth c hx hb hml hown hts hr hlocks ht hX hP hS ls hl
  have hl : lv_has ls 4 [(0, .ref (adr G 25)), (1, .int a1)] := hl
  rw [Bo_remove] at h
  refine lv_aload_n hx hb dX1_remove_0 rfl (lv_at hl 0 rfl) ?_
  refine lv_dup hx hb dX1_remove_1 rfl ?_
  refine hy_get (T := (M, Mr, Mo)) (o := 25) (k := 2) (v := .int (M.1 25 2)) hx hb hown hts hX hP (by decide) rfl rfl inX1g (by decide) q_268 rfl dX1_remove_2 ?_
  refine lv_iconst (v := 1) hx hb dX1_remove_5 rfl ?_
  refine lv_isub hx hb dX1_remove_6 ?_
  refine hy_putI (ty := .int) (T := (M, Mr, Mo)) (T2 := ((wI M 25 2 ((M.1 25 2) - 1)), Mr, Mo)) (o := 25) (k := 2) hx hb hown hts hX hP hS (by decide) rfl rfl rfl rfl inX1g tyX1_ok nmX1 (by decide) q_268 rfl rfl rfl rfl (Nat.le_of_ble_eq_true rfl) dX1_remove_7 (fun H locs hP hS => ?_)
  obtain ⟨M1, hM1, h⟩ := hy_bind h
  rw [Option.some.inj hM1] at hP
  refine lv_iload_n hx hb dX1_remove_10 rfl (lv_at hl 1 rfl) ?_
  refine lv_istore_n (lv' := [(2, .int a1), (0, .ref (adr G 25)), (1, .int a1)]) hx hb dX1_remove_11 rfl hl (by decide) rfl (fun ls hl => ?_)
  have L12 : ∀ (f : Nat) (x2 : Int32) (M3 : hyM) (qL : (Int32 × hyM)) (h : Bo_remove_L12  f x2 M3 = some qL) (H : Heap) (locs : List Loc) (ls : Array Slot) (hP : va_P G.1 vwCl (wld G (M3, Mr, Mo)) H) (hS : va_S (hyA G) s.heap H locs) (hl : lv_has ls 4 [(0, .ref (adr G 25)), (1, .int a1), (2, .int x2)]) (kk : ∀ (y2 : Int32) (NM3 : hyM), qL = (y2, NM3) → ∀ (H : Heap) (locs : List Loc) (ls : Array Slot), va_P G.1 vwCl (wld G (NM3, Mr, Mo)) H → va_S (hyA G) s.heap H locs → lv_has ls 4 [(0, .ref (adr G 25)), (1, .int a1), (2, .int y2)] → W p l e { frames := 2, cells := 0, slots := 6 * 0, locals := 43 } s m ([.ref (adr G 25), .int a1] : List Value).toArray below meth c H locs 0 0 (vx_MQ below (hyQ G (.inr none, (res, Mr, Mo))) (hyXQ G (.inr none, (res, Mr, Mo))) ([.ref (adr G 25), .int a1] : List Value).toArray s 0 (6 * 0) (hyA G)) (F0 m 81 ls [])), W p l e { frames := 2, cells := 0, slots := 6 * 0, locals := 43 } s m ([.ref (adr G 25), .int a1] : List Value).toArray below meth c H locs 0 0 (vx_MQ below (hyQ G (.inr none, (res, Mr, Mo))) (hyXQ G (.inr none, (res, Mr, Mo))) ([.ref (adr G 25), .int a1] : List Value).toArray s 0 (6 * 0) (hyA G)) (F0 m 12 ls []) := by
    intro f
    induction f with
    | zero =>
      intro x2 M3 qL h H locs ls hP hS hl kk
      rw [Bo_remove_L12] at h
      cases h
    | succ f ih =>
      intro x2 M3 qL h H locs ls hP hS hl kk
      rw [Bo_remove_L12] at h
      refine lv_iload_n hx hb dX1_remove_12 rfl (lv_at hl 2 rfl) ?_
      refine lv_aload_n hx hb dX1_remove_13 rfl (lv_at hl 0 rfl) ?_
      refine hy_get (T := (M3, Mr, Mo)) (o := 25) (k := 2) (v := .int (M3.1 25 2)) hx hb hown hts hX hP (by decide) rfl rfl inX1g (by decide) q_268 rfl dX1_remove_14 ?_
      refine lv_icmp_ge (tgt := 81) hx hb dX1_remove_17 (by decide) (fun c4 => ?_) (fun c4 => ?_)
      · rw [if_pos c4] at h
        exact kk x2 M3 (Option.some.inj h).symm _ _ ls hP hS (lv_sub hl [0, 1, 2] rfl)
      · rw [if_neg c4] at h
        refine lv_aload_n hx hb dX1_remove_20 rfl (lv_at hl 0 rfl) ?_
        refine hy_get (T := (M3, Mr, Mo)) (o := 25) (k := 1) (v := .ref (adr G 27)) hx hb hown hts hX hP (by decide) rfl rfl inX1g (by decide) q_267 rfl dX1_remove_21 ?_
        refine lv_iload_n hx hb dX1_remove_24 rfl (lv_at hl 2 rfl) ?_
        refine lv_aload_n hx hb dX1_remove_25 rfl (lv_at hl 0 rfl) ?_
        refine lv_iload_n hx hb dX1_remove_26 rfl (lv_at hl 2 rfl) ?_
        refine lv_iconst (v := 1) hx hb dX1_remove_27 rfl ?_
        refine lv_iadd hx hb dX1_remove_28 ?_
        refine hy_ret (hy_rV0 (T := (M3, Mr, Mo)) (v := some (.int (Bo_sizeOf (x2 + 1) M3))) (T2 := (M3, Mr, Mo)) (As := [.int (x2 + 1)]) (rest := [.int x2, .ref (adr G 27)]) (n := 0) hx hb hml hown hts hX hP hS hl (c_Bo_sizeOf Mr Mo (x2 + 1) M3 rfl) m_Bo_sizeOf q_956 (hy_recv hX hP 25 1 (by decide) rfl rfl) rfl rfl (Nat.le_of_ble_eq_true rfl) dX1_remove_29 ⟨Nat.le_of_ble_eq_true rfl, Nat.le_of_ble_eq_true rfl⟩ ⟨Nat.zero_le _, Nat.zero_le _⟩) hS (fun H locs hP hS => ?_)
        refine hy_ret (hy_rSN (T := (M3, Mr, Mo)) (v := none) (T2 := ((putf M3 27 8 x2 (Bo_sizeOf (x2 + 1) M3)), Mr, Mo)) (As := [.ref (adr G 27), .int x2, .int (Bo_sizeOf (x2 + 1) M3)]) (rest := []) (n := 0) hx hb hml hown hts hX hP hS hl (c_put Mr Mo 27 8 (by decide) (by decide) (fun _ _ => rfl) x2 (Bo_sizeOf (x2 + 1) M3) M3) m_Hp_put q_949 rfl rfl (Nat.le_of_ble_eq_true rfl) dX1_remove_32 ⟨Nat.le_of_ble_eq_true rfl, Nat.le_of_ble_eq_true rfl⟩ ⟨Nat.zero_le _, Nat.zero_le _⟩) hS (fun H locs hP hS => ?_)
        obtain ⟨M5, hM5, h⟩ := hy_bind h
        rw [Option.some.inj hM5] at hP
        refine lv_iconst (v := 0) hx hb dX1_remove_35 rfl ?_
        refine lv_istore_n (lv' := [(3, .int 0), (0, .ref (adr G 25)), (1, .int a1), (2, .int x2)]) hx hb dX1_remove_36 rfl hl (by decide) rfl (fun ls hl => ?_)
        have L10 : ∀ (f : Nat) (x6 : Int32) (M7 : hyM) (qL : (Int32 × hyM)) (h : Bo_remove_L37 x2 f x6 M7 = some qL) (H : Heap) (locs : List Loc) (ls : Array Slot) (hP : va_P G.1 vwCl (wld G (M7, Mr, Mo)) H) (hS : va_S (hyA G) s.heap H locs) (hl : lv_has ls 4 [(0, .ref (adr G 25)), (1, .int a1), (2, .int x2), (3, .int x6)]) (kk : ∀ (y6 : Int32) (NM7 : hyM), qL = (y6, NM7) → ∀ (H : Heap) (locs : List Loc) (ls : Array Slot), va_P G.1 vwCl (wld G (NM7, Mr, Mo)) H → va_S (hyA G) s.heap H locs → lv_has ls 4 [(0, .ref (adr G 25)), (1, .int a1), (2, .int x2), (3, .int y6)] → W p l e { frames := 2, cells := 0, slots := 6 * 0, locals := 43 } s m ([.ref (adr G 25), .int a1] : List Value).toArray below meth c H locs 0 0 (vx_MQ below (hyQ G (.inr none, (res, Mr, Mo))) (hyXQ G (.inr none, (res, Mr, Mo))) ([.ref (adr G 25), .int a1] : List Value).toArray s 0 (6 * 0) (hyA G)) (F0 m 75 ls [])), W p l e { frames := 2, cells := 0, slots := 6 * 0, locals := 43 } s m ([.ref (adr G 25), .int a1] : List Value).toArray below meth c H locs 0 0 (vx_MQ below (hyQ G (.inr none, (res, Mr, Mo))) (hyXQ G (.inr none, (res, Mr, Mo))) ([.ref (adr G 25), .int a1] : List Value).toArray s 0 (6 * 0) (hyA G)) (F0 m 37 ls []) := by
          intro f
          induction f with
          | zero =>
            intro x6 M7 qL h H locs ls hP hS hl kk
            rw [Bo_remove_L37] at h
            cases h
          | succ f ih =>
            intro x6 M7 qL h H locs ls hP hS hl kk
            rw [Bo_remove_L37] at h
            refine lv_iload_n hx hb dX1_remove_37 rfl (lv_at hl 3 rfl) ?_
            refine lv_aload_n hx hb dX1_remove_38 rfl (lv_at hl 0 rfl) ?_
            refine lv_iload_n hx hb dX1_remove_39 rfl (lv_at hl 2 rfl) ?_
            refine lv_iconst (v := 1) hx hb dX1_remove_40 rfl ?_
            refine lv_iadd hx hb dX1_remove_41 ?_
            refine hy_ret (hy_rV0 (T := (M7, Mr, Mo)) (v := some (.int (Bo_sizeOf (x2 + 1) M7))) (T2 := (M7, Mr, Mo)) (As := [.int (x2 + 1)]) (rest := [.int x6]) (n := 0) hx hb hml hown hts hX hP hS hl (c_Bo_sizeOf Mr Mo (x2 + 1) M7 rfl) m_Bo_sizeOf q_956 (hy_recv hX hP 25 1 (by decide) rfl rfl) rfl rfl (Nat.le_of_ble_eq_true rfl) dX1_remove_42 ⟨Nat.le_of_ble_eq_true rfl, Nat.le_of_ble_eq_true rfl⟩ ⟨Nat.zero_le _, Nat.zero_le _⟩) hS (fun H locs hP hS => ?_)
            refine lv_icmp_ge (tgt := 75) hx hb dX1_remove_45 (by decide) (fun c8 => ?_) (fun c8 => ?_)
            · rw [if_pos c8] at h
              exact kk x6 M7 (Option.some.inj h).symm _ _ ls hP hS (lv_sub hl [0, 1, 2, 3] rfl)
            · rw [if_neg c8] at h
              refine lv_aload_n hx hb dX1_remove_48 rfl (lv_at hl 0 rfl) ?_
              refine hy_get (T := (M7, Mr, Mo)) (o := 25) (k := 0) (v := .ref (adr G 26)) hx hb hown hts hX hP (by decide) rfl rfl inX1g (by decide) q_266 rfl dX1_remove_49 ?_
              refine lv_iload_n hx hb dX1_remove_52 rfl (lv_at hl 2 rfl) ?_
              refine lv_bipush (v := 24) hx hb dX1_remove_53 rfl ?_
              refine lv_imul hx hb dX1_remove_55 ?_
              refine lv_iload_n hx hb dX1_remove_56 rfl (lv_at hl 3 rfl) ?_
              refine lv_iadd hx hb dX1_remove_57 ?_
              refine lv_aload_n hx hb dX1_remove_58 rfl (lv_at hl 0 rfl) ?_
              refine lv_iload_n hx hb dX1_remove_59 rfl (lv_at hl 2 rfl) ?_
              refine lv_iconst (v := 1) hx hb dX1_remove_60 rfl ?_
              refine lv_iadd hx hb dX1_remove_61 ?_
              refine lv_iload_n hx hb dX1_remove_62 rfl (lv_at hl 3 rfl) ?_
              refine hy_ret (hy_rV0 (T := (M7, Mr, Mo)) (v := some (.int (Bo_numberAt (x2 + 1) x6 M7))) (T2 := (M7, Mr, Mo)) (As := [.int (x2 + 1), .int x6]) (rest := [.int ((x2 * 24) + x6), .ref (adr G 26)]) (n := 0) hx hb hml hown hts hX hP hS hl (c_Bo_numberAt Mr Mo (x2 + 1) x6 M7 rfl) m_Bo_numberAt q_961 (hy_recv hX hP 25 1 (by decide) rfl rfl) rfl rfl (Nat.le_of_ble_eq_true rfl) dX1_remove_63 ⟨Nat.le_of_ble_eq_true rfl, Nat.le_of_ble_eq_true rfl⟩ ⟨Nat.zero_le _, Nat.zero_le _⟩) hS (fun H locs hP hS => ?_)
              refine hy_ret (hy_rSN (T := (M7, Mr, Mo)) (v := none) (T2 := ((putf M7 26 192 ((x2 * 24) + x6) (Bo_numberAt (x2 + 1) x6 M7)), Mr, Mo)) (As := [.ref (adr G 26), .int ((x2 * 24) + x6), .int (Bo_numberAt (x2 + 1) x6 M7)]) (rest := []) (n := 0) hx hb hml hown hts hX hP hS hl (c_put Mr Mo 26 192 (by decide) (by decide) (fun _ _ => rfl) ((x2 * 24) + x6) (Bo_numberAt (x2 + 1) x6 M7) M7) m_Hp_put q_949 rfl rfl (Nat.le_of_ble_eq_true rfl) dX1_remove_66 ⟨Nat.le_of_ble_eq_true rfl, Nat.le_of_ble_eq_true rfl⟩ ⟨Nat.zero_le _, Nat.zero_le _⟩) hS (fun H locs hP hS => ?_)
              obtain ⟨M9, hM9, h⟩ := hy_bind h
              rw [Option.some.inj hM9] at hP
              refine lv_iinc (v := (x6 + 1)) (lv' := [(3, .int (x6 + 1)), (0, .ref (adr G 25)), (1, .int a1), (2, .int x2)]) hx hb dX1_remove_69 hl (k := 3) rfl rfl (by decide) rfl (fun ls hl => ?_)
              refine lv_goto (tgt := 37) hx hb dX1_remove_72 (by decide) ?_
              exact ih (x6 + 1) M9 _ h  _ _ ls hP hS (lv_sub hl [1, 2, 3, 0] rfl) kk
        obtain ⟨q11, hq11, h⟩ := hy_bind h
        refine L10 hyFu 0 M5 q11 hq11 _ _ ls hP hS (lv_sub hl [1, 2, 3, 0] rfl) ?_
        intro y6 NM7 e9 H locs ls hP hS hl
        subst e9
        try dsimp only at h
        refine lv_iinc (v := (x2 + 1)) (lv' := [(2, .int (x2 + 1)), (0, .ref (adr G 25)), (1, .int a1), (3, .int y6)]) hx hb dX1_remove_75 hl (k := 2) rfl rfl (by decide) rfl (fun ls hl => ?_)
        refine lv_goto (tgt := 12) hx hb dX1_remove_78 (by decide) ?_
        exact ih (x2 + 1) NM7 _ h  _ _ ls hP hS (lv_sub hl [1, 2, 0] rfl) kk
  obtain ⟨q13, hq13, h⟩ := hy_bind h
  refine L12 hyFu a1 M1 q13 hq13 _ _ ls hP hS (lv_sub hl [1, 2, 0] rfl) ?_
  intro y2 NM3 e9 H locs ls hP hS hl
  subst e9
  try dsimp only at h
  exact hy_vret (T := (NM3, Mr, Mo)) hx hb hr hlocks hP hS (Nat.zero_le _) (Nat.zero_le _) (by rw [← (Option.some.inj h)] <;> rfl) dX1_remove_81
set_option maxHeartbeats 1000000 in
set_option maxRecDepth 100000 in
theorem c_Or_phraseAt {l : Launch} {G : hyG} (Mr Mo : hyM) (a1 : Int32) (M : hyM) {res : Int32} (h : Or_phraseAt a1 M = res) : hyC l yX5_phraseAt (.code yX5_phraseAt cX5_phraseAt 2 (some .int)) 1 21 (0) G [.ref (adr G 18), .int a1] (M, Mr, Mo) (.inr (some (.int res)), (M, Mr, Mo)) := by
  refine hy_of (by decide +kernel) (Nat.le_of_ble_eq_true rfl) ?_
  intro p e s m below meth c hx hb hml hown hts hr hlocks ht hX hP hS ls hl
  have hl : lv_has ls 2 [(0, .ref (adr G 18)), (1, .int a1)] := hl
  rw [Or_phraseAt] at h
  refine lv_aload_n hx hb dX5_phraseAt_0 rfl (lv_at hl 0 rfl) ?_
  refine hy_get (T := (M, Mr, Mo)) (o := 18) (k := 0) (v := .ref (adr G 19)) hx hb hown hts hX hP (by decide) rfl rfl inX5g (by decide) q_224 rfl dX5_phraseAt_1 ?_
  refine lv_iload_n hx hb dX5_phraseAt_4 rfl (lv_at hl 1 rfl) ?_
  refine hy_ret (hy_rSN (T := (M, Mr, Mo)) (v := some (.int (atf 80 (M.1 19) a1))) (T2 := (M, Mr, Mo)) (As := [.ref (adr G 19), .int a1]) (rest := []) (n := 0) hx hb hml hown hts hX hP hS hl (c_at 19 80 (hy34 G (by decide)) (by decide) (fun _ _ => rfl) a1 (M, Mr, Mo)) m_Hp_at q_477 rfl rfl (Nat.le_of_ble_eq_true rfl) dX5_phraseAt_5 ⟨Nat.le_of_ble_eq_true rfl, Nat.le_of_ble_eq_true rfl⟩ ⟨Nat.zero_le _, Nat.zero_le _⟩) hS (fun H locs hP hS => ?_)
  exact hy_iret (T := (M, Mr, Mo)) hx hb hr hlocks hP hS (Nat.zero_le _) (Nat.zero_le _) (by rw [← h] <;> rfl) dX5_phraseAt_8
set_option maxHeartbeats 1000000 in
set_option maxRecDepth 100000 in
theorem c_Ph_firstOf {l : Launch} {G : hyG} (Mr Mo : hyM) (a1 : Int32) (M : hyM) {res : Int32} (h : Ph_firstOf a1 M = res) : hyC l yX6_firstOf (.code yX6_firstOf cX6_firstOf 2 (some .int)) 1 21 (0) G [.ref (adr G 12), .int a1] (M, Mr, Mo) (.inr (some (.int res)), (M, Mr, Mo)) := by
  refine hy_of (by decide +kernel) (Nat.le_of_ble_eq_true rfl) ?_
  intro p e s m below meth c hx hb hml hown hts hr hlocks ht hX hP hS ls hl
  have hl : lv_has ls 2 [(0, .ref (adr G 12)), (1, .int a1)] := hl
  rw [Ph_firstOf] at h
  refine lv_aload_n hx hb dX6_firstOf_0 rfl (lv_at hl 0 rfl) ?_
  refine hy_get (T := (M, Mr, Mo)) (o := 12) (k := 2) (v := .ref (adr G 15)) hx hb hown hts hX hP (by decide) rfl rfl inX6g (by decide) q_199 rfl dX6_firstOf_1 ?_
  refine lv_iload_n hx hb dX6_firstOf_4 rfl (lv_at hl 1 rfl) ?_
  refine hy_ret (hy_rSN (T := (M, Mr, Mo)) (v := some (.int (atf 40 (M.1 15) a1))) (T2 := (M, Mr, Mo)) (As := [.ref (adr G 15), .int a1]) (rest := []) (n := 0) hx hb hml hown hts hX hP hS hl (c_at 15 40 (hy34 G (by decide)) (by decide) (fun _ _ => rfl) a1 (M, Mr, Mo)) m_Hp_at q_452 rfl rfl (Nat.le_of_ble_eq_true rfl) dX6_firstOf_5 ⟨Nat.le_of_ble_eq_true rfl, Nat.le_of_ble_eq_true rfl⟩ ⟨Nat.zero_le _, Nat.zero_le _⟩) hS (fun H locs hP hS => ?_)
  exact hy_iret (T := (M, Mr, Mo)) hx hb hr hlocks hP hS (Nat.zero_le _) (Nat.zero_le _) (by rw [← h] <;> rfl) dX6_firstOf_8
set_option maxHeartbeats 1000000 in
set_option maxRecDepth 100000 in
theorem c_Ph_lastOf {l : Launch} {G : hyG} (Mr Mo : hyM) (a1 : Int32) (M : hyM) {res : Int32} (h : Ph_lastOf a1 M = res) : hyC l yX6_lastOf (.code yX6_lastOf cX6_lastOf 2 (some .int)) 1 21 (0) G [.ref (adr G 12), .int a1] (M, Mr, Mo) (.inr (some (.int res)), (M, Mr, Mo)) := by
  refine hy_of (by decide +kernel) (Nat.le_of_ble_eq_true rfl) ?_
  intro p e s m below meth c hx hb hml hown hts hr hlocks ht hX hP hS ls hl
  have hl : lv_has ls 2 [(0, .ref (adr G 12)), (1, .int a1)] := hl
  rw [Ph_lastOf] at h
  refine lv_aload_n hx hb dX6_lastOf_0 rfl (lv_at hl 0 rfl) ?_
  refine hy_get (T := (M, Mr, Mo)) (o := 12) (k := 3) (v := .ref (adr G 16)) hx hb hown hts hX hP (by decide) rfl rfl inX6g (by decide) q_200 rfl dX6_lastOf_1 ?_
  refine lv_iload_n hx hb dX6_lastOf_4 rfl (lv_at hl 1 rfl) ?_
  refine hy_ret (hy_rSN (T := (M, Mr, Mo)) (v := some (.int (atf 40 (M.1 16) a1))) (T2 := (M, Mr, Mo)) (As := [.ref (adr G 16), .int a1]) (rest := []) (n := 0) hx hb hml hown hts hX hP hS hl (c_at 16 40 (hy34 G (by decide)) (by decide) (fun _ _ => rfl) a1 (M, Mr, Mo)) m_Hp_at q_452 rfl rfl (Nat.le_of_ble_eq_true rfl) dX6_lastOf_5 ⟨Nat.le_of_ble_eq_true rfl, Nat.le_of_ble_eq_true rfl⟩ ⟨Nat.zero_le _, Nat.zero_le _⟩) hS (fun H locs hP hS => ?_)
  exact hy_iret (T := (M, Mr, Mo)) hx hb hr hlocks hP hS (Nat.zero_le _) (Nat.zero_le _) (by rw [← h] <;> rfl) dX6_lastOf_8
set_option maxHeartbeats 1000000 in
set_option maxRecDepth 100000 in
theorem c_Ph_syllableOf {l : Launch} {G : hyG} (Mr Mo : hyM) (a1 : Int32) (M : hyM) {res : Int32} (h : Ph_syllableOf a1 M = res) : hyC l yX6_syllableOf (.code yX6_syllableOf cX6_syllableOf 2 (some .int)) 1 21 (0) G [.ref (adr G 12), .int a1] (M, Mr, Mo) (.inr (some (.int res)), (M, Mr, Mo)) := by
  refine hy_of (by decide +kernel) (Nat.le_of_ble_eq_true rfl) ?_
  intro p e s m below meth c hx hb hml hown hts hr hlocks ht hX hP hS ls hl
  have hl : lv_has ls 2 [(0, .ref (adr G 12)), (1, .int a1)] := hl
  rw [Ph_syllableOf] at h
  refine lv_aload_n hx hb dX6_syllableOf_0 rfl (lv_at hl 0 rfl) ?_
  refine hy_get (T := (M, Mr, Mo)) (o := 12) (k := 1) (v := .ref (adr G 14)) hx hb hown hts hX hP (by decide) rfl rfl inX6g (by decide) q_198 rfl dX6_syllableOf_1 ?_
  refine lv_iload_n hx hb dX6_syllableOf_4 rfl (lv_at hl 1 rfl) ?_
  refine hy_ret (hy_rSN (T := (M, Mr, Mo)) (v := some (.int (atf 40 (M.1 14) a1))) (T2 := (M, Mr, Mo)) (As := [.ref (adr G 14), .int a1]) (rest := []) (n := 0) hx hb hml hown hts hX hP hS hl (c_at 14 40 (hy34 G (by decide)) (by decide) (fun _ _ => rfl) a1 (M, Mr, Mo)) m_Hp_at q_452 rfl rfl (Nat.le_of_ble_eq_true rfl) dX6_syllableOf_5 ⟨Nat.le_of_ble_eq_true rfl, Nat.le_of_ble_eq_true rfl⟩ ⟨Nat.zero_le _, Nat.zero_le _⟩) hS (fun H locs hP hS => ?_)
  exact hy_iret (T := (M, Mr, Mo)) hx hb hr hlocks hP hS (Nat.zero_le _) (Nat.zero_le _) (by rw [← h] <;> rfl) dX6_syllableOf_8
set_option maxHeartbeats 1000000 in
set_option maxRecDepth 100000 in
theorem c_Ve_rowOf {l : Launch} {G : hyG} (Mr Mo : hyM) (a1 : Int32) (a2 : Int32) (M : hyM) {res : Int32} (h : Ve_rowOf a1 a2 M = res) : hyC l yX9_rowOf (.code yX9_rowOf cX9_rowOf 3 (some .int)) 0 0 (0) G [.ref (adr G 9), .int a1, .int a2] (M, Mr, Mo) (.inr (some (.int res)), (M, Mr, Mo)) := by
  refine hy_of (by decide +kernel) (Nat.le_of_ble_eq_true rfl) ?_
  intro p e s m below meth c hx hb hml hown hts hr hlocks ht hX hP hS ls hl
  have hl : lv_has ls 3 [(0, .ref (adr G 9)), (1, .int a1), (2, .int a2)] := hl
  rw [Ve_rowOf] at h
  refine lv_iload_n hx hb dX9_rowOf_0 rfl (lv_at hl 1 rfl) ?_
  refine lv_bipush (v := 24) hx hb dX9_rowOf_1 rfl ?_
  refine lv_imul hx hb dX9_rowOf_3 ?_
  refine lv_iload_n hx hb dX9_rowOf_4 rfl (lv_at hl 2 rfl) ?_
  refine lv_iadd hx hb dX9_rowOf_5 ?_
  exact hy_iret (T := (M, Mr, Mo)) hx hb hr hlocks hP hS (Nat.zero_le _) (Nat.zero_le _) (by rw [← h] <;> rfl) dX9_rowOf_6
set_option maxHeartbeats 1000000 in
set_option maxRecDepth 100000 in
theorem c_Ve_syllablesOf {l : Launch} {G : hyG} (Mr Mo : hyM) (a1 : Int32) (a2 : Int32) (M : hyM) {res : Int32} (h : Ve_syllablesOf a1 a2 M = res) : hyC l yX9_syllablesOf (.code yX9_syllablesOf cX9_syllablesOf 3 (some .int)) 1 22 (0) G [.ref (adr G 9), .int a1, .int a2] (M, Mr, Mo) (.inr (some (.int res)), (M, Mr, Mo)) := by
  refine hy_of (by decide +kernel) (Nat.le_of_ble_eq_true rfl) ?_
  intro p e s m below meth c hx hb hml hown hts hr hlocks ht hX hP hS ls hl
  have hl : lv_has ls 3 [(0, .ref (adr G 9)), (1, .int a1), (2, .int a2)] := hl
  rw [Ve_syllablesOf] at h
  refine lv_aload_n hx hb dX9_syllablesOf_0 rfl (lv_at hl 0 rfl) ?_
  refine hy_get (T := (M, Mr, Mo)) (o := 9) (k := 0) (v := .ref (adr G 10)) hx hb hown hts hX hP (by decide) rfl rfl inX9g (by decide) q_184 rfl dX9_syllablesOf_1 ?_
  refine lv_aload_n hx hb dX9_syllablesOf_4 rfl (lv_at hl 0 rfl) ?_
  refine lv_iload_n hx hb dX9_syllablesOf_5 rfl (lv_at hl 1 rfl) ?_
  refine lv_iload_n hx hb dX9_syllablesOf_6 rfl (lv_at hl 2 rfl) ?_
  refine hy_ret (hy_rV0 (T := (M, Mr, Mo)) (v := some (.int (Ve_rowOf a1 a2 M))) (T2 := (M, Mr, Mo)) (As := [.int a1, .int a2]) (rest := [.ref (adr G 10)]) (n := 0) hx hb hml hown hts hX hP hS hl (c_Ve_rowOf Mr Mo a1 a2 M rfl) m_Ve_rowOf q_415 (hy_recv hX hP 9 8 (by decide) rfl rfl) rfl rfl (Nat.le_of_ble_eq_true rfl) dX9_syllablesOf_7 ⟨Nat.le_of_ble_eq_true rfl, Nat.le_of_ble_eq_true rfl⟩ ⟨Nat.zero_le _, Nat.zero_le _⟩) hS (fun H locs hP hS => ?_)
  refine hy_ret (hy_rSN (T := (M, Mr, Mo)) (v := some (.int (atf 96 (M.1 10) (Ve_rowOf a1 a2 M)))) (T2 := (M, Mr, Mo)) (As := [.ref (adr G 10), .int (Ve_rowOf a1 a2 M)]) (rest := []) (n := 0) hx hb hml hown hts hX hP hS hl (c_at 10 96 (hy34 G (by decide)) (by decide) (fun _ _ => rfl) (Ve_rowOf a1 a2 M) (M, Mr, Mo)) m_Hp_at q_419 rfl rfl (Nat.le_of_ble_eq_true rfl) dX9_syllablesOf_10 ⟨Nat.le_of_ble_eq_true rfl, Nat.le_of_ble_eq_true rfl⟩ ⟨Nat.zero_le _, Nat.zero_le _⟩) hS (fun H locs hP hS => ?_)
  exact hy_iret (T := (M, Mr, Mo)) hx hb hr hlocks hP hS (Nat.zero_le _) (Nat.zero_le _) (by rw [← h] <;> rfl) dX9_syllablesOf_13
set_option maxHeartbeats 1000000 in
set_option maxRecDepth 100000 in
theorem c_Ve_hasSyllable {l : Launch} {G : hyG} (Mr Mo : hyM) (a1 : Int32) (a2 : Int32) (a3 : Int32) (M : hyM) {res : Bool} (h : Ve_hasSyllable a1 a2 a3 M = res) : hyC l yX9_hasSyllable (.code yX9_hasSyllable cX9_hasSyllable 4 (some .boolean)) 2 44 (0) G [.ref (adr G 9), .int a1, .int a2, .int a3] (M, Mr, Mo) (.inr (some (.int (bI res))), (M, Mr, Mo)) := by
  refine hy_of (by decide +kernel) (Nat.le_of_ble_eq_true rfl) ?_
  intro p e s m below meth c hx hb hml hown hts hr hlocks ht hX hP hS ls hl
  have hl : lv_has ls 4 [(0, .ref (adr G 9)), (1, .int a1), (2, .int a2), (3, .int a3)] := hl
  rw [Ve_hasSyllable] at h
  refine lv_iload_n hx hb dX9_hasSyllable_0 rfl (lv_at hl 2 rfl) ?_
  refine lv_bipush (v := 24) hx hb dX9_hasSyllable_1 rfl ?_
  have J4 : ∀ (H : Heap) (locs : List Loc) (ls : Array Slot) (u1 : Int32), u1 = (bI (if 24 ≤ a2 then false else (if a3 < 0 then false else (!decide ((Ve_syllablesOf a1 a2 M) ≤ a3))))) → va_P G.1 vwCl (wld G (M, Mr, Mo)) H → va_S (hyA G) s.heap H locs → lv_has ls 4 [(0, .ref (adr G 9)), (1, .int a1), (2, .int a2), (3, .int a3)] → W p l e { frames := 2, cells := 0, slots := 6 * 0, locals := 44 } s m ([.ref (adr G 9), .int a1, .int a2, .int a3] : List Value).toArray below meth c H locs 0 0 (vx_MQ below (hyQ G (.inr (some (.int (bI res))), (M, Mr, Mo))) (hyXQ G (.inr (some (.int (bI res))), (M, Mr, Mo))) ([.ref (adr G 9), .int a1, .int a2, .int a3] : List Value).toArray s 0 (6 * 0) (hyA G)) (F0 m 25 ls [.int u1]) := by
    intro H locs ls u1 eu1 hP hS hl
    subst eu1
    exact hy_zret (T := (M, Mr, Mo)) hx hb hr hlocks hP hS (Nat.zero_le _) (Nat.zero_le _) (bI_nar (if 24 ≤ a2 then false else (if a3 < 0 then false else (!decide ((Ve_syllablesOf a1 a2 M) ≤ a3))))) (by rw [← h] <;> rfl) dX9_hasSyllable_25
  refine lv_icmp_ge (tgt := 24) hx hb dX9_hasSyllable_3 (by decide) (fun c1 => ?_) (fun c1 => ?_)
  · refine lv_iconst (v := 0) hx hb dX9_hasSyllable_24 rfl ?_
    exact J4 _ _ ls 0 (by rw [if_pos c1] <;> rfl) hP hS (lv_sub hl [0, 1, 2, 3] rfl)
  · refine lv_iload_n hx hb dX9_hasSyllable_6 rfl (lv_at hl 3 rfl) ?_
    refine lv_if_lt (tgt := 24) hx hb dX9_hasSyllable_7 (by decide) (fun c2 => ?_) (fun c2 => ?_)
    · refine lv_iconst (v := 0) hx hb dX9_hasSyllable_24 rfl ?_
      exact J4 _ _ ls 0 (by rw [if_neg c1, if_pos c2] <;> rfl) hP hS (lv_sub hl [0, 1, 2, 3] rfl)
    · refine lv_iload_n hx hb dX9_hasSyllable_10 rfl (lv_at hl 3 rfl) ?_
      refine lv_aload_n hx hb dX9_hasSyllable_11 rfl (lv_at hl 0 rfl) ?_
      refine lv_iload_n hx hb dX9_hasSyllable_12 rfl (lv_at hl 1 rfl) ?_
      refine lv_iload_n hx hb dX9_hasSyllable_13 rfl (lv_at hl 2 rfl) ?_
      refine hy_ret (hy_rV0 (T := (M, Mr, Mo)) (v := some (.int (Ve_syllablesOf a1 a2 M))) (T2 := (M, Mr, Mo)) (As := [.int a1, .int a2]) (rest := [.int a3]) (n := 0) hx hb hml hown hts hX hP hS hl (c_Ve_syllablesOf Mr Mo a1 a2 M rfl) m_Ve_syllablesOf q_411 (hy_recv hX hP 9 8 (by decide) rfl rfl) rfl rfl (Nat.le_of_ble_eq_true rfl) dX9_hasSyllable_14 ⟨Nat.le_of_ble_eq_true rfl, Nat.le_of_ble_eq_true rfl⟩ ⟨Nat.zero_le _, Nat.zero_le _⟩) hS (fun H locs hP hS => ?_)
      refine lv_icmp_ge (tgt := 24) hx hb dX9_hasSyllable_17 (by decide) (fun c3 => ?_) (fun c3 => ?_)
      · refine lv_iconst (v := 0) hx hb dX9_hasSyllable_24 rfl ?_
        exact J4 _ _ ls 0 (by rw [if_neg c1, if_neg c2, decide_eq_true c3] <;> rfl) hP hS (lv_sub hl [0, 1, 2, 3] rfl)
      · refine lv_iconst (v := 1) hx hb dX9_hasSyllable_20 rfl ?_
        refine lv_goto (tgt := 25) hx hb dX9_hasSyllable_21 (by decide) ?_
        exact J4 _ _ ls 1 (by rw [if_neg c1, if_neg c2, decide_eq_false c3] <;> rfl) hP hS (lv_sub hl [0, 1, 2, 3] rfl)
set_option maxHeartbeats 1000000 in
set_option maxRecDepth 100000 in
theorem c_Ve_packedAt {l : Launch} {G : hyG} (Mr Mo : hyM) (a1 : Int32) (a2 : Int32) (a3 : Int32) (M : hyM) {res : Int32} (h : Ve_packedAt a1 a2 a3 M = res) : hyC l yX9_packedAt (.code yX9_packedAt cX9_packedAt 4 (some .int)) 1 22 (0) G [.ref (adr G 9), .int a1, .int a2, .int a3] (M, Mr, Mo) (.inr (some (.int res)), (M, Mr, Mo)) := by
  refine hy_of (by decide +kernel) (Nat.le_of_ble_eq_true rfl) ?_
  intro p e s m below meth c hx hb hml hown hts hr hlocks ht hX hP hS ls hl
  have hl : lv_has ls 4 [(0, .ref (adr G 9)), (1, .int a1), (2, .int a2), (3, .int a3)] := hl
  rw [Ve_packedAt] at h
  refine lv_aload_n hx hb dX9_packedAt_0 rfl (lv_at hl 0 rfl) ?_
  refine hy_get (T := (M, Mr, Mo)) (o := 9) (k := 1) (v := .ref (adr G 11)) hx hb hown hts hX hP (by decide) rfl rfl inX9g (by decide) q_185 rfl dX9_packedAt_1 ?_
  refine lv_aload_n hx hb dX9_packedAt_4 rfl (lv_at hl 0 rfl) ?_
  refine lv_iload_n hx hb dX9_packedAt_5 rfl (lv_at hl 1 rfl) ?_
  refine lv_iload_n hx hb dX9_packedAt_6 rfl (lv_at hl 2 rfl) ?_
  refine hy_ret (hy_rV0 (T := (M, Mr, Mo)) (v := some (.int (Ve_rowOf a1 a2 M))) (T2 := (M, Mr, Mo)) (As := [.int a1, .int a2]) (rest := [.ref (adr G 11)]) (n := 0) hx hb hml hown hts hX hP hS hl (c_Ve_rowOf Mr Mo a1 a2 M rfl) m_Ve_rowOf q_415 (hy_recv hX hP 9 8 (by decide) rfl rfl) rfl rfl (Nat.le_of_ble_eq_true rfl) dX9_packedAt_7 ⟨Nat.le_of_ble_eq_true rfl, Nat.le_of_ble_eq_true rfl⟩ ⟨Nat.zero_le _, Nat.zero_le _⟩) hS (fun H locs hP hS => ?_)
  refine lv_bipush (v := 30) hx hb dX9_packedAt_10 rfl ?_
  refine lv_imul hx hb dX9_packedAt_12 ?_
  refine lv_iload_n hx hb dX9_packedAt_13 rfl (lv_at hl 3 rfl) ?_
  refine lv_iadd hx hb dX9_packedAt_14 ?_
  refine hy_ret (hy_rSN (T := (M, Mr, Mo)) (v := some (.int (atf 2880 (M.1 11) (((Ve_rowOf a1 a2 M) * 30) + a3)))) (T2 := (M, Mr, Mo)) (As := [.ref (adr G 11), .int (((Ve_rowOf a1 a2 M) * 30) + a3)]) (rest := []) (n := 0) hx hb hml hown hts hX hP hS hl (c_at 11 2880 (hy34 G (by decide)) (by decide) (fun _ _ => rfl) (((Ve_rowOf a1 a2 M) * 30) + a3) (M, Mr, Mo)) m_Hp_at q_419 rfl rfl (Nat.le_of_ble_eq_true rfl) dX9_packedAt_15 ⟨Nat.le_of_ble_eq_true rfl, Nat.le_of_ble_eq_true rfl⟩ ⟨Nat.zero_le _, Nat.zero_le _⟩) hS (fun H locs hP hS => ?_)
  exact hy_iret (T := (M, Mr, Mo)) hx hb hr hlocks hP hS (Nat.zero_le _) (Nat.zero_le _) (by rw [← h] <;> rfl) dX9_packedAt_18
set_option maxHeartbeats 1000000 in
set_option maxRecDepth 100000 in
theorem c_Ve_lengthAt {l : Launch} {G : hyG} (Mr Mo : hyM) (a1 : Int32) (a2 : Int32) (a3 : Int32) (M : hyM) {res : Int32} (h : Ve_lengthAt a1 a2 a3 M = res) : hyC l yX9_lengthAt (.code yX9_lengthAt cX9_lengthAt 4 (some .int)) 2 45 (0) G [.ref (adr G 9), .int a1, .int a2, .int a3] (M, Mr, Mo) (.inr (some (.int res)), (M, Mr, Mo)) := by
  refine hy_of (by decide +kernel) (Nat.le_of_ble_eq_true rfl) ?_
  intro p e s m below meth c hx hb hml hown hts hr hlocks ht hX hP hS ls hl
  have hl : lv_has ls 4 [(0, .ref (adr G 9)), (1, .int a1), (2, .int a2), (3, .int a3)] := hl
  rw [Ve_lengthAt] at h
  refine lv_aload_n hx hb dX9_lengthAt_0 rfl (lv_at hl 0 rfl) ?_
  refine lv_iload_n hx hb dX9_lengthAt_1 rfl (lv_at hl 1 rfl) ?_
  refine lv_iload_n hx hb dX9_lengthAt_2 rfl (lv_at hl 2 rfl) ?_
  refine lv_iload_n hx hb dX9_lengthAt_3 rfl (lv_at hl 3 rfl) ?_
  refine hy_ret (hy_rV0 (T := (M, Mr, Mo)) (v := some (.int (Ve_packedAt a1 a2 a3 M))) (T2 := (M, Mr, Mo)) (As := [.int a1, .int a2, .int a3]) (rest := []) (n := 0) hx hb hml hown hts hX hP hS hl (c_Ve_packedAt Mr Mo a1 a2 a3 M rfl) m_Ve_packedAt q_527 (hy_recv hX hP 9 8 (by decide) rfl rfl) rfl rfl (Nat.le_of_ble_eq_true rfl) dX9_lengthAt_4 ⟨Nat.le_of_ble_eq_true rfl, Nat.le_of_ble_eq_true rfl⟩ ⟨Nat.zero_le _, Nat.zero_le _⟩) hS (fun H locs hP hS => ?_)
  refine lv_bipush (v := 7) hx hb dX9_lengthAt_7 rfl ?_
  refine lv_ishr hx hb dX9_lengthAt_9 ?_
  refine lv_bipush (v := 15) hx hb dX9_lengthAt_10 rfl ?_
  refine lv_iand hx hb dX9_lengthAt_12 ?_
  exact hy_iret (T := (M, Mr, Mo)) hx hb hr hlocks hP hS (Nat.zero_le _) (Nat.zero_le _) (by rw [← h] <;> rfl) dX9_lengthAt_13
set_option maxHeartbeats 1000000 in
set_option maxRecDepth 100000 in
theorem c_Ve_widestBelow {l : Launch} {G : hyG} (Mr Mo : hyM) (a1 : Int32) (a2 : Int32) (M : hyM) {res : Int32} (h : Ve_widestBelow a1 a2 M = some res) : hyC l yX9_widestBelow (.code yX9_widestBelow cX9_widestBelow 5 (some .int)) 3 68 (0) G [.ref (adr G 9), .int a1, .int a2] (M, Mr, Mo) (.inr (some (.int res)), (M, Mr, Mo)) := by
  refine hy_of (by decide +kernel) (Nat.le_of_ble_eq_true rfl) ?_
  intro p e s m below meth c hx hb hml hown hts hr hlocks ht hX hP hS ls hl
  have hl : lv_has ls 5 [(0, .ref (adr G 9)), (1, .int a1), (2, .int a2)] := hl
  rw [Ve_widestBelow] at h
  refine lv_iconst (v := 0) hx hb dX9_widestBelow_0 rfl ?_
  refine lv_istore_n (lv' := [(3, .int 0), (0, .ref (adr G 9)), (1, .int a1), (2, .int a2)]) hx hb dX9_widestBelow_1 rfl hl (by decide) rfl (fun ls hl => ?_)
  refine lv_iconst (v := 0) hx hb dX9_widestBelow_2 rfl ?_
  refine lv_istore (lv' := [(4, .int 0), (3, .int 0), (0, .ref (adr G 9)), (1, .int a1), (2, .int a2)]) hx hb dX9_widestBelow_3 hl (by decide) rfl (fun ls hl => ?_)
  have L6 : ∀ (f : Nat) (x1 : Int32) (x2 : Int32) (qL : (Int32 × Int32)) (h : Ve_widestBelow_L5 a1 a2 M f x1 x2 = some qL) (H : Heap) (locs : List Loc) (ls : Array Slot) (hP : va_P G.1 vwCl (wld G (M, Mr, Mo)) H) (hS : va_S (hyA G) s.heap H locs) (hl : lv_has ls 5 [(0, .ref (adr G 9)), (1, .int a1), (2, .int a2), (3, .int x1), (4, .int x2)]) (kk : ∀ (y1 : Int32) (y2 : Int32), qL = (y1, y2) → ∀ (H : Heap) (locs : List Loc) (ls : Array Slot), va_P G.1 vwCl (wld G (M, Mr, Mo)) H → va_S (hyA G) s.heap H locs → lv_has ls 5 [(0, .ref (adr G 9)), (1, .int a1), (2, .int a2), (3, .int y1), (4, .int y2)] → W p l e { frames := 3, cells := 0, slots := 6 * 0, locals := 68 } s m ([.ref (adr G 9), .int a1, .int a2] : List Value).toArray below meth c H locs 0 0 (vx_MQ below (hyQ G (.inr (some (.int res)), (M, Mr, Mo))) (hyXQ G (.inr (some (.int res)), (M, Mr, Mo))) ([.ref (adr G 9), .int a1, .int a2] : List Value).toArray s 0 (6 * 0) (hyA G)) (F0 m 41 ls [])), W p l e { frames := 3, cells := 0, slots := 6 * 0, locals := 68 } s m ([.ref (adr G 9), .int a1, .int a2] : List Value).toArray below meth c H locs 0 0 (vx_MQ below (hyQ G (.inr (some (.int res)), (M, Mr, Mo))) (hyXQ G (.inr (some (.int res)), (M, Mr, Mo))) ([.ref (adr G 9), .int a1, .int a2] : List Value).toArray s 0 (6 * 0) (hyA G)) (F0 m 5 ls []) := by
    intro f
    induction f with
    | zero =>
      intro x1 x2 qL h H locs ls hP hS hl kk
      rw [Ve_widestBelow_L5] at h
      cases h
    | succ f ih =>
      intro x1 x2 qL h H locs ls hP hS hl kk
      rw [Ve_widestBelow_L5] at h
      refine lv_iload hx hb dX9_widestBelow_5 (lv_at hl 4 rfl) ?_
      refine lv_iconst (v := 4) hx hb dX9_widestBelow_7 rfl ?_
      refine lv_icmp_ge (tgt := 41) hx hb dX9_widestBelow_8 (by decide) (fun c3 => ?_) (fun c3 => ?_)
      · rw [if_pos c3] at h
        exact kk x1 x2 (Option.some.inj h).symm _ _ ls hP hS (lv_sub hl [0, 1, 2, 3, 4] rfl)
      · rw [if_neg c3] at h
        refine lv_aload_n hx hb dX9_widestBelow_11 rfl (lv_at hl 0 rfl) ?_
        refine lv_iload hx hb dX9_widestBelow_12 (lv_at hl 4 rfl) ?_
        refine lv_iload_n hx hb dX9_widestBelow_14 rfl (lv_at hl 1 rfl) ?_
        refine lv_iload_n hx hb dX9_widestBelow_15 rfl (lv_at hl 2 rfl) ?_
        refine hy_ret (hy_rV0 (T := (M, Mr, Mo)) (v := some (.int (bI (Ve_hasSyllable x2 a1 a2 M)))) (T2 := (M, Mr, Mo)) (As := [.int x2, .int a1, .int a2]) (rest := []) (n := 0) hx hb hml hown hts hX hP hS hl (c_Ve_hasSyllable Mr Mo x2 a1 a2 M rfl) m_Ve_hasSyllable q_519 (hy_recv hX hP 9 8 (by decide) rfl rfl) rfl rfl (Nat.le_of_ble_eq_true rfl) dX9_widestBelow_16 ⟨Nat.le_of_ble_eq_true rfl, Nat.le_of_ble_eq_true rfl⟩ ⟨Nat.zero_le _, Nat.zero_le _⟩) hS (fun H locs hP hS => ?_)
        have J5 : ∀ (H : Heap) (locs : List Loc) (ls : Array Slot) (u1 : Int32), u1 = (if (Ve_hasSyllable x2 a1 a2 M) then (jmax x1 (Ve_lengthAt x2 a1 a2 M)) else x1) → va_P G.1 vwCl (wld G (M, Mr, Mo)) H → va_S (hyA G) s.heap H locs → lv_has ls 5 [(0, .ref (adr G 9)), (1, .int a1), (2, .int a2), (3, .int u1), (4, .int x2)] → W p l e { frames := 3, cells := 0, slots := 6 * 0, locals := 68 } s m ([.ref (adr G 9), .int a1, .int a2] : List Value).toArray below meth c H locs 0 0 (vx_MQ below (hyQ G (.inr (some (.int res)), (M, Mr, Mo))) (hyXQ G (.inr (some (.int res)), (M, Mr, Mo))) ([.ref (adr G 9), .int a1, .int a2] : List Value).toArray s 0 (6 * 0) (hyA G)) (F0 m 35 ls []) := by
          intro H locs ls u1 eu1 hP hS hl
          subst eu1
          refine lv_iinc (v := (x2 + 1)) (lv' := [(4, .int (x2 + 1)), (0, .ref (adr G 9)), (1, .int a1), (2, .int a2), (3, .int (if (Ve_hasSyllable x2 a1 a2 M) then (jmax x1 (Ve_lengthAt x2 a1 a2 M)) else x1))]) hx hb dX9_widestBelow_35 hl (k := 4) rfl rfl (by decide) rfl (fun ls hl => ?_)
          refine lv_goto (tgt := 5) hx hb dX9_widestBelow_38 (by decide) ?_
          exact ih (if (Ve_hasSyllable x2 a1 a2 M) then (jmax x1 (Ve_lengthAt x2 a1 a2 M)) else x1) (x2 + 1) _ h  _ _ ls hP hS (lv_sub hl [1, 2, 3, 4, 0] rfl) kk
        refine lv_if_eq (tgt := 35) hx hb dX9_widestBelow_19 (by decide) (fun c4 => ?_) (fun c4 => ?_)
        · exact J5 _ _ ls x1 (by rw [if_neg (bI_0 c4)] <;> rfl) hP hS (lv_sub hl [0, 1, 2, 3, 4] rfl)
        · refine lv_iload_n hx hb dX9_widestBelow_22 rfl (lv_at hl 3 rfl) ?_
          refine lv_aload_n hx hb dX9_widestBelow_23 rfl (lv_at hl 0 rfl) ?_
          refine lv_iload hx hb dX9_widestBelow_24 (lv_at hl 4 rfl) ?_
          refine lv_iload_n hx hb dX9_widestBelow_26 rfl (lv_at hl 1 rfl) ?_
          refine lv_iload_n hx hb dX9_widestBelow_27 rfl (lv_at hl 2 rfl) ?_
          refine hy_ret (hy_rV0 (T := (M, Mr, Mo)) (v := some (.int (Ve_lengthAt x2 a1 a2 M))) (T2 := (M, Mr, Mo)) (As := [.int x2, .int a1, .int a2]) (rest := [.int x1]) (n := 0) hx hb hml hown hts hX hP hS hl (c_Ve_lengthAt Mr Mo x2 a1 a2 M rfl) m_Ve_lengthAt q_523 (hy_recv hX hP 9 8 (by decide) rfl rfl) rfl rfl (Nat.le_of_ble_eq_true rfl) dX9_widestBelow_28 ⟨Nat.le_of_ble_eq_true rfl, Nat.le_of_ble_eq_true rfl⟩ ⟨Nat.zero_le _, Nat.zero_le _⟩) hS (fun H locs hP hS => ?_)
          refine va_mmax hx hb (hml.trans hl.1.symm) hown (hts _ q_531) (hts _ q_532) (hts _ q_98) (hts _ q_533) (by decide) (Nat.le_of_ble_eq_true rfl) (Nat.zero_le _) (Nat.zero_le _) dX9_widestBelow_31 ?_
          refine W.eq (g2 := F0 m 34 ls (.int (jmax x1 (Ve_lengthAt x2 a1 a2 M)) :: _)) rfl ?_
          refine lv_istore_n (lv' := [(3, .int (jmax x1 (Ve_lengthAt x2 a1 a2 M))), (0, .ref (adr G 9)), (1, .int a1), (2, .int a2), (4, .int x2)]) hx hb dX9_widestBelow_34 rfl hl (by decide) rfl (fun ls hl => ?_)
          exact J5 _ _ ls (jmax x1 (Ve_lengthAt x2 a1 a2 M)) (by rw [if_pos (bI_1 c4)] <;> rfl) hP hS (lv_sub hl [1, 2, 3, 0, 4] rfl)
  obtain ⟨q7, hq7, h⟩ := hy_bind h
  refine L6 hyFu 0 0 q7 hq7 _ _ ls hP hS (lv_sub hl [2, 3, 4, 1, 0] rfl) ?_
  intro y1 y2 e9 H locs ls hP hS hl
  subst e9
  try dsimp only at h
  refine lv_iload_n hx hb dX9_widestBelow_41 rfl (lv_at hl 3 rfl) ?_
  exact hy_iret (T := (M, Mr, Mo)) hx hb hr hlocks hP hS (Nat.zero_le _) (Nat.zero_le _) (by rw [← (Option.some.inj h)] <;> rfl) dX9_widestBelow_42
set_option maxHeartbeats 1000000 in
set_option maxRecDepth 100000 in
theorem c_Co_widthOf {l : Launch} {G : hyG} (Mr Mo : hyM) (a1 : Int32) (M : hyM) {res : Int32} (h : Co_widthOf a1 M = res) : hyC l yX2_widthOf (.code yX2_widthOf cX2_widthOf 2 (some .int)) 1 21 (0) G [.ref (adr G 21), .int a1] (M, Mr, Mo) (.inr (some (.int res)), (M, Mr, Mo)) := by
  refine hy_of (by decide +kernel) (Nat.le_of_ble_eq_true rfl) ?_
  intro p e s m below meth c hx hb hml hown hts hr hlocks ht hX hP hS ls hl
  have hl : lv_has ls 2 [(0, .ref (adr G 21)), (1, .int a1)] := hl
  rw [Co_widthOf] at h
  refine lv_aload_n hx hb dX2_widthOf_0 rfl (lv_at hl 0 rfl) ?_
  refine hy_get (T := (M, Mr, Mo)) (o := 21) (k := 0) (v := .ref (adr G 22)) hx hb hown hts hX hP (by decide) rfl rfl inX2g (by decide) q_242 rfl dX2_widthOf_1 ?_
  refine lv_iload_n hx hb dX2_widthOf_4 rfl (lv_at hl 1 rfl) ?_
  refine hy_ret (hy_rSN (T := (M, Mr, Mo)) (v := some (.int (atf 40 (M.1 22) a1))) (T2 := (M, Mr, Mo)) (As := [.ref (adr G 22), .int a1]) (rest := []) (n := 0) hx hb hml hown hts hX hP hS hl (c_at 22 40 (hy34 G (by decide)) (by decide) (fun _ _ => rfl) a1 (M, Mr, Mo)) m_Hp_at q_542 rfl rfl (Nat.le_of_ble_eq_true rfl) dX2_widthOf_5 ⟨Nat.le_of_ble_eq_true rfl, Nat.le_of_ble_eq_true rfl⟩ ⟨Nat.zero_le _, Nat.zero_le _⟩) hS (fun H locs hP hS => ?_)
  exact hy_iret (T := (M, Mr, Mo)) hx hb hr hlocks hP hS (Nat.zero_le _) (Nat.zero_le _) (by rw [← h] <;> rfl) dX2_widthOf_8
