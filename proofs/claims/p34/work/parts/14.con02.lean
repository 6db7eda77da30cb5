set_option maxHeartbeats 1000000 in
set_option maxRecDepth 100000 in
theorem c_In_isLine {l : Launch} {G : hyG} (Mr Mo : hyM) (M : hyM) {res : Bool} (h : In_isLine M = some res) : hyC l yX3_isLine (.code yX3_isLine cX3_isLine 1 (some .boolean)) 3 65 (0) G [.ref (adr G 28)] (M, Mr, Mo) (.inr (some (.int (bI res))), (M, Mr, Mo)) := by
  refine hy_of (by decide +kernel) (Nat.le_of_ble_eq_true rfl) ?_
  intro p e s m below meth c hx hb hml hown hts hr hlocks ht hX hP hS ls hl
  have hl : lv_has ls 1 [(0, .ref (adr G 28))] := hl
  rw [In_isLine] at h
  refine lv_aload_n hx hb dX3_isLine_0 rfl (lv_at hl 0 rfl) ?_
  refine hy_get (T := (M, Mr, Mo)) (o := 28) (k := 1) (v := .int (M.1 28 1)) hx hb hown hts hX hP (by decide) rfl rfl inX3g (by decide) q_284 rfl dX3_isLine_1 ?_
  refine lv_if_le (tgt := 38) hx hb dX3_isLine_4 (by decide) (fun c1 => ?_) (fun c1 => ?_)
  · rw [if_pos c1] at h
    refine lv_iconst (v := 0) hx hb dX3_isLine_38 rfl ?_
    exact hy_zret (T := (M, Mr, Mo)) hx hb hr hlocks hP hS (Nat.zero_le _) (Nat.zero_le _) (bI_nar false) (by rw [← (Option.some.inj h)] <;> rfl) dX3_isLine_39
  · rw [if_neg c1] at h
    refine lv_aload_n hx hb dX3_isLine_7 rfl (lv_at hl 0 rfl) ?_
    obtain ⟨v2, hv2, h⟩ := hy_bind h
    refine hy_ret (hy_rV0 (T := (M, Mr, Mo)) (v := some (.int v2)) (T2 := (M, Mr, Mo)) (As := []) (rest := []) (n := 0) hx hb hml hown hts hX hP hS hl (c_In_errorAsLine Mr Mo M hv2) m_In_errorAsLine q_1078 (hy_recv hX hP 28 3 (by decide) rfl rfl) rfl rfl (Nat.le_of_ble_eq_true rfl) dX3_isLine_8 ⟨Nat.le_of_ble_eq_true rfl, Nat.le_of_ble_eq_true rfl⟩ ⟨Nat.zero_le _, Nat.zero_le _⟩) hS (fun H locs hP hS => ?_)
    refine lv_aload_n hx hb dX3_isLine_11 rfl (lv_at hl 0 rfl) ?_
    refine hy_get (T := (M, Mr, Mo)) (o := 28) (k := 1) (v := .int (M.1 28 1)) hx hb hown hts hX hP (by decide) rfl rfl inX3g (by decide) q_284 rfl dX3_isLine_12 ?_
    have J5 : ∀ (H : Heap) (locs : List Loc) (ls : Array Slot) (u1 : Int32), u1 = (bI (if v2 = (M.1 28 1) then (In_isOfSyllable (In_codeAt ((M.1 28 1) - 1) M) M) else false)) → va_P G.1 vwCl (wld G (M, Mr, Mo)) H → va_S (hyA G) s.heap H locs → lv_has ls 1 [(0, .ref (adr G 28))] → W p l e { frames := 3, cells := 0, slots := 6 * 0, locals := 65 } s m ([.ref (adr G 28)] : List Value).toArray below meth c H locs 0 0 (vx_MQ below (hyQ G (.inr (some (.int (bI res))), (M, Mr, Mo))) (hyXQ G (.inr (some (.int (bI res))), (M, Mr, Mo))) ([.ref (adr G 28)] : List Value).toArray s 0 (6 * 0) (hyA G)) (F0 m 39 ls [.int u1]) := by
      intro H locs ls u1 eu1 hP hS hl
      subst eu1
      exact hy_zret (T := (M, Mr, Mo)) hx hb hr hlocks hP hS (Nat.zero_le _) (Nat.zero_le _) (bI_nar (if v2 = (M.1 28 1) then (In_isOfSyllable (In_codeAt ((M.1 28 1) - 1) M) M) else false)) (by rw [← (Option.some.inj h)] <;> rfl) dX3_isLine_39
    refine lv_icmp_ne (tgt := 38) hx hb dX3_isLine_15 (by decide) (fun c3 => ?_) (fun c3 => ?_)
    · refine lv_iconst (v := 0) hx hb dX3_isLine_38 rfl ?_
      exact J5 _ _ ls 0 (by rw [if_neg c3] <;> rfl) hP hS (lv_sub hl [0] rfl)
    · refine lv_aload_n hx hb dX3_isLine_18 rfl (lv_at hl 0 rfl) ?_
      refine lv_aload_n hx hb dX3_isLine_19 rfl (lv_at hl 0 rfl) ?_
      refine hy_get (T := (M, Mr, Mo)) (o := 28) (k := 1) (v := .int (M.1 28 1)) hx hb hown hts hX hP (by decide) rfl rfl inX3g (by decide) q_284 rfl dX3_isLine_20 ?_
      refine lv_iconst (v := 1) hx hb dX3_isLine_23 rfl ?_
      refine lv_isub hx hb dX3_isLine_24 ?_
      refine hy_ret (hy_rV0 (T := (M, Mr, Mo)) (v := some (.int (In_codeAt ((M.1 28 1) - 1) M))) (T2 := (M, Mr, Mo)) (As := [.int ((M.1 28 1) - 1)]) (rest := []) (n := 0) hx hb hml hown hts hX hP hS hl (c_In_codeAt Mr Mo ((M.1 28 1) - 1) M rfl) m_In_codeAt q_912 (hy_recv hX hP 28 3 (by decide) rfl rfl) rfl rfl (Nat.le_of_ble_eq_true rfl) dX3_isLine_25 ⟨Nat.le_of_ble_eq_true rfl, Nat.le_of_ble_eq_true rfl⟩ ⟨Nat.zero_le _, Nat.zero_le _⟩) hS (fun H locs hP hS => ?_)
      refine hy_ret (hy_rS0 (T := (M, Mr, Mo)) (v := some (.int (bI (In_isOfSyllable (In_codeAt ((M.1 28 1) - 1) M) M)))) (T2 := (M, Mr, Mo)) (As := [.int (In_codeAt ((M.1 28 1) - 1) M)]) (rest := []) (n := 0) hx hb hml hown hts hX hP hS hl (c_In_isOfSyllable Mr Mo (In_codeAt ((M.1 28 1) - 1) M) M rfl) m_In_isOfSyllable q_931 rfl rfl (Nat.le_of_ble_eq_true rfl) dX3_isLine_28 ⟨Nat.le_of_ble_eq_true rfl, Nat.le_of_ble_eq_true rfl⟩ ⟨Nat.zero_le _, Nat.zero_le _⟩) hS (fun H locs hP hS => ?_)
      refine lv_if_eq (tgt := 38) hx hb dX3_isLine_31 (by decide) (fun c4 => ?_) (fun c4 => ?_)
      · refine lv_iconst (v := 0) hx hb dX3_isLine_38 rfl ?_
        exact J5 _ _ ls 0 (by rw [if_pos c3, (bI_z c4)] <;> rfl) hP hS (lv_sub hl [0] rfl)
      · refine lv_iconst (v := 1) hx hb dX3_isLine_34 rfl ?_
        refine lv_goto (tgt := 39) hx hb dX3_isLine_35 (by decide) ?_
        exact J5 _ _ ls 1 (by rw [if_pos c3, (bI_1 c4)] <;> rfl) hP hS (lv_sub hl [0] rfl)
set_option maxHeartbeats 1000000 in
set_option maxRecDepth 100000 in
theorem c_In_isMetre {l : Launch} {G : hyG} (Mr Mo : hyM) (M : hyM) {res : Bool} (h : In_isMetre M = some res) : hyC l yX3_isMetre (.code yX3_isMetre cX3_isMetre 2 (some .boolean)) 3 67 (0) G [.ref (adr G 28)] (M, Mr, Mo) (.inr (some (.int (bI res))), (M, Mr, Mo)) := by
  refine hy_of (by decide +kernel) (Nat.le_of_ble_eq_true rfl) ?_
  intro p e s m below meth c hx hb hml hown hts hr hlocks ht hX hP hS ls hl
  have hl : lv_has ls 2 [(0, .ref (adr G 28))] := hl
  rw [In_isMetre] at h
  refine lv_aload_n hx hb dX3_isMetre_0 rfl (lv_at hl 0 rfl) ?_
  refine lv_aload_n hx hb dX3_isMetre_1 rfl (lv_at hl 0 rfl) ?_
  refine hy_get (T := (M, Mr, Mo)) (o := 28) (k := 1) (v := .int (M.1 28 1)) hx hb hown hts hX hP (by decide) rfl rfl inX3g (by decide) q_284 rfl dX3_isMetre_2 ?_
  refine lv_iconst (v := 1) hx hb dX3_isMetre_5 rfl ?_
  refine lv_isub hx hb dX3_isMetre_6 ?_
  refine hy_ret (hy_rV0 (T := (M, Mr, Mo)) (v := some (.int (In_codeAt ((M.1 28 1) - 1) M))) (T2 := (M, Mr, Mo)) (As := [.int ((M.1 28 1) - 1)]) (rest := []) (n := 0) hx hb hml hown hts hX hP hS hl (c_In_codeAt Mr Mo ((M.1 28 1) - 1) M rfl) m_In_codeAt q_912 (hy_recv hX hP 28 3 (by decide) rfl rfl) rfl rfl (Nat.le_of_ble_eq_true rfl) dX3_isMetre_7 ⟨Nat.le_of_ble_eq_true rfl, Nat.le_of_ble_eq_true rfl⟩ ⟨Nat.zero_le _, Nat.zero_le _⟩) hS (fun H locs hP hS => ?_)
  refine lv_istore_n (lv' := [(1, .int (In_codeAt ((M.1 28 1) - 1) M)), (0, .ref (adr G 28))]) hx hb dX3_isMetre_10 rfl hl (by decide) rfl (fun ls hl => ?_)
  refine lv_aload_n hx hb dX3_isMetre_11 rfl (lv_at hl 1 rfl) ?_
  refine hy_get (T := (M, Mr, Mo)) (o := 28) (k := 1) (v := .int (M.1 28 1)) hx hb hown hts hX hP (by decide) rfl rfl inX3g (by decide) q_284 rfl dX3_isMetre_12 ?_
  refine lv_if_le (tgt := 46) hx hb dX3_isMetre_15 (by decide) (fun c1 => ?_) (fun c1 => ?_)
  · rw [if_pos c1] at h
    refine lv_iconst (v := 0) hx hb dX3_isMetre_46 rfl ?_
    exact hy_zret (T := (M, Mr, Mo)) hx hb hr hlocks hP hS (Nat.zero_le _) (Nat.zero_le _) (bI_nar false) (by rw [← (Option.some.inj h)] <;> rfl) dX3_isMetre_47
  · rw [if_neg c1] at h
    refine lv_aload_n hx hb dX3_isMetre_18 rfl (lv_at hl 1 rfl) ?_
    obtain ⟨v2, hv2, h⟩ := hy_bind h
    refine hy_ret (hy_rV0 (T := (M, Mr, Mo)) (v := some (.int v2)) (T2 := (M, Mr, Mo)) (As := []) (rest := []) (n := 0) hx hb hml hown hts hX hP hS hl (c_In_errorAsMetre Mr Mo M hv2) m_In_errorAsMetre q_942 (hy_recv hX hP 28 3 (by decide) rfl rfl) rfl rfl (Nat.le_of_ble_eq_true rfl) dX3_isMetre_19 ⟨Nat.le_of_ble_eq_true rfl, Nat.le_of_ble_eq_true rfl⟩ ⟨Nat.zero_le _, Nat.zero_le _⟩) hS (fun H locs hP hS => ?_)
    refine lv_aload_n hx hb dX3_isMetre_22 rfl (lv_at hl 1 rfl) ?_
    refine hy_get (T := (M, Mr, Mo)) (o := 28) (k := 1) (v := .int (M.1 28 1)) hx hb hown hts hX hP (by decide) rfl rfl inX3g (by decide) q_284 rfl dX3_isMetre_23 ?_
    have J6 : ∀ (H : Heap) (locs : List Loc) (ls : Array Slot) (u1 : Int32), u1 = (bI (if v2 = (M.1 28 1) then (if (In_isDigit (In_codeAt ((M.1 28 1) - 1) M) M) then true else (decide ((In_codeAt ((M.1 28 1) - 1) M) = 68))) else false)) → va_P G.1 vwCl (wld G (M, Mr, Mo)) H → va_S (hyA G) s.heap H locs → lv_has ls 2 [(0, .ref (adr G 28)), (1, .int (In_codeAt ((M.1 28 1) - 1) M))] → W p l e { frames := 3, cells := 0, slots := 6 * 0, locals := 67 } s m ([.ref (adr G 28)] : List Value).toArray below meth c H locs 0 0 (vx_MQ below (hyQ G (.inr (some (.int (bI res))), (M, Mr, Mo))) (hyXQ G (.inr (some (.int (bI res))), (M, Mr, Mo))) ([.ref (adr G 28)] : List Value).toArray s 0 (6 * 0) (hyA G)) (F0 m 47 ls [.int u1]) := by
      intro H locs ls u1 eu1 hP hS hl
      subst eu1
      exact hy_zret (T := (M, Mr, Mo)) hx hb hr hlocks hP hS (Nat.zero_le _) (Nat.zero_le _) (bI_nar (if v2 = (M.1 28 1) then (if (In_isDigit (In_codeAt ((M.1 28 1) - 1) M) M) then true else (decide ((In_codeAt ((M.1 28 1) - 1) M) = 68))) else false)) (by rw [← (Option.some.inj h)] <;> rfl) dX3_isMetre_47
    refine lv_icmp_ne (tgt := 46) hx hb dX3_isMetre_26 (by decide) (fun c3 => ?_) (fun c3 => ?_)
    · refine lv_iconst (v := 0) hx hb dX3_isMetre_46 rfl ?_
      exact J6 _ _ ls 0 (by rw [if_neg c3] <;> rfl) hP hS (lv_sub hl [1, 0] rfl)
    · refine lv_iload_n hx hb dX3_isMetre_29 rfl (lv_at hl 0 rfl) ?_
      refine hy_ret (hy_rS0 (T := (M, Mr, Mo)) (v := some (.int (bI (In_isDigit (In_codeAt ((M.1 28 1) - 1) M) M)))) (T2 := (M, Mr, Mo)) (As := [.int (In_codeAt ((M.1 28 1) - 1) M)]) (rest := []) (n := 0) hx hb hml hown hts hX hP hS hl (c_In_isDigit Mr Mo (In_codeAt ((M.1 28 1) - 1) M) M rfl) m_In_isDigit q_917 rfl rfl (Nat.le_of_ble_eq_true rfl) dX3_isMetre_30 ⟨Nat.le_of_ble_eq_true rfl, Nat.le_of_ble_eq_true rfl⟩ ⟨Nat.zero_le _, Nat.zero_le _⟩) hS (fun H locs hP hS => ?_)
      refine lv_if_ne (tgt := 42) hx hb dX3_isMetre_33 (by decide) (fun c4 => ?_) (fun c4 => ?_)
      · refine lv_iconst (v := 1) hx hb dX3_isMetre_42 rfl ?_
        refine lv_goto (tgt := 47) hx hb dX3_isMetre_43 (by decide) ?_
        exact J6 _ _ ls 1 (by rw [if_pos c3, if_pos (bI_1 c4)] <;> rfl) hP hS (lv_sub hl [1, 0] rfl)
      · refine lv_iload_n hx hb dX3_isMetre_36 rfl (lv_at hl 0 rfl) ?_
        refine lv_bipush (v := 68) hx hb dX3_isMetre_37 rfl ?_
        refine lv_icmp_ne (tgt := 46) hx hb dX3_isMetre_39 (by decide) (fun c5 => ?_) (fun c5 => ?_)
        · refine lv_iconst (v := 0) hx hb dX3_isMetre_46 rfl ?_
          exact J6 _ _ ls 0 (by rw [if_pos c3, if_neg (bI_0 c4), decide_eq_false c5] <;> rfl) hP hS (lv_sub hl [1, 0] rfl)
        · refine lv_iconst (v := 1) hx hb dX3_isMetre_42 rfl ?_
          refine lv_goto (tgt := 47) hx hb dX3_isMetre_43 (by decide) ?_
          exact J6 _ _ ls 1 (by rw [if_pos c3, if_neg (bI_0 c4), decide_eq_true c5] <;> rfl) hP hS (lv_sub hl [1, 0] rfl)
set_option maxHeartbeats 1000000 in
set_option maxRecDepth 100000 in
theorem c_Jm_floorMod {l : Launch} {G : hyG} (Mr Mo : hyM) (a1 : Int32) (a2 : Int32) (M : hyM) {res : Int32} (h : Jm_floorMod a1 a2 M = some res) : hyC l yJ9_floorMod_7cf53 (.code yJ9_floorMod_7cf53 cJ9_floorMod_7cf53 3 (some .int)) 0 0 (0) G [.int a1, .int a2] (M, Mr, Mo) (.inr (some (.int res)), (M, Mr, Mo)) := by
  refine hy_of (by decide +kernel) (Nat.le_of_ble_eq_true rfl) ?_
  intro p e s m below meth c hx hb hml hown hts hr hlocks ht hX hP hS ls hl
  have hl : lv_has ls 3 [(0, .int a1), (1, .int a2)] := hl
  rw [Jm_floorMod] at h
  refine lv_iload_n hx hb dJ9_floorMod_7cf53_0 rfl (lv_at hl 0 rfl) ?_
  refine lv_iload_n hx hb dJ9_floorMod_7cf53_1 rfl (lv_at hl 1 rfl) ?_
  obtain ⟨v1, hv1, h⟩ := hy_bind h
  obtain ⟨nv1, hv1⟩ := jrm_some hv1
  refine lv_irem hx hb dJ9_floorMod_7cf53_2 nv1 ?_
  rw [hv1]
  refine lv_istore_n (lv' := [(2, .int v1), (0, .int a1), (1, .int a2)]) hx hb dJ9_floorMod_7cf53_3 rfl hl (by decide) rfl (fun ls hl => ?_)
  refine lv_iload_n hx hb dJ9_floorMod_7cf53_4 rfl (lv_at hl 1 rfl) ?_
  refine lv_iload_n hx hb dJ9_floorMod_7cf53_5 rfl (lv_at hl 2 rfl) ?_
  refine lv_ixor hx hb dJ9_floorMod_7cf53_6 ?_
  have K4 : ∀ (H : Heap) (locs : List Loc), (if 0 ≤ (a1 ^^^ a2) then false else (!decide (v1 = 0))) = true → va_P G.1 vwCl (wld G (M, Mr, Mo)) H → va_S (hyA G) s.heap H locs → W p l e { frames := 0, cells := 0, slots := 6 * 0, locals := 0 } s m ([.int a1, .int a2] : List Value).toArray below meth c H locs 0 0 (vx_MQ below (hyQ G (.inr (some (.int res)), (M, Mr, Mo))) (hyXQ G (.inr (some (.int res)), (M, Mr, Mo))) ([.int a1, .int a2] : List Value).toArray s 0 (6 * 0) (hyA G)) (F0 m 14 ls []) := by
    intro H locs cb hP hS
    rw [if_pos cb] at h
    refine lv_iload_n hx hb dJ9_floorMod_7cf53_14 rfl (lv_at hl 0 rfl) ?_
    refine lv_iload_n hx hb dJ9_floorMod_7cf53_15 rfl (lv_at hl 2 rfl) ?_
    refine lv_iadd hx hb dJ9_floorMod_7cf53_16 ?_
    exact hy_iret (T := (M, Mr, Mo)) hx hb hr hlocks hP hS (Nat.zero_le _) (Nat.zero_le _) (by rw [← (Option.some.inj h)] <;> rfl) dJ9_floorMod_7cf53_17
  have K5 : ∀ (H : Heap) (locs : List Loc), ¬ (if 0 ≤ (a1 ^^^ a2) then false else (!decide (v1 = 0))) = true → va_P G.1 vwCl (wld G (M, Mr, Mo)) H → va_S (hyA G) s.heap H locs → W p l e { frames := 0, cells := 0, slots := 6 * 0, locals := 0 } s m ([.int a1, .int a2] : List Value).toArray below meth c H locs 0 0 (vx_MQ below (hyQ G (.inr (some (.int res)), (M, Mr, Mo))) (hyXQ G (.inr (some (.int res)), (M, Mr, Mo))) ([.int a1, .int a2] : List Value).toArray s 0 (6 * 0) (hyA G)) (F0 m 18 ls []) := by
    intro H locs cb hP hS
    rw [if_neg cb] at h
    refine lv_iload_n hx hb dJ9_floorMod_7cf53_18 rfl (lv_at hl 0 rfl) ?_
    exact hy_iret (T := (M, Mr, Mo)) hx hb hr hlocks hP hS (Nat.zero_le _) (Nat.zero_le _) (by rw [← (Option.some.inj h)] <;> rfl) dJ9_floorMod_7cf53_19
  refine lv_if_ge (tgt := 18) hx hb dJ9_floorMod_7cf53_7 (by decide) (fun c2 => ?_) (fun c2 => ?_)
  · exact K5 _ _ (by rw [if_pos c2] <;> first | rfl | decide) hP hS
  · refine lv_iload_n hx hb dJ9_floorMod_7cf53_10 rfl (lv_at hl 0 rfl) ?_
    refine lv_if_eq (tgt := 18) hx hb dJ9_floorMod_7cf53_11 (by decide) (fun c3 => ?_) (fun c3 => ?_)
    · exact K5 _ _ (by rw [if_neg c2, decide_eq_true c3] <;> first | rfl | decide) hP hS
    · exact K4 _ _ (by rw [if_neg c2, decide_eq_false c3] <;> first | rfl | decide) hP hS
set_option maxHeartbeats 1000000 in
set_option maxRecDepth 100000 in
theorem c_Ke_degreeInKey {l : Launch} {G : hyG} (Mr Mo : hyM) (a1 : Int32) (a2 : Int32) (M : hyM) {res : Int32} (h : Ke_degreeInKey a1 a2 M = some res) : hyC l yX4_degreeInKey (.code yX4_degreeInKey cX4_degreeInKey 4 (some .int)) 1 22 (0) G [.int a1, .int a2] (M, Mr, Mo) (.inr (some (.int res)), (M, Mr, Mo)) := by
  refine hy_of (by decide +kernel) (Nat.le_of_ble_eq_true rfl) ?_
  intro p e s m below meth c hx hb hml hown hts hr hlocks ht hX hP hS ls hl
  have hl : lv_has ls 4 [(0, .int a1), (1, .int a2)] := hl
  rw [Ke_degreeInKey] at h
  refine lv_iload_n hx hb dX4_degreeInKey_0 rfl (lv_at hl 1 rfl) ?_
  refine lv_iload_n hx hb dX4_degreeInKey_1 rfl (lv_at hl 0 rfl) ?_
  refine lv_isub hx hb dX4_degreeInKey_2 ?_
  refine lv_bipush (v := 12) hx hb dX4_degreeInKey_3 rfl ?_
  obtain ⟨v1, hv1, h⟩ := hy_bind h
  refine hy_ret (hy_rS0 (T := (M, Mr, Mo)) (v := some (.int v1)) (T2 := (M, Mr, Mo)) (As := [.int (a2 - a1), .int 12]) (rest := []) (n := 0) hx hb hml hown hts hX hP hS hl (c_Jm_floorMod Mr Mo (a2 - a1) 12 M hv1) m_Jm_floorMod q_759 rfl rfl (Nat.le_of_ble_eq_true rfl) dX4_degreeInKey_5 ⟨Nat.le_of_ble_eq_true rfl, Nat.le_of_ble_eq_true rfl⟩ ⟨Nat.zero_le _, Nat.zero_le _⟩) hS (fun H locs hP hS => ?_)
  refine lv_istore_n (lv' := [(2, .int v1), (0, .int a1), (1, .int a2)]) hx hb dX4_degreeInKey_8 rfl hl (by decide) rfl (fun ls hl => ?_)
  refine lv_iconst (v := 0) hx hb dX4_degreeInKey_9 rfl ?_
  refine lv_istore_n (lv' := [(3, .int 0), (2, .int v1), (0, .int a1), (1, .int a2)]) hx hb dX4_degreeInKey_10 rfl hl (by decide) rfl (fun ls hl => ?_)
  have L5 : ∀ (f : Nat) (x2 : Int32) (qL : (Int32 ⊕ (Int32))) (h : Ke_degreeInKey_L11 v1 f x2 = some qL) (hq : ∀ r9, qL = .inl r9 → res = r9) (H : Heap) (locs : List Loc) (ls : Array Slot) (hP : va_P G.1 vwCl (wld G (M, Mr, Mo)) H) (hS : va_S (hyA G) s.heap H locs) (hl : lv_has ls 4 [(0, .int a1), (1, .int a2), (2, .int v1), (3, .int x2)]) (kk : ∀ (y2 : Int32), qL = .inr (y2) → ∀ (H : Heap) (locs : List Loc) (ls : Array Slot), va_P G.1 vwCl (wld G (M, Mr, Mo)) H → va_S (hyA G) s.heap H locs → lv_has ls 4 [(0, .int a1), (1, .int a2), (2, .int v1), (3, .int y2)] → W p l e { frames := 1, cells := 0, slots := 6 * 0, locals := 22 } s m ([.int a1, .int a2] : List Value).toArray below meth c H locs 0 0 (vx_MQ below (hyQ G (.inr (some (.int res)), (M, Mr, Mo))) (hyXQ G (.inr (some (.int res)), (M, Mr, Mo))) ([.int a1, .int a2] : List Value).toArray s 0 (6 * 0) (hyA G)) (F0 m 36 ls [])), W p l e { frames := 1, cells := 0, slots := 6 * 0, locals := 22 } s m ([.int a1, .int a2] : List Value).toArray below meth c H locs 0 0 (vx_MQ below (hyQ G (.inr (some (.int res)), (M, Mr, Mo))) (hyXQ G (.inr (some (.int res)), (M, Mr, Mo))) ([.int a1, .int a2] : List Value).toArray s 0 (6 * 0) (hyA G)) (F0 m 11 ls []) := by
    intro f
    induction f with
    | zero =>
      intro x2 qL h hq H locs ls hP hS hl kk
      rw [Ke_degreeInKey_L11] at h
      cases h
    | succ f ih =>
      intro x2 qL h hq H locs ls hP hS hl kk
      rw [Ke_degreeInKey_L11] at h
      refine lv_iload_n hx hb dX4_degreeInKey_11 rfl (lv_at hl 3 rfl) ?_
      refine lv_bipush (v := 7) hx hb dX4_degreeInKey_12 rfl ?_
      refine lv_icmp_ge (tgt := 36) hx hb dX4_degreeInKey_14 (by decide) (fun c3 => ?_) (fun c3 => ?_)
      · rw [if_pos c3] at h
        exact kk x2 (Option.some.inj h).symm _ _ ls hP hS (lv_sub hl [0, 1, 2, 3] rfl)
      · rw [if_neg c3] at h
        refine hy_gets hx hb hown hts hX hS 0 (by decide) q_760 dX4_degreeInKey_17 ?_
        refine lv_iload_n hx hb dX4_degreeInKey_20 rfl (lv_at hl 3 rfl) ?_
        refine hy_ret (hy_rSN (T := (M, Mr, Mo)) (v := some (.int (atf (hyKl 0) (hyKf 0) x2))) (T2 := (M, Mr, Mo)) (As := [.ref (exa G 0), .int x2]) (rest := []) (n := 0) hx hb hml hown hts hX hP hS hl (c_atx 0 (by decide) x2 (M, Mr, Mo)) m_Hp_at q_762 rfl rfl (Nat.le_of_ble_eq_true rfl) dX4_degreeInKey_21 ⟨Nat.le_of_ble_eq_true rfl, Nat.le_of_ble_eq_true rfl⟩ ⟨Nat.zero_le _, Nat.zero_le _⟩) hS (fun H locs hP hS => ?_)
        refine lv_iload_n hx hb dX4_degreeInKey_24 rfl (lv_at hl 2 rfl) ?_
        refine lv_icmp_ne (tgt := 30) hx hb dX4_degreeInKey_25 (by decide) (fun c4 => ?_) (fun c4 => ?_)
        · rw [if_neg c4] at h
          refine lv_iinc (v := (x2 + 1)) (lv' := [(3, .int (x2 + 1)), (0, .int a1), (1, .int a2), (2, .int v1)]) hx hb dX4_degreeInKey_30 hl (k := 3) rfl rfl (by decide) rfl (fun ls hl => ?_)
          refine lv_goto (tgt := 11) hx hb dX4_degreeInKey_33 (by decide) ?_
          exact ih (x2 + 1) _ h hq _ _ ls hP hS (lv_sub hl [1, 2, 3, 0] rfl) kk
        · rw [if_pos (c4)] at h
          refine lv_iload_n hx hb dX4_degreeInKey_28 rfl (lv_at hl 3 rfl) ?_
          exact hy_iret (T := (M, Mr, Mo)) hx hb hr hlocks hP hS (Nat.zero_le _) (Nat.zero_le _) (by rw [← (hq _ (Option.some.inj h).symm).symm] <;> rfl) dX4_degreeInKey_29
  obtain ⟨q6, hq6, h⟩ := hy_bind h
  refine L5 hyFu 0 q6 hq6 (fun r9 e9 => by subst e9; exact (Option.some.inj h).symm) _ _ ls hP hS (lv_sub hl [2, 3, 1, 0] rfl) ?_
  intro y2 e9 H locs ls hP hS hl
  subst e9
  try dsimp only at h
  refine lv_iconst (v := (-1)) hx hb dX4_degreeInKey_36 rfl ?_
  exact hy_iret (T := (M, Mr, Mo)) hx hb hr hlocks hP hS (Nat.zero_le _) (Nat.zero_le _) (by rw [← (Option.some.inj h)] <;> rfl) dX4_degreeInKey_37
set_option maxHeartbeats 1000000 in
set_option maxRecDepth 100000 in
theorem c_Ke_isRaised {l : Launch} {G : hyG} (Mr Mo : hyM) (a1 : Int32) (a2 : Int32) (M : hyM) {res : Bool} (h : Ke_isRaised a1 a2 M = some res) : hyC l yX4_isRaised (.code yX4_isRaised cX4_isRaised 2 (some .boolean)) 2 45 (0) G [.int a1, .int a2] (M, Mr, Mo) (.inr (some (.int (bI res))), (M, Mr, Mo)) := by
  refine hy_of (by decide +kernel) (Nat.le_of_ble_eq_true rfl) ?_
  intro p e s m below meth c hx hb hml hown hts hr hlocks ht hX hP hS ls hl
  have hl : lv_has ls 2 [(0, .int a1), (1, .int a2)] := hl
  rw [Ke_isRaised] at h
  refine lv_iload_n hx hb dX4_isRaised_0 rfl (lv_at hl 0 rfl) ?_
  refine lv_iload_n hx hb dX4_isRaised_1 rfl (lv_at hl 1 rfl) ?_
  obtain ⟨v1, hv1, h⟩ := hy_bind h
  refine hy_ret (hy_rS0 (T := (M, Mr, Mo)) (v := some (.int v1)) (T2 := (M, Mr, Mo)) (As := [.int a1, .int a2]) (rest := []) (n := 0) hx hb hml hown hts hX hP hS hl (c_Ke_degreeInKey Mr Mo a1 a2 M hv1) m_Ke_degreeInKey q_756 rfl rfl (Nat.le_of_ble_eq_true rfl) dX4_isRaised_2 ⟨Nat.le_of_ble_eq_true rfl, Nat.le_of_ble_eq_true rfl⟩ ⟨Nat.zero_le _, Nat.zero_le _⟩) hS (fun H locs hP hS => ?_)
  refine lv_iconst (v := (-1)) hx hb dX4_isRaised_5 rfl ?_
  have J3 : ∀ (H : Heap) (locs : List Loc) (ls : Array Slot) (u1 : Int32), u1 = (bI (decide (v1 = (-1)))) → va_P G.1 vwCl (wld G (M, Mr, Mo)) H → va_S (hyA G) s.heap H locs → lv_has ls 2 [(0, .int a1), (1, .int a2)] → W p l e { frames := 2, cells := 0, slots := 6 * 0, locals := 45 } s m ([.int a1, .int a2] : List Value).toArray below meth c H locs 0 0 (vx_MQ below (hyQ G (.inr (some (.int (bI res))), (M, Mr, Mo))) (hyXQ G (.inr (some (.int (bI res))), (M, Mr, Mo))) ([.int a1, .int a2] : List Value).toArray s 0 (6 * 0) (hyA G)) (F0 m 14 ls [.int u1]) := by
    intro H locs ls u1 eu1 hP hS hl
    subst eu1
    exact hy_zret (T := (M, Mr, Mo)) hx hb hr hlocks hP hS (Nat.zero_le _) (Nat.zero_le _) (bI_nar (decide (v1 = (-1)))) (by rw [← (Option.some.inj h)] <;> rfl) dX4_isRaised_14
  refine lv_icmp_ne (tgt := 13) hx hb dX4_isRaised_6 (by decide) (fun c2 => ?_) (fun c2 => ?_)
  · refine lv_iconst (v := 0) hx hb dX4_isRaised_13 rfl ?_
    exact J3 _ _ ls 0 (by rw [decide_eq_false c2] <;> rfl) hP hS (lv_sub hl [0, 1] rfl)
  · refine lv_iconst (v := 1) hx hb dX4_isRaised_9 rfl ?_
    refine lv_goto (tgt := 14) hx hb dX4_isRaised_10 (by decide) ?_
    exact J3 _ _ ls 1 (by rw [decide_eq_true c2] <;> rfl) hP hS (lv_sub hl [0, 1] rfl)
set_option maxHeartbeats 1000000 in
set_option maxRecDepth 100000 in
theorem c_Ke_written {l : Launch} {G : hyG} (Mr Mo : hyM) (a1 : Int32) (a2 : Int32) (M : hyM) {res : Int32} (h : Ke_written a1 a2 M = some res) : hyC l yX4_written (.code yX4_written cX4_written 2 (some .int)) 2 45 (0) G [.int a1, .int a2] (M, Mr, Mo) (.inr (some (.int res)), (M, Mr, Mo)) := by
  refine hy_of (by decide +kernel) (Nat.le_of_ble_eq_true rfl) ?_
  intro p e s m below meth c hx hb hml hown hts hr hlocks ht hX hP hS ls hl
  have hl : lv_has ls 2 [(0, .int a1), (1, .int a2)] := hl
  rw [Ke_written] at h
  refine lv_iload_n hx hb dX4_written_0 rfl (lv_at hl 0 rfl) ?_
  refine lv_iload_n hx hb dX4_written_1 rfl (lv_at hl 1 rfl) ?_
  obtain ⟨v1, hv1, h⟩ := hy_bind h
  refine hy_ret (hy_rS0 (T := (M, Mr, Mo)) (v := some (.int v1)) (T2 := (M, Mr, Mo)) (As := [.int a1, .int a2]) (rest := []) (n := 0) hx hb hml hown hts hX hP hS hl (c_Ke_degreeInKey Mr Mo a1 a2 M hv1) m_Ke_degreeInKey q_756 rfl rfl (Nat.le_of_ble_eq_true rfl) dX4_written_2 ⟨Nat.le_of_ble_eq_true rfl, Nat.le_of_ble_eq_true rfl⟩ ⟨Nat.zero_le _, Nat.zero_le _⟩) hS (fun H locs hP hS => ?_)
  refine lv_iconst (v := (-1)) hx hb dX4_written_5 rfl ?_
  have J3 : ∀ (H : Heap) (locs : List Loc) (ls : Array Slot) (u1 : Int32), u1 = (if v1 = (-1) then (a2 - 1) else a2) → va_P G.1 vwCl (wld G (M, Mr, Mo)) H → va_S (hyA G) s.heap H locs → lv_has ls 2 [(0, .int a1), (1, .int a2)] → W p l e { frames := 2, cells := 0, slots := 6 * 0, locals := 45 } s m ([.int a1, .int a2] : List Value).toArray below meth c H locs 0 0 (vx_MQ below (hyQ G (.inr (some (.int res)), (M, Mr, Mo))) (hyXQ G (.inr (some (.int res)), (M, Mr, Mo))) ([.int a1, .int a2] : List Value).toArray s 0 (6 * 0) (hyA G)) (F0 m 16 ls [.int u1]) := by
    intro H locs ls u1 eu1 hP hS hl
    subst eu1
    exact hy_iret (T := (M, Mr, Mo)) hx hb hr hlocks hP hS (Nat.zero_le _) (Nat.zero_le _) (by rw [← (Option.some.inj h)] <;> rfl) dX4_written_16
  refine lv_icmp_ne (tgt := 15) hx hb dX4_written_6 (by decide) (fun c2 => ?_) (fun c2 => ?_)
  · refine lv_iload_n hx hb dX4_written_15 rfl (lv_at hl 1 rfl) ?_
    exact J3 _ _ ls a2 (by rw [if_neg c2] <;> rfl) hP hS (lv_sub hl [0, 1] rfl)
  · refine lv_iload_n hx hb dX4_written_9 rfl (lv_at hl 1 rfl) ?_
    refine lv_iconst (v := 1) hx hb dX4_written_10 rfl ?_
    refine lv_isub hx hb dX4_written_11 ?_
    refine lv_goto (tgt := 16) hx hb dX4_written_12 (by decide) ?_
    exact J3 _ _ ls (a2 - 1) (by rw [if_pos c2] <;> rfl) hP hS (lv_sub hl [0, 1] rfl)
set_option maxHeartbeats 1000000 in
set_option maxRecDepth 100000 in
theorem c_Ke_degreeOf {l : Launch} {G : hyG} (Mr Mo : hyM) (a1 : Int32) (a2 : Int32) (M : hyM) {res : Int32} (h : Ke_degreeOf a1 a2 M = some res) : hyC l yX4_degreeOf (.code yX4_degreeOf cX4_degreeOf 3 (some .int)) 2 45 (0) G [.int a1, .int a2] (M, Mr, Mo) (.inr (some (.int res)), (M, Mr, Mo)) := by
  refine hy_of (by decide +kernel) (Nat.le_of_ble_eq_true rfl) ?_
  intro p e s m below meth c hx hb hml hown hts hr hlocks ht hX hP hS ls hl
  have hl : lv_has ls 3 [(0, .int a1), (1, .int a2)] := hl
  rw [Ke_degreeOf] at h
  refine lv_iload_n hx hb dX4_degreeOf_0 rfl (lv_at hl 0 rfl) ?_
  refine lv_iload_n hx hb dX4_degreeOf_1 rfl (lv_at hl 1 rfl) ?_
  obtain ⟨v1, hv1, h⟩ := hy_bind h
  refine hy_ret (hy_rS0 (T := (M, Mr, Mo)) (v := some (.int v1)) (T2 := (M, Mr, Mo)) (As := [.int a1, .int a2]) (rest := []) (n := 0) hx hb hml hown hts hX hP hS hl (c_Ke_degreeInKey Mr Mo a1 a2 M hv1) m_Ke_degreeInKey q_756 rfl rfl (Nat.le_of_ble_eq_true rfl) dX4_degreeOf_2 ⟨Nat.le_of_ble_eq_true rfl, Nat.le_of_ble_eq_true rfl⟩ ⟨Nat.zero_le _, Nat.zero_le _⟩) hS (fun H locs hP hS => ?_)
  refine lv_istore_n (lv' := [(2, .int v1), (0, .int a1), (1, .int a2)]) hx hb dX4_degreeOf_5 rfl hl (by decide) rfl (fun ls hl => ?_)
  refine lv_iload_n hx hb dX4_degreeOf_6 rfl (lv_at hl 0 rfl) ?_
  refine lv_iconst (v := (-1)) hx hb dX4_degreeOf_7 rfl ?_
  refine lv_icmp_eq (tgt := 15) hx hb dX4_degreeOf_8 (by decide) (fun c2 => ?_) (fun c2 => ?_)
  · rw [if_pos c2] at h
    refine lv_iload_n hx hb dX4_degreeOf_15 rfl (lv_at hl 1 rfl) ?_
    refine lv_iload_n hx hb dX4_degreeOf_16 rfl (lv_at hl 2 rfl) ?_
    refine lv_iconst (v := 1) hx hb dX4_degreeOf_17 rfl ?_
    refine lv_isub hx hb dX4_degreeOf_18 ?_
    obtain ⟨v3, hv3, h⟩ := hy_bind h
    refine hy_ret (hy_rS0 (T := (M, Mr, Mo)) (v := some (.int v3)) (T2 := (M, Mr, Mo)) (As := [.int a1, .int (a2 - 1)]) (rest := []) (n := 0) hx hb hml hown hts hX hP hS hl (c_Ke_degreeInKey Mr Mo a1 (a2 - 1) M hv3) m_Ke_degreeInKey q_756 rfl rfl (Nat.le_of_ble_eq_true rfl) dX4_degreeOf_19 ⟨Nat.le_of_ble_eq_true rfl, Nat.le_of_ble_eq_true rfl⟩ ⟨Nat.zero_le _, Nat.zero_le _⟩) hS (fun H locs hP hS => ?_)
    exact hy_iret (T := (M, Mr, Mo)) hx hb hr hlocks hP hS (Nat.zero_le _) (Nat.zero_le _) (by rw [← (Option.some.inj h)] <;> rfl) dX4_degreeOf_22
  · rw [if_neg c2] at h
    refine lv_iload_n hx hb dX4_degreeOf_11 rfl (lv_at hl 0 rfl) ?_
    refine lv_goto (tgt := 22) hx hb dX4_degreeOf_12 (by decide) ?_
    exact hy_iret (T := (M, Mr, Mo)) hx hb hr hlocks hP hS (Nat.zero_le _) (Nat.zero_le _) (by rw [← (Option.some.inj h)] <;> rfl) dX4_degreeOf_22
set_option maxHeartbeats 1000000 in
set_option maxRecDepth 100000 in
theorem c_Jm_floorDiv {l : Launch} {G : hyG} (Mr Mo : hyM) (a1 : Int32) (a2 : Int32) (M : hyM) {res : Int32} (h : Jm_floorDiv a1 a2 M = some res) : hyC l yJ9_floorDiv_7cf53 (.code yJ9_floorDiv_7cf53 cJ9_floorDiv_7cf53 3 (some .int)) 0 0 (0) G [.int a1, .int a2] (M, Mr, Mo) (.inr (some (.int res)), (M, Mr, Mo)) := by
  refine hy_of (by decide +kernel) (Nat.le_of_ble_eq_true rfl) ?_
  intro p e s m below meth c hx hb hml hown hts hr hlocks ht hX hP hS ls hl
  have hl : lv_has ls 3 [(0, .int a1), (1, .int a2)] := hl
  rw [Jm_floorDiv] at h
  refine lv_iload_n hx hb dJ9_floorDiv_7cf53_0 rfl (lv_at hl 0 rfl) ?_
  refine lv_iload_n hx hb dJ9_floorDiv_7cf53_1 rfl (lv_at hl 1 rfl) ?_
  obtain ⟨v1, hv1, h⟩ := hy_bind h
  obtain ⟨nv1, hv1⟩ := jdv_some hv1
  refine lv_idiv hx hb dJ9_floorDiv_7cf53_2 nv1 ?_
  rw [hv1]
  refine lv_istore_n (lv' := [(2, .int v1), (0, .int a1), (1, .int a2)]) hx hb dJ9_floorDiv_7cf53_3 rfl hl (by decide) rfl (fun ls hl => ?_)
  refine lv_iload_n hx hb dJ9_floorDiv_7cf53_4 rfl (lv_at hl 1 rfl) ?_
  refine lv_iload_n hx hb dJ9_floorDiv_7cf53_5 rfl (lv_at hl 2 rfl) ?_
  refine lv_ixor hx hb dJ9_floorDiv_7cf53_6 ?_
  have K4 : ∀ (H : Heap) (locs : List Loc), (if 0 ≤ (a1 ^^^ a2) then false else (!decide ((v1 * a2) = a1))) = true → va_P G.1 vwCl (wld G (M, Mr, Mo)) H → va_S (hyA G) s.heap H locs → W p l e { frames := 0, cells := 0, slots := 6 * 0, locals := 0 } s m ([.int a1, .int a2] : List Value).toArray below meth c H locs 0 0 (vx_MQ below (hyQ G (.inr (some (.int res)), (M, Mr, Mo))) (hyXQ G (.inr (some (.int res)), (M, Mr, Mo))) ([.int a1, .int a2] : List Value).toArray s 0 (6 * 0) (hyA G)) (F0 m 17 ls []) := by
    intro H locs cb hP hS
    rw [if_pos cb] at h
    refine lv_iload_n hx hb dJ9_floorDiv_7cf53_17 rfl (lv_at hl 0 rfl) ?_
    refine lv_iconst (v := 1) hx hb dJ9_floorDiv_7cf53_18 rfl ?_
    refine lv_isub hx hb dJ9_floorDiv_7cf53_19 ?_
    exact hy_iret (T := (M, Mr, Mo)) hx hb hr hlocks hP hS (Nat.zero_le _) (Nat.zero_le _) (by rw [← (Option.some.inj h)] <;> rfl) dJ9_floorDiv_7cf53_20
  have K5 : ∀ (H : Heap) (locs : List Loc), ¬ (if 0 ≤ (a1 ^^^ a2) then false else (!decide ((v1 * a2) = a1))) = true → va_P G.1 vwCl (wld G (M, Mr, Mo)) H → va_S (hyA G) s.heap H locs → W p l e { frames := 0, cells := 0, slots := 6 * 0, locals := 0 } s m ([.int a1, .int a2] : List Value).toArray below meth c H locs 0 0 (vx_MQ below (hyQ G (.inr (some (.int res)), (M, Mr, Mo))) (hyXQ G (.inr (some (.int res)), (M, Mr, Mo))) ([.int a1, .int a2] : List Value).toArray s 0 (6 * 0) (hyA G)) (F0 m 21 ls []) := by
    intro H locs cb hP hS
    rw [if_neg cb] at h
    refine lv_iload_n hx hb dJ9_floorDiv_7cf53_21 rfl (lv_at hl 0 rfl) ?_
    exact hy_iret (T := (M, Mr, Mo)) hx hb hr hlocks hP hS (Nat.zero_le _) (Nat.zero_le _) (by rw [← (Option.some.inj h)] <;> rfl) dJ9_floorDiv_7cf53_22
  refine lv_if_ge (tgt := 21) hx hb dJ9_floorDiv_7cf53_7 (by decide) (fun c2 => ?_) (fun c2 => ?_)
  · exact K5 _ _ (by rw [if_pos c2] <;> first | rfl | decide) hP hS
  · refine lv_iload_n hx hb dJ9_floorDiv_7cf53_10 rfl (lv_at hl 0 rfl) ?_
    refine lv_iload_n hx hb dJ9_floorDiv_7cf53_11 rfl (lv_at hl 2 rfl) ?_
    refine lv_imul hx hb dJ9_floorDiv_7cf53_12 ?_
    refine lv_iload_n hx hb dJ9_floorDiv_7cf53_13 rfl (lv_at hl 1 rfl) ?_
    refine lv_icmp_eq (tgt := 21) hx hb dJ9_floorDiv_7cf53_14 (by decide) (fun c3 => ?_) (fun c3 => ?_)
    · exact K5 _ _ (by rw [if_neg c2, decide_eq_true c3] <;> first | rfl | decide) hP hS
    · exact K4 _ _ (by rw [if_neg c2, decide_eq_false c3] <;> first | rfl | decide) hP hS
set_option maxHeartbeats 1000000 in
set_option maxRecDepth 100000 in
theorem c_Ke_stepOf {l : Launch} {G : hyG} (Mr Mo : hyM) (a1 : Int32) (a2 : Int32) (M : hyM) {res : Int32} (h : Ke_stepOf a1 a2 M = some res) : hyC l yX4_stepOf (.code yX4_stepOf cX4_stepOf 4 (some .int)) 3 67 (0) G [.int a1, .int a2] (M, Mr, Mo) (.inr (some (.int res)), (M, Mr, Mo)) := by
  refine hy_of (by decide +kernel) (Nat.le_of_ble_eq_true rfl) ?_
  intro p e s m below meth c hx hb hml hown hts hr hlocks ht hX hP hS ls hl
  have hl : lv_has ls 4 [(0, .int a1), (1, .int a2)] := hl
  rw [Ke_stepOf] at h
  refine hy_gets hx hb hown hts hX hS 1 (by decide) q_769 dX4_stepOf_0 ?_
  refine lv_iload_n hx hb dX4_stepOf_3 rfl (lv_at hl 0 rfl) ?_
  refine hy_ret (hy_rSN (T := (M, Mr, Mo)) (v := some (.int (atf (hyKl 1) (hyKf 1) a1))) (T2 := (M, Mr, Mo)) (As := [.ref (exa G 1), .int a1]) (rest := []) (n := 0) hx hb hml hown hts hX hP hS hl (c_atx 1 (by decide) a1 (M, Mr, Mo)) m_Hp_at q_762 rfl rfl (Nat.le_of_ble_eq_true rfl) dX4_stepOf_4 ⟨Nat.le_of_ble_eq_true rfl, Nat.le_of_ble_eq_true rfl⟩ ⟨Nat.zero_le _, Nat.zero_le _⟩) hS (fun H locs hP hS => ?_)
  refine lv_iload_n hx hb dX4_stepOf_7 rfl (lv_at hl 0 rfl) ?_
  refine lv_iload_n hx hb dX4_stepOf_8 rfl (lv_at hl 1 rfl) ?_
  obtain ⟨v1, hv1, h⟩ := hy_bind h
  refine hy_ret (hy_rS0 (T := (M, Mr, Mo)) (v := some (.int v1)) (T2 := (M, Mr, Mo)) (As := [.int a1, .int a2]) (rest := [.int (atf (hyKl 1) (hyKf 1) a1)]) (n := 0) hx hb hml hown hts hX hP hS hl (c_Ke_degreeOf Mr Mo a1 a2 M hv1) m_Ke_degreeOf q_771 rfl rfl (Nat.le_of_ble_eq_true rfl) dX4_stepOf_9 ⟨Nat.le_of_ble_eq_true rfl, Nat.le_of_ble_eq_true rfl⟩ ⟨Nat.zero_le _, Nat.zero_le _⟩) hS (fun H locs hP hS => ?_)
  refine lv_iadd hx hb dX4_stepOf_12 ?_
  refine lv_bipush (v := 7) hx hb dX4_stepOf_13 rfl ?_
  refine lv_irem hx hb dX4_stepOf_15 (by decide) ?_
  refine lv_istore_n (lv' := [(2, .int (((atf (hyKl 1) (hyKf 1) a1) + v1) - ((atf (hyKl 1) (hyKf 1) a1) + v1) / 7 * 7)), (0, .int a1), (1, .int a2)]) hx hb dX4_stepOf_16 rfl hl (by decide) rfl (fun ls hl => ?_)
  refine lv_iload_n hx hb dX4_stepOf_17 rfl (lv_at hl 1 rfl) ?_
  refine lv_iload_n hx hb dX4_stepOf_18 rfl (lv_at hl 2 rfl) ?_
  obtain ⟨v2, hv2, h⟩ := hy_bind h
  refine hy_ret (hy_rS0 (T := (M, Mr, Mo)) (v := some (.int v2)) (T2 := (M, Mr, Mo)) (As := [.int a1, .int a2]) (rest := []) (n := 0) hx hb hml hown hts hX hP hS hl (c_Ke_written Mr Mo a1 a2 M hv2) m_Ke_written q_772 rfl rfl (Nat.le_of_ble_eq_true rfl) dX4_stepOf_19 ⟨Nat.le_of_ble_eq_true rfl, Nat.le_of_ble_eq_true rfl⟩ ⟨Nat.zero_le _, Nat.zero_le _⟩) hS (fun H locs hP hS => ?_)
  refine hy_gets hx hb hown hts hX hS 0 (by decide) q_760 dX4_stepOf_22 ?_
  refine lv_iload_n hx hb dX4_stepOf_25 rfl (lv_at hl 0 rfl) ?_
  refine hy_ret (hy_rSN (T := (M, Mr, Mo)) (v := some (.int (atf (hyKl 0) (hyKf 0) (((atf (hyKl 1) (hyKf 1) a1) + v1) - ((atf (hyKl 1) (hyKf 1) a1) + v1) / 7 * 7)))) (T2 := (M, Mr, Mo)) (As := [.ref (exa G 0), .int (((atf (hyKl 1) (hyKf 1) a1) + v1) - ((atf (hyKl 1) (hyKf 1) a1) + v1) / 7 * 7)]) (rest := [.int v2]) (n := 0) hx hb hml hown hts hX hP hS hl (c_atx 0 (by decide) (((atf (hyKl 1) (hyKf 1) a1) + v1) - ((atf (hyKl 1) (hyKf 1) a1) + v1) / 7 * 7) (M, Mr, Mo)) m_Hp_at q_762 rfl rfl (Nat.le_of_ble_eq_true rfl) dX4_stepOf_26 ⟨Nat.le_of_ble_eq_true rfl, Nat.le_of_ble_eq_true rfl⟩ ⟨Nat.zero_le _, Nat.zero_le _⟩) hS (fun H locs hP hS => ?_)
  refine lv_isub hx hb dX4_stepOf_29 ?_
  refine lv_iconst (v := 2) hx hb dX4_stepOf_30 rfl ?_
  refine lv_iadd hx hb dX4_stepOf_31 ?_
  refine lv_bipush (v := 12) hx hb dX4_stepOf_32 rfl ?_
  obtain ⟨v3, hv3, h⟩ := hy_bind h
  refine hy_ret (hy_rS0 (T := (M, Mr, Mo)) (v := some (.int v3)) (T2 := (M, Mr, Mo)) (As := [.int ((v2 - (atf (hyKl 0) (hyKf 0) (((atf (hyKl 1) (hyKf 1) a1) + v1) - ((atf (hyKl 1) (hyKf 1) a1) + v1) / 7 * 7))) + 2), .int 12]) (rest := []) (n := 0) hx hb hml hown hts hX hP hS hl (c_Jm_floorDiv Mr Mo ((v2 - (atf (hyKl 0) (hyKf 0) (((atf (hyKl 1) (hyKf 1) a1) + v1) - ((atf (hyKl 1) (hyKf 1) a1) + v1) / 7 * 7))) + 2) 12 M hv3) m_Jm_floorDiv q_775 rfl rfl (Nat.le_of_ble_eq_true rfl) dX4_stepOf_34 ⟨Nat.le_of_ble_eq_true rfl, Nat.le_of_ble_eq_true rfl⟩ ⟨Nat.zero_le _, Nat.zero_le _⟩) hS (fun H locs hP hS => ?_)
  refine lv_istore_n (lv' := [(3, .int v3), (2, .int (((atf (hyKl 1) (hyKf 1) a1) + v1) - ((atf (hyKl 1) (hyKf 1) a1) + v1) / 7 * 7)), (0, .int a1), (1, .int a2)]) hx hb dX4_stepOf_37 rfl hl (by decide) rfl (fun ls hl => ?_)
  refine lv_bipush (v := 7) hx hb dX4_stepOf_38 rfl ?_
  refine lv_iload_n hx hb dX4_stepOf_40 rfl (lv_at hl 0 rfl) ?_
  refine lv_imul hx hb dX4_stepOf_41 ?_
  refine lv_iload_n hx hb dX4_stepOf_42 rfl (lv_at hl 1 rfl) ?_
  refine lv_iadd hx hb dX4_stepOf_43 ?_
  exact hy_iret (T := (M, Mr, Mo)) hx hb hr hlocks hP hS (Nat.zero_le _) (Nat.zero_le _) (by rw [← (Option.some.inj h)] <;> rfl) dX4_stepOf_44
set_option maxHeartbeats 1000000 in
set_option maxRecDepth 100000 in
theorem c_Ke_shapeOf {l : Launch} {G : hyG} (Mr Mo : hyM) (a1 : Int32) (a2 : Int32) (M : hyM) {res : Int32} (h : Ke_shapeOf a1 a2 M = some res) : hyC l yX4_shapeOf (.code yX4_shapeOf cX4_shapeOf 2 (some .int)) 3 67 (0) G [.int a1, .int a2] (M, Mr, Mo) (.inr (some (.int res)), (M, Mr, Mo)) := by
  refine hy_of (by decide +kernel) (Nat.le_of_ble_eq_true rfl) ?_
  intro p e s m below meth c hx hb hml hown hts hr hlocks ht hX hP hS ls hl
  have hl : lv_has ls 2 [(0, .int a1), (1, .int a2)] := hl
  rw [Ke_shapeOf] at h
  refine hy_gets hx hb hown hts hX hS 2 (by decide) q_781 dX4_shapeOf_0 ?_
  refine lv_iload_n hx hb dX4_shapeOf_3 rfl (lv_at hl 0 rfl) ?_
  refine lv_iload_n hx hb dX4_shapeOf_4 rfl (lv_at hl 1 rfl) ?_
  obtain ⟨v1, hv1, h⟩ := hy_bind h
  refine hy_ret (hy_rS0 (T := (M, Mr, Mo)) (v := some (.int v1)) (T2 := (M, Mr, Mo)) (As := [.int a1, .int a2]) (rest := [.ref (exa G 2)]) (n := 0) hx hb hml hown hts hX hP hS hl (c_Ke_degreeOf Mr Mo a1 a2 M hv1) m_Ke_degreeOf q_771 rfl rfl (Nat.le_of_ble_eq_true rfl) dX4_shapeOf_5 ⟨Nat.le_of_ble_eq_true rfl, Nat.le_of_ble_eq_true rfl⟩ ⟨Nat.zero_le _, Nat.zero_le _⟩) hS (fun H locs hP hS => ?_)
  refine hy_ret (hy_rSN (T := (M, Mr, Mo)) (v := some (.int (atf (hyKl 2) (hyKf 2) v1))) (T2 := (M, Mr, Mo)) (As := [.ref (exa G 2), .int v1]) (rest := []) (n := 0) hx hb hml hown hts hX hP hS hl (c_atx 2 (by decide) v1 (M, Mr, Mo)) m_Hp_at q_762 rfl rfl (Nat.le_of_ble_eq_true rfl) dX4_shapeOf_8 ⟨Nat.le_of_ble_eq_true rfl, Nat.le_of_ble_eq_true rfl⟩ ⟨Nat.zero_le _, Nat.zero_le _⟩) hS (fun H locs hP hS => ?_)
  exact hy_iret (T := (M, Mr, Mo)) hx hb hr hlocks hP hS (Nat.zero_le _) (Nat.zero_le _) (by rw [← (Option.some.inj h)] <;> rfl) dX4_shapeOf_11
set_option maxHeartbeats 1000000 in
set_option maxRecDepth 100000 in
theorem c_Ke_ledgerLines {l : Launch} {G : hyG} (Mr Mo : hyM) (a1 : Int32) (a2 : Int32) (M : hyM) {res : Int32} (h : Ke_ledgerLines a1 a2 M = res) : hyC l yX4_ledgerLines (.code yX4_ledgerLines cX4_ledgerLines 4 (some .int)) 1 21 (0) G [.int a1, .int a2] (M, Mr, Mo) (.inr (some (.int res)), (M, Mr, Mo)) := by
  refine hy_of (by decide +kernel) (Nat.le_of_ble_eq_true rfl) ?_
  intro p e s m below meth c hx hb hml hown hts hr hlocks ht hX hP hS ls hl
  have hl : lv_has ls 4 [(0, .int a1), (1, .int a2)] := hl
  rw [Ke_ledgerLines] at h
  refine hy_gets hx hb hown hts hX hS 3 (by decide) q_786 dX4_ledgerLines_0 ?_
  refine lv_iload_n hx hb dX4_ledgerLines_3 rfl (lv_at hl 1 rfl) ?_
  refine hy_ret (hy_rSN (T := (M, Mr, Mo)) (v := some (.int (atf (hyKl 3) (hyKf 3) a2))) (T2 := (M, Mr, Mo)) (As := [.ref (exa G 3), .int a2]) (rest := []) (n := 0) hx hb hml hown hts hX hP hS hl (c_atx 3 (by decide) a2 (M, Mr, Mo)) m_Hp_at q_762 rfl rfl (Nat.le_of_ble_eq_true rfl) dX4_ledgerLines_4 ⟨Nat.le_of_ble_eq_true rfl, Nat.le_of_ble_eq_true rfl⟩ ⟨Nat.zero_le _, Nat.zero_le _⟩) hS (fun H locs hP hS => ?_)
  refine lv_istore_n (lv' := [(2, .int (atf (hyKl 3) (hyKf 3) a2)), (0, .int a1), (1, .int a2)]) hx hb dX4_ledgerLines_7 rfl hl (by decide) rfl (fun ls hl => ?_)
  refine lv_iload_n hx hb dX4_ledgerLines_8 rfl (lv_at hl 0 rfl) ?_
  refine lv_bipush (v := 8) hx hb dX4_ledgerLines_9 rfl ?_
  refine lv_iadd hx hb dX4_ledgerLines_11 ?_
  refine lv_istore_n (lv' := [(3, .int ((atf (hyKl 3) (hyKf 3) a2) + 8)), (2, .int (atf (hyKl 3) (hyKf 3) a2)), (0, .int a1), (1, .int a2)]) hx hb dX4_ledgerLines_12 rfl hl (by decide) rfl (fun ls hl => ?_)
  refine lv_iload_n hx hb dX4_ledgerLines_13 rfl (lv_at hl 2 rfl) ?_
  refine lv_iload_n hx hb dX4_ledgerLines_14 rfl (lv_at hl 0 rfl) ?_
  refine lv_icmp_le (tgt := 24) hx hb dX4_ledgerLines_15 (by decide) (fun c1 => ?_) (fun c1 => ?_)
  · rw [if_pos c1] at h
    refine lv_iload_n hx hb dX4_ledgerLines_24 rfl (lv_at hl 2 rfl) ?_
    refine lv_iload_n hx hb dX4_ledgerLines_25 rfl (lv_at hl 1 rfl) ?_
    have J3 : ∀ (H : Heap) (locs : List Loc) (ls : Array Slot) (u1 : Int32), u1 = (if (atf (hyKl 3) (hyKf 3) a2) ≤ a1 then 0 else (((atf (hyKl 3) (hyKf 3) a2) - a1) / 2)) → va_P G.1 vwCl (wld G (M, Mr, Mo)) H → va_S (hyA G) s.heap H locs → lv_has ls 4 [(0, .int a1), (1, .int a2), (2, .int (atf (hyKl 3) (hyKf 3) a2)), (3, .int ((atf (hyKl 3) (hyKf 3) a2) + 8))] → W p l e { frames := 1, cells := 0, slots := 6 * 0, locals := 21 } s m ([.int a1, .int a2] : List Value).toArray below meth c H locs 0 0 (vx_MQ below (hyQ G (.inr (some (.int res)), (M, Mr, Mo))) (hyXQ G (.inr (some (.int res)), (M, Mr, Mo))) ([.int a1, .int a2] : List Value).toArray s 0 (6 * 0) (hyA G)) (F0 m 38 ls [.int u1]) := by
      intro H locs ls u1 eu1 hP hS hl
      subst eu1
      exact hy_iret (T := (M, Mr, Mo)) hx hb hr hlocks hP hS (Nat.zero_le _) (Nat.zero_le _) (by rw [← h] <;> rfl) dX4_ledgerLines_38
    refine lv_icmp_ge (tgt := 37) hx hb dX4_ledgerLines_26 (by decide) (fun c2 => ?_) (fun c2 => ?_)
    · refine lv_iconst (v := 0) hx hb dX4_ledgerLines_37 rfl ?_
      exact J3 _ _ ls 0 (by rw [if_pos c2] <;> rfl) hP hS (lv_sub hl [2, 3, 1, 0] rfl)
    · refine lv_iload_n hx hb dX4_ledgerLines_29 rfl (lv_at hl 1 rfl) ?_
      refine lv_iload_n hx hb dX4_ledgerLines_30 rfl (lv_at hl 2 rfl) ?_
      refine lv_isub hx hb dX4_ledgerLines_31 ?_
      refine lv_iconst (v := 2) hx hb dX4_ledgerLines_32 rfl ?_
      refine lv_idiv hx hb dX4_ledgerLines_33 (by decide) ?_
      refine lv_goto (tgt := 38) hx hb dX4_ledgerLines_34 (by decide) ?_
      exact J3 _ _ ls (((atf (hyKl 3) (hyKf 3) a2) - a1) / 2) (by rw [if_neg c2] <;> rfl) hP hS (lv_sub hl [2, 3, 1, 0] rfl)
  · rw [if_neg c1] at h
    refine lv_iload_n hx hb dX4_ledgerLines_18 rfl (lv_at hl 2 rfl) ?_
    refine lv_iload_n hx hb dX4_ledgerLines_19 rfl (lv_at hl 0 rfl) ?_
    refine lv_isub hx hb dX4_ledgerLines_20 ?_
    refine lv_iconst (v := 2) hx hb dX4_ledgerLines_21 rfl ?_
    refine lv_idiv hx hb dX4_ledgerLines_22 (by decide) ?_
    exact hy_iret (T := (M, Mr, Mo)) hx hb hr hlocks hP hS (Nat.zero_le _) (Nat.zero_le _) (by rw [← h] <;> rfl) dX4_ledgerLines_23
set_option maxHeartbeats 1000000 in
set_option maxRecDepth 100000 in
theorem c_Or_timesOf {l : Launch} {G : hyG} (Mr Mo : hyM) (a1 : Int32) (M : hyM) {res : Int32} (h : Or_timesOf a1 M = res) : hyC l yX5_timesOf (.code yX5_timesOf cX5_timesOf 2 (some .int)) 1 21 (0) G [.ref (adr G 18), .int a1] (M, Mr, Mo) (.inr (some (.int res)), (M, Mr, Mo)) := by
  refine hy_of (by decide +kernel) (Nat.le_of_ble_eq_true rfl) ?_
  intro p e s m below meth c hx hb hml hown hts hr hlocks ht hX hP hS ls hl
  have hl : lv_has ls 2 [(0, .ref (adr G 18)), (1, .int a1)] := hl
  rw [Or_timesOf] at h
  refine lv_aload_n hx hb dX5_timesOf_0 rfl (lv_at hl 0 rfl) ?_
  refine hy_get (T := (M, Mr, Mo)) (o := 18) (k := 1) (v := .ref (adr G 20)) hx hb hown hts hX hP (by decide) rfl rfl inX5g (by decide) q_225 rfl dX5_timesOf_1 ?_
  refine lv_iload_n hx hb dX5_timesOf_4 rfl (lv_at hl 1 rfl) ?_
  refine hy_ret (hy_rSN (T := (M, Mr, Mo)) (v := some (.int (atf 40 (M.1 20) a1))) (T2 := (M, Mr, Mo)) (As := [.ref (adr G 20), .int a1]) (rest := []) (n := 0) hx hb hml hown hts hX hP hS hl (c_at 20 40 (hy34 G (by decide)) (by decide) (fun _ _ => rfl) a1 (M, Mr, Mo)) m_Hp_at q_477 rfl rfl (Nat.le_of_ble_eq_true rfl) dX5_timesOf_5 ⟨Nat.le_of_ble_eq_true rfl, Nat.le_of_ble_eq_true rfl⟩ ⟨Nat.zero_le _, Nat.zero_le _⟩) hS (fun H locs hP hS => ?_)
  exact hy_iret (T := (M, Mr, Mo)) hx hb hr hlocks hP hS (Nat.zero_le _) (Nat.zero_le _) (by rw [← h] <;> rfl) dX5_timesOf_8
set_option maxHeartbeats 1000000 in
set_option maxRecDepth 100000 in
theorem c_Or_push {l : Launch} {G : hyG} (Mr Mo : hyM) (a1 : Int32) (M : hyM) {res : hyM} (h : Or_push a1 M = res) : hyC l yX5_push (.code yX5_push cX5_push 2 none) 2 42 (0) G [.ref (adr G 18), .int a1] (M, Mr, Mo) (.inr none, (res, Mr, Mo)) := by
  refine hy_of (by decide +kernel) (Nat.le_of_ble_eq_true rfl) ?_
  intro p e s m below meth c hx hb hml hown hts hr hlocks ht hX hP hS ls hl
  have hl : lv_has ls 2 [(0, .ref (adr G 18)), (1, .int a1)] := hl
  rw [Or_push] at h
  refine lv_aload_n hx hb dX5_push_0 rfl (lv_at hl 0 rfl) ?_
  refine hy_get (T := (M, Mr, Mo)) (o := 18) (k := 0) (v := .ref (adr G 19)) hx hb hown hts hX hP (by decide) rfl rfl inX5g (by decide) q_224 rfl dX5_push_1 ?_
  refine lv_aload_n hx hb dX5_push_4 rfl (lv_at hl 0 rfl) ?_
  refine hy_get (T := (M, Mr, Mo)) (o := 18) (k := 2) (v := .int (M.1 18 2)) hx hb hown hts hX hP (by decide) rfl rfl inX5g (by decide) q_226 rfl dX5_push_5 ?_
  refine lv_iload_n hx hb dX5_push_8 rfl (lv_at hl 1 rfl) ?_
  refine hy_ret (hy_rSN (T := (M, Mr, Mo)) (v := none) (T2 := ((putf M 19 80 (M.1 18 2) a1), Mr, Mo)) (As := [.ref (adr G 19), .int (M.1 18 2), .int a1]) (rest := []) (n := 0) hx hb hml hown hts hX hP hS hl (c_put Mr Mo 19 80 (by decide) (by decide) (fun _ _ => rfl) (M.1 18 2) a1 M) m_Hp_put q_468 rfl rfl (Nat.le_of_ble_eq_true rfl) dX5_push_9 ⟨Nat.le_of_ble_eq_true rfl, Nat.le_of_ble_eq_true rfl⟩ ⟨Nat.zero_le _, Nat.zero_le _⟩) hS (fun H locs hP hS => ?_)
  refine lv_aload_n hx hb dX5_push_12 rfl (lv_at hl 0 rfl) ?_
  refine hy_get (T := ((putf M 19 80 (M.1 18 2) a1), Mr, Mo)) (o := 18) (k := 1) (v := .ref (adr G 20)) hx hb hown hts hX hP (by decide) rfl rfl inX5g (by decide) q_225 rfl dX5_push_13 ?_
  refine lv_iload_n hx hb dX5_push_16 rfl (lv_at hl 1 rfl) ?_
  refine lv_aload_n hx hb dX5_push_17 rfl (lv_at hl 0 rfl) ?_
  refine lv_iload_n hx hb dX5_push_18 rfl (lv_at hl 1 rfl) ?_
  refine hy_ret (hy_rV0 (T := ((putf M 19 80 (M.1 18 2) a1), Mr, Mo)) (v := some (.int (Or_timesOf a1 (putf M 19 80 (M.1 18 2) a1)))) (T2 := ((putf M 19 80 (M.1 18 2) a1), Mr, Mo)) (As := [.int a1]) (rest := [.int a1, .ref (adr G 20)]) (n := 0) hx hb hml hown hts hX hP hS hl (c_Or_timesOf Mr Mo a1 (putf M 19 80 (M.1 18 2) a1) rfl) m_Or_timesOf q_473 (hy_recv hX hP 18 4 (by decide) rfl rfl) rfl rfl (Nat.le_of_ble_eq_true rfl) dX5_push_19 ⟨Nat.le_of_ble_eq_true rfl, Nat.le_of_ble_eq_true rfl⟩ ⟨Nat.zero_le _, Nat.zero_le _⟩) hS (fun H locs hP hS => ?_)
  refine lv_iconst (v := 1) hx hb dX5_push_22 rfl ?_
  refine lv_iadd hx hb dX5_push_23 ?_
  refine hy_ret (hy_rSN (T := ((putf M 19 80 (M.1 18 2) a1), Mr, Mo)) (v := none) (T2 := ((putf (putf M 19 80 (M.1 18 2) a1) 20 40 a1 ((Or_timesOf a1 (putf M 19 80 (M.1 18 2) a1)) + 1)), Mr, Mo)) (As := [.ref (adr G 20), .int a1, .int ((Or_timesOf a1 (putf M 19 80 (M.1 18 2) a1)) + 1)]) (rest := []) (n := 0) hx hb hml hown hts hX hP hS hl (c_put Mr Mo 20 40 (by decide) (by decide) (fun _ _ => rfl) a1 ((Or_timesOf a1 (putf M 19 80 (M.1 18 2) a1)) + 1) (putf M 19 80 (M.1 18 2) a1)) m_Hp_put q_468 rfl rfl (Nat.le_of_ble_eq_true rfl) dX5_push_24 ⟨Nat.le_of_ble_eq_true rfl, Nat.le_of_ble_eq_true rfl⟩ ⟨Nat.zero_le _, Nat.zero_le _⟩) hS (fun H locs hP hS => ?_)
  refine lv_aload_n hx hb dX5_push_27 rfl (lv_at hl 0 rfl) ?_
  refine lv_dup hx hb dX5_push_28 rfl ?_
  refine hy_get (T := ((putf (putf M 19 80 (M.1 18 2) a1) 20 40 a1 ((Or_timesOf a1 (putf M 19 80 (M.1 18 2) a1)) + 1)), Mr, Mo)) (o := 18) (k := 2) (v := .int ((putf (putf M 19 80 (M.1 18 2) a1) 20 40 a1 ((Or_timesOf a1 (putf M 19 80 (M.1 18 2) a1)) + 1)).1 18 2)) hx hb hown hts hX hP (by decide) rfl rfl inX5g (by decide) q_226 rfl dX5_push_29 ?_
  refine lv_iconst (v := 1) hx hb dX5_push_32 rfl ?_
  refine lv_iadd hx hb dX5_push_33 ?_
  refine hy_putI (ty := .int) (T := ((putf (putf M 19 80 (M.1 18 2) a1) 20 40 a1 ((Or_timesOf a1 (putf M 19 80 (M.1 18 2) a1)) + 1)), Mr, Mo)) (T2 := ((wI (putf (putf M 19 80 (M.1 18 2) a1) 20 40 a1 ((Or_timesOf a1 (putf M 19 80 (M.1 18 2) a1)) + 1)) 18 2 (((putf (putf M 19 80 (M.1 18 2) a1) 20 40 a1 ((Or_timesOf a1 (putf M 19 80 (M.1 18 2) a1)) + 1)).1 18 2) + 1)), Mr, Mo)) (o := 18) (k := 2) hx hb hown hts hX hP hS (by decide) rfl rfl rfl rfl inX5g tyX5_ok nmX5 (by decide) q_226 rfl rfl rfl rfl (Nat.le_of_ble_eq_true rfl) dX5_push_34 (fun H locs hP hS => ?_)
  exact hy_vret (T := ((wI (putf (putf M 19 80 (M.1 18 2) a1) 20 40 a1 ((Or_timesOf a1 (putf M 19 80 (M.1 18 2) a1)) + 1)) 18 2 (((putf (putf M 19 80 (M.1 18 2) a1) 20 40 a1 ((Or_timesOf a1 (putf M 19 80 (M.1 18 2) a1)) + 1)).1 18 2) + 1)), Mr, Mo)) hx hb hr hlocks hP hS (Nat.zero_le _) (Nat.zero_le _) (by rw [← h] <;> rfl) dX5_push_37
set_option maxHeartbeats 1000000 in
set_option maxRecDepth 100000 in
theorem c_Re_endingWith {l : Launch} {G : hyG} (Mr Mo : hyM) (a1 : Int32) (M : hyM) {res : Int32} (h : Re_endingWith a1 M = some res) : hyC l yX7_endingWith (.code yX7_endingWith cX7_endingWith 3 (some .int)) 1 21 (0) G [.ref (adr G 5), .int a1] (M, Mr, Mo) (.inr (some (.int res)), (M, Mr, Mo)) := by
  refine hy_of (by decide +kernel) (Nat.le_of_ble_eq_true rfl) ?_
  intro p e s m below meth c hx hb hml hown hts hr hlocks ht hX hP hS ls hl
  have hl : lv_has ls 3 [(0, .ref (adr G 5)), (1, .int a1)] := hl
  rw [Re_endingWith] at h
  refine lv_iconst (v := 0) hx hb dX7_endingWith_0 rfl ?_
  refine lv_istore_n (lv' := [(2, .int 0), (0, .ref (adr G 5)), (1, .int a1)]) hx hb dX7_endingWith_1 rfl hl (by decide) rfl (fun ls hl => ?_)
  have L4 : ∀ (f : Nat) (x1 : Int32) (qL : (Int32 ⊕ (Int32))) (h : Re_endingWith_L2 a1 M f x1 = some qL) (hq : ∀ r9, qL = .inl r9 → res = r9) (H : Heap) (locs : List Loc) (ls : Array Slot) (hP : va_P G.1 vwCl (wld G (M, Mr, Mo)) H) (hS : va_S (hyA G) s.heap H locs) (hl : lv_has ls 3 [(0, .ref (adr G 5)), (1, .int a1), (2, .int x1)]) (kk : ∀ (y1 : Int32), qL = .inr (y1) → ∀ (H : Heap) (locs : List Loc) (ls : Array Slot), va_P G.1 vwCl (wld G (M, Mr, Mo)) H → va_S (hyA G) s.heap H locs → lv_has ls 3 [(0, .ref (adr G 5)), (1, .int a1), (2, .int y1)] → W p l e { frames := 1, cells := 0, slots := 6 * 0, locals := 21 } s m ([.ref (adr G 5), .int a1] : List Value).toArray below meth c H locs 0 0 (vx_MQ below (hyQ G (.inr (some (.int res)), (M, Mr, Mo))) (hyXQ G (.inr (some (.int res)), (M, Mr, Mo))) ([.ref (adr G 5), .int a1] : List Value).toArray s 0 (6 * 0) (hyA G)) (F0 m 30 ls [])), W p l e { frames := 1, cells := 0, slots := 6 * 0, locals := 21 } s m ([.ref (adr G 5), .int a1] : List Value).toArray below meth c H locs 0 0 (vx_MQ below (hyQ G (.inr (some (.int res)), (M, Mr, Mo))) (hyXQ G (.inr (some (.int res)), (M, Mr, Mo))) ([.ref (adr G 5), .int a1] : List Value).toArray s 0 (6 * 0) (hyA G)) (F0 m 2 ls []) := by
    intro f
    induction f with
    | zero =>
      intro x1 qL h hq H locs ls hP hS hl kk
      rw [Re_endingWith_L2] at h
      cases h
    | succ f ih =>
      intro x1 qL h hq H locs ls hP hS hl kk
      rw [Re_endingWith_L2] at h
      refine lv_iload_n hx hb dX7_endingWith_2 rfl (lv_at hl 2 rfl) ?_
      refine lv_aload_n hx hb dX7_endingWith_3 rfl (lv_at hl 0 rfl) ?_
      refine hy_get (T := (M, Mr, Mo)) (o := 5) (k := 3) (v := .int (M.1 5 3)) hx hb hown hts hX hP (by decide) rfl rfl inX7g (by decide) q_167 rfl dX7_endingWith_4 ?_
      refine lv_icmp_ge (tgt := 30) hx hb dX7_endingWith_7 (by decide) (fun c2 => ?_) (fun c2 => ?_)
      · rw [if_pos c2] at h
        exact kk x1 (Option.some.inj h).symm _ _ ls hP hS (lv_sub hl [0, 1, 2] rfl)
      · rw [if_neg c2] at h
        refine lv_aload_n hx hb dX7_endingWith_10 rfl (lv_at hl 0 rfl) ?_
        refine hy_get (T := (M, Mr, Mo)) (o := 5) (k := 1) (v := .ref (adr G 7)) hx hb hown hts hX hP (by decide) rfl rfl inX7g (by decide) q_165 rfl dX7_endingWith_11 ?_
        refine lv_iload_n hx hb dX7_endingWith_14 rfl (lv_at hl 2 rfl) ?_
        refine hy_ret (hy_rSN (T := (M, Mr, Mo)) (v := some (.int (atf 3 (M.1 7) x1))) (T2 := (M, Mr, Mo)) (As := [.ref (adr G 7), .int x1]) (rest := []) (n := 0) hx hb hml hown hts hX hP hS hl (c_at 7 3 (hy34 G (by decide)) (by decide) (fun _ _ => rfl) x1 (M, Mr, Mo)) m_Hp_at q_458 rfl rfl (Nat.le_of_ble_eq_true rfl) dX7_endingWith_15 ⟨Nat.le_of_ble_eq_true rfl, Nat.le_of_ble_eq_true rfl⟩ ⟨Nat.zero_le _, Nat.zero_le _⟩) hS (fun H locs hP hS => ?_)
        refine lv_iload_n hx hb dX7_endingWith_18 rfl (lv_at hl 1 rfl) ?_
        refine lv_icmp_ne (tgt := 24) hx hb dX7_endingWith_19 (by decide) (fun c3 => ?_) (fun c3 => ?_)
        · rw [if_neg c3] at h
          refine lv_iinc (v := (x1 + 1)) (lv' := [(2, .int (x1 + 1)), (0, .ref (adr G 5)), (1, .int a1)]) hx hb dX7_endingWith_24 hl (k := 2) rfl rfl (by decide) rfl (fun ls hl => ?_)
          refine lv_goto (tgt := 2) hx hb dX7_endingWith_27 (by decide) ?_
          exact ih (x1 + 1) _ h hq _ _ ls hP hS (lv_sub hl [1, 2, 0] rfl) kk
        · rw [if_pos (c3)] at h
          refine lv_iload_n hx hb dX7_endingWith_22 rfl (lv_at hl 2 rfl) ?_
          exact hy_iret (T := (M, Mr, Mo)) hx hb hr hlocks hP hS (Nat.zero_le _) (Nat.zero_le _) (by rw [← (hq _ (Option.some.inj h).symm).symm] <;> rfl) dX7_endingWith_23
  obtain ⟨q5, hq5, h⟩ := hy_bind h
  refine L4 hyFu 0 q5 hq5 (fun r9 e9 => by subst e9; exact (Option.some.inj h).symm) _ _ ls hP hS (lv_sub hl [1, 2, 0] rfl) ?_
  intro y1 e9 H locs ls hP hS hl
  subst e9
  try dsimp only at h
  refine lv_iconst (v := (-1)) hx hb dX7_endingWith_30 rfl ?_
  exact hy_iret (T := (M, Mr, Mo)) hx hb hr hlocks hP hS (Nat.zero_le _) (Nat.zero_le _) (by rw [← (Option.some.inj h)] <;> rfl) dX7_endingWith_31
set_option maxHeartbeats 1000000 in
set_option maxRecDepth 100000 in
theorem c_Re_firstOf {l : Launch} {G : hyG} (Mr Mo : hyM) (a1 : Int32) (M : hyM) {res : Int32} (h : Re_firstOf a1 M = res) : hyC l yX7_firstOf (.code yX7_firstOf cX7_firstOf 2 (some .int)) 1 21 (0) G [.ref (adr G 5), .int a1] (M, Mr, Mo) (.inr (some (.int res)), (M, Mr, Mo)) := by
  refine hy_of (by decide +kernel) (Nat.le_of_ble_eq_true rfl) ?_
  intro p e s m below meth c hx hb hml hown hts hr hlocks ht hX hP hS ls hl
  have hl : lv_has ls 2 [(0, .ref (adr G 5)), (1, .int a1)] := hl
  rw [Re_firstOf] at h
  refine lv_aload_n hx hb dX7_firstOf_0 rfl (lv_at hl 0 rfl) ?_
  refine hy_get (T := (M, Mr, Mo)) (o := 5) (k := 0) (v := .ref (adr G 6)) hx hb hown hts hX hP (by decide) rfl rfl inX7g (by decide) q_164 rfl dX7_firstOf_1 ?_
  refine lv_iload_n hx hb dX7_firstOf_4 rfl (lv_at hl 1 rfl) ?_
  refine hy_ret (hy_rSN (T := (M, Mr, Mo)) (v := some (.int (atf 3 (M.1 6) a1))) (T2 := (M, Mr, Mo)) (As := [.ref (adr G 6), .int a1]) (rest := []) (n := 0) hx hb hml hown hts hX hP hS hl (c_at 6 3 (hy34 G (by decide)) (by decide) (fun _ _ => rfl) a1 (M, Mr, Mo)) m_Hp_at q_458 rfl rfl (Nat.le_of_ble_eq_true rfl) dX7_firstOf_5 ⟨Nat.le_of_ble_eq_true rfl, Nat.le_of_ble_eq_true rfl⟩ ⟨Nat.zero_le _, Nat.zero_le _⟩) hS (fun H locs hP hS => ?_)
  exact hy_iret (T := (M, Mr, Mo)) hx hb hr hlocks hP hS (Nat.zero_le _) (Nat.zero_le _) (by rw [← h] <;> rfl) dX7_firstOf_8
set_option maxHeartbeats 1000000 in
set_option maxRecDepth 100000 in
theorem c_Re_lastAgainOf {l : Launch} {G : hyG} (Mr Mo : hyM) (a1 : Int32) (M : hyM) {res : Int32} (h : Re_lastAgainOf a1 M = res) : hyC l yX7_lastAgainOf (.code yX7_lastAgainOf cX7_lastAgainOf 2 (some .int)) 1 21 (0) G [.ref (adr G 5), .int a1] (M, Mr, Mo) (.inr (some (.int res)), (M, Mr, Mo)) := by
  refine hy_of (by decide +kernel) (Nat.le_of_ble_eq_true rfl) ?_
  intro p e s m below meth c hx hb hml hown hts hr hlocks ht hX hP hS ls hl
  have hl : lv_has ls 2 [(0, .ref (adr G 5)), (1, .int a1)] := hl
  rw [Re_lastAgainOf] at h
  refine lv_aload_n hx hb dX7_lastAgainOf_0 rfl (lv_at hl 0 rfl) ?_
  refine hy_get (T := (M, Mr, Mo)) (o := 5) (k := 1) (v := .ref (adr G 7)) hx hb hown hts hX hP (by decide) rfl rfl inX7g (by decide) q_165 rfl dX7_lastAgainOf_1 ?_
  refine lv_iload_n hx hb dX7_lastAgainOf_4 rfl (lv_at hl 1 rfl) ?_
  refine hy_ret (hy_rSN (T := (M, Mr, Mo)) (v := some (.int (atf 3 (M.1 7) a1))) (T2 := (M, Mr, Mo)) (As := [.ref (adr G 7), .int a1]) (rest := []) (n := 0) hx hb hml hown hts hX hP hS hl (c_at 7 3 (hy34 G (by decide)) (by decide) (fun _ _ => rfl) a1 (M, Mr, Mo)) m_Hp_at q_458 rfl rfl (Nat.le_of_ble_eq_true rfl) dX7_lastAgainOf_5 ⟨Nat.le_of_ble_eq_true rfl, Nat.le_of_ble_eq_true rfl⟩ ⟨Nat.zero_le _, Nat.zero_le _⟩) hS (fun H locs hP hS => ?_)
  refine lv_aload_n hx hb dX7_lastAgainOf_8 rfl (lv_at hl 0 rfl) ?_
  refine hy_get (T := (M, Mr, Mo)) (o := 5) (k := 2) (v := .ref (adr G 8)) hx hb hown hts hX hP (by decide) rfl rfl inX7g (by decide) q_166 rfl dX7_lastAgainOf_9 ?_
  refine lv_iload_n hx hb dX7_lastAgainOf_12 rfl (lv_at hl 1 rfl) ?_
  refine hy_ret (hy_rSN (T := (M, Mr, Mo)) (v := some (.int (atf 3 (M.1 8) a1))) (T2 := (M, Mr, Mo)) (As := [.ref (adr G 8), .int a1]) (rest := [.int (atf 3 (M.1 7) a1)]) (n := 0) hx hb hml hown hts hX hP hS hl (c_at 8 3 (hy34 G (by decide)) (by decide) (fun _ _ => rfl) a1 (M, Mr, Mo)) m_Hp_at q_458 rfl rfl (Nat.le_of_ble_eq_true rfl) dX7_lastAgainOf_13 ⟨Nat.le_of_ble_eq_true rfl, Nat.le_of_ble_eq_true rfl⟩ ⟨Nat.zero_le _, Nat.zero_le _⟩) hS (fun H locs hP hS => ?_)
  refine lv_isub hx hb dX7_lastAgainOf_16 ?_
  exact hy_iret (T := (M, Mr, Mo)) hx hb hr hlocks hP hS (Nat.zero_le _) (Nat.zero_le _) (by rw [← h] <;> rfl) dX7_lastAgainOf_17
set_option maxHeartbeats 1000000 in
set_option maxRecDepth 100000 in
theorem c_Or_pushAgain {l : Launch} {G : hyG} (Mr Mo : hyM) (a1 : Int32) (a2 : Int32) (M : hyM) {res : hyM} (h : Or_pushAgain a1 a2 M = some res) : hyC l yX5_pushAgain (.code yX5_pushAgain cX5_pushAgain 4 none) 3 63 (0) G [.ref (adr G 18), .int a1, .int a2] (M, Mr, Mo) (.inr none, (res, Mr, Mo)) := by
  refine hy_of (by decide +kernel) (Nat.le_of_ble_eq_true rfl) ?_
  intro p e s m below meth c hx hb hml hown hts hr hlocks ht hX hP hS ls hl
  have hl : lv_has ls 4 [(0, .ref (adr G 18)), (1, .int a1), (2, .int a2)] := hl
  rw [Or_pushAgain] at h
  refine lv_iload_n hx hb dX5_pushAgain_0 rfl (lv_at hl 1 rfl) ?_
  refine lv_istore_n (lv' := [(3, .int a1), (0, .ref (adr G 18)), (1, .int a1), (2, .int a2)]) hx hb dX5_pushAgain_1 rfl hl (by decide) rfl (fun ls hl => ?_)
  have L5 : ∀ (f : Nat) (x1 : Int32) (M2 : hyM) (qL : (Int32 × hyM)) (h : Or_pushAgain_L2 a2 f x1 M2 = some qL) (H : Heap) (locs : List Loc) (ls : Array Slot) (hP : va_P G.1 vwCl (wld G (M2, Mr, Mo)) H) (hS : va_S (hyA G) s.heap H locs) (hl : lv_has ls 4 [(0, .ref (adr G 18)), (1, .int a1), (2, .int a2), (3, .int x1)]) (kk : ∀ (y1 : Int32) (NM2 : hyM), qL = (y1, NM2) → ∀ (H : Heap) (locs : List Loc) (ls : Array Slot), va_P G.1 vwCl (wld G (NM2, Mr, Mo)) H → va_S (hyA G) s.heap H locs → lv_has ls 4 [(0, .ref (adr G 18)), (1, .int a1), (2, .int a2), (3, .int y1)] → W p l e { frames := 3, cells := 0, slots := 6 * 0, locals := 63 } s m ([.ref (adr G 18), .int a1, .int a2] : List Value).toArray below meth c H locs 0 0 (vx_MQ below (hyQ G (.inr none, (res, Mr, Mo))) (hyXQ G (.inr none, (res, Mr, Mo))) ([.ref (adr G 18), .int a1, .int a2] : List Value).toArray s 0 (6 * 0) (hyA G)) (F0 m 18 ls [])), W p l e { frames := 3, cells := 0, slots := 6 * 0, locals := 63 } s m ([.ref (adr G 18), .int a1, .int a2] : List Value).toArray below meth c H locs 0 0 (vx_MQ below (hyQ G (.inr none, (res, Mr, Mo))) (hyXQ G (.inr none, (res, Mr, Mo))) ([.ref (adr G 18), .int a1, .int a2] : List Value).toArray s 0 (6 * 0) (hyA G)) (F0 m 2 ls []) := by
    intro f
    induction f with
    | zero =>
      intro x1 M2 qL h H locs ls hP hS hl kk
      rw [Or_pushAgain_L2] at h
      cases h
    | succ f ih =>
      intro x1 M2 qL h H locs ls hP hS hl kk
      rw [Or_pushAgain_L2] at h
      refine lv_iload_n hx hb dX5_pushAgain_2 rfl (lv_at hl 3 rfl) ?_
      refine lv_iload_n hx hb dX5_pushAgain_3 rfl (lv_at hl 2 rfl) ?_
      refine lv_icmp_gt (tgt := 18) hx hb dX5_pushAgain_4 (by decide) (fun c3 => ?_) (fun c3 => ?_)
      · rw [if_pos c3] at h
        exact kk x1 M2 (Option.some.inj h).symm _ _ ls hP hS (lv_sub hl [0, 1, 2, 3] rfl)
      · rw [if_neg c3] at h
        refine lv_aload_n hx hb dX5_pushAgain_7 rfl (lv_at hl 0 rfl) ?_
        refine lv_iload_n hx hb dX5_pushAgain_8 rfl (lv_at hl 3 rfl) ?_
        refine hy_ret (hy_rV0 (T := (M2, Mr, Mo)) (v := none) (T2 := ((Or_push x1 M2), Mr, Mo)) (As := [.int x1]) (rest := []) (n := 0) hx hb hml hown hts hX hP hS hl (c_Or_push Mr Mo x1 M2 rfl) m_Or_push q_469 (hy_recv hX hP 18 4 (by decide) rfl rfl) rfl rfl (Nat.le_of_ble_eq_true rfl) dX5_pushAgain_9 ⟨Nat.le_of_ble_eq_true rfl, Nat.le_of_ble_eq_true rfl⟩ ⟨Nat.zero_le _, Nat.zero_le _⟩) hS (fun H locs hP hS => ?_)
        obtain ⟨M4, hM4, h⟩ := hy_bind h
        rw [Option.some.inj hM4] at hP
        refine lv_iinc (v := (x1 + 1)) (lv' := [(3, .int (x1 + 1)), (0, .ref (adr G 18)), (1, .int a1), (2, .int a2)]) hx hb dX5_pushAgain_12 hl (k := 3) rfl rfl (by decide) rfl (fun ls hl => ?_)
        refine lv_goto (tgt := 2) hx hb dX5_pushAgain_15 (by decide) ?_
        exact ih (x1 + 1) M4 _ h  _ _ ls hP hS (lv_sub hl [1, 2, 3, 0] rfl) kk
  obtain ⟨q6, hq6, h⟩ := hy_bind h
  refine L5 hyFu a1 M q6 hq6 _ _ ls hP hS (lv_sub hl [1, 2, 3, 0] rfl) ?_
  intro y1 NM2 e9 H locs ls hP hS hl
  subst e9
  try dsimp only at h
  exact hy_vret (T := (NM2, Mr, Mo)) hx hb hr hlocks hP hS (Nat.zero_le _) (Nat.zero_le _) (by rw [← (Option.some.inj h)] <;> rfl) dX5_pushAgain_18
set_option maxHeartbeats 1000000 in
set_option maxRecDepth 100000 in
theorem c_Or_find {l : Launch} {G : hyG} (Mr Mo : hyM) (a1 : Int32) (M : hyM) {res : hyM} (h : Or_find a1 M = some res) : hyC l yX5_find (.code yX5_find cX5_find 5 none) 4 86 (0) G [.ref (adr G 18), .int a1, .ref (adr G 5)] (M, Mr, Mo) (.inr none, (res, Mr, Mo)) := by
  refine hy_of (by decide +kernel) (Nat.le_of_ble_eq_true rfl) ?_
  intro p e s m below meth c hx hb hml hown hts hr hlocks ht hX hP hS ls hl
  have hl : lv_has ls 5 [(0, .ref (adr G 18)), (1, .int a1), (2, .ref (adr G 5))] := hl
  rw [Or_find] at h
  refine lv_aload_n hx hb dX5_find_0 rfl (lv_at hl 0 rfl) ?_
  refine lv_iconst (v := 0) hx hb dX5_find_1 rfl ?_
  refine hy_putI (ty := .int) (T := (M, Mr, Mo)) (T2 := ((wI M 18 2 0), Mr, Mo)) (o := 18) (k := 2) hx hb hown hts hX hP hS (by decide) rfl rfl rfl rfl inX5g tyX5_ok nmX5 (by decide) q_226 rfl rfl rfl rfl (Nat.le_of_ble_eq_true rfl) dX5_find_2 (fun H locs hP hS => ?_)
  obtain ⟨M1, hM1, h⟩ := hy_bind h
  rw [Option.some.inj hM1] at hP
  refine lv_iconst (v := 0) hx hb dX5_find_5 rfl ?_
  refine lv_istore_n (lv' := [(3, .int 0), (0, .ref (adr G 18)), (1, .int a1), (2, .ref (adr G 5))]) hx hb dX5_find_6 rfl hl (by decide) rfl (fun ls hl => ?_)
  have L6 : ∀ (f : Nat) (x2 : Int32) (M3 : hyM) (qL : (Int32 × hyM)) (h : Or_find_L7 a1 f x2 M3 = some qL) (H : Heap) (locs : List Loc) (ls : Array Slot) (hP : va_P G.1 vwCl (wld G (M3, Mr, Mo)) H) (hS : va_S (hyA G) s.heap H locs) (hl : lv_has ls 5 [(0, .ref (adr G 18)), (1, .int a1), (2, .ref (adr G 5)), (3, .int x2)]) (kk : ∀ (y2 : Int32) (NM3 : hyM), qL = (y2, NM3) → ∀ (H : Heap) (locs : List Loc) (ls : Array Slot), va_P G.1 vwCl (wld G (NM3, Mr, Mo)) H → va_S (hyA G) s.heap H locs → lv_has ls 5 [(0, .ref (adr G 18)), (1, .int a1), (2, .ref (adr G 5)), (3, .int y2)] → W p l e { frames := 4, cells := 0, slots := 6 * 0, locals := 86 } s m ([.ref (adr G 18), .int a1, .ref (adr G 5)] : List Value).toArray below meth c H locs 0 0 (vx_MQ below (hyQ G (.inr none, (res, Mr, Mo))) (hyXQ G (.inr none, (res, Mr, Mo))) ([.ref (adr G 18), .int a1, .ref (adr G 5)] : List Value).toArray s 0 (6 * 0) (hyA G)) (F0 m 27 ls [])), W p l e { frames := 4, cells := 0, slots := 6 * 0, locals := 86 } s m ([.ref (adr G 18), .int a1, .ref (adr G 5)] : List Value).toArray below meth c H locs 0 0 (vx_MQ below (hyQ G (.inr none, (res, Mr, Mo))) (hyXQ G (.inr none, (res, Mr, Mo))) ([.ref (adr G 18), .int a1, .ref (adr G 5)] : List Value).toArray s 0 (6 * 0) (hyA G)) (F0 m 7 ls []) := by
    intro f
    induction f with
    | zero =>
      intro x2 M3 qL h H locs ls hP hS hl kk
      rw [Or_find_L7] at h
      cases h
    | succ f ih =>
      intro x2 M3 qL h H locs ls hP hS hl kk
      rw [Or_find_L7] at h
      refine lv_iload_n hx hb dX5_find_7 rfl (lv_at hl 3 rfl) ?_
      refine lv_iload_n hx hb dX5_find_8 rfl (lv_at hl 1 rfl) ?_
      refine lv_icmp_ge (tgt := 27) hx hb dX5_find_9 (by decide) (fun c4 => ?_) (fun c4 => ?_)
      · rw [if_pos c4] at h
        exact kk x2 M3 (Option.some.inj h).symm _ _ ls hP hS (lv_sub hl [0, 1, 2, 3] rfl)
      · rw [if_neg c4] at h
        refine lv_aload_n hx hb dX5_find_12 rfl (lv_at hl 0 rfl) ?_
        refine hy_get (T := (M3, Mr, Mo)) (o := 18) (k := 1) (v := .ref (adr G 20)) hx hb hown hts hX hP (by decide) rfl rfl inX5g (by decide) q_225 rfl dX5_find_13 ?_
        refine lv_iload_n hx hb dX5_find_16 rfl (lv_at hl 3 rfl) ?_
        refine lv_iconst (v := 0) hx hb dX5_find_17 rfl ?_
        refine hy_ret (hy_rSN (T := (M3, Mr, Mo)) (v := none) (T2 := ((putf M3 20 40 x2 0), Mr, Mo)) (As := [.ref (adr G 20), .int x2, .int 0]) (rest := []) (n := 0) hx hb hml hown hts hX hP hS hl (c_put Mr Mo 20 40 (by decide) (by decide) (fun _ _ => rfl) x2 0 M3) m_Hp_put q_468 rfl rfl (Nat.le_of_ble_eq_true rfl) dX5_find_18 ⟨Nat.le_of_ble_eq_true rfl, Nat.le_of_ble_eq_true rfl⟩ ⟨Nat.zero_le _, Nat.zero_le _⟩) hS (fun H locs hP hS => ?_)
        obtain ⟨M5, hM5, h⟩ := hy_bind h
        rw [Option.some.inj hM5] at hP
        refine lv_iinc (v := (x2 + 1)) (lv' := [(3, .int (x2 + 1)), (0, .ref (adr G 18)), (1, .int a1), (2, .ref (adr G 5))]) hx hb dX5_find_21 hl (k := 3) rfl rfl (by decide) rfl (fun ls hl => ?_)
        refine lv_goto (tgt := 7) hx hb dX5_find_24 (by decide) ?_
        exact ih (x2 + 1) M5 _ h  _ _ ls hP hS (lv_sub hl [1, 2, 3, 0] rfl) kk
  obtain ⟨q16, hq16, h⟩ := hy_bind h
  refine L6 hyFu 0 M1 q16 hq16 _ _ ls hP hS (lv_sub hl [1, 2, 3, 0] rfl) ?_
  intro y2 NM3 e9 H locs ls hP hS hl
  subst e9
  try dsimp only at h
  refine lv_iconst (v := 0) hx hb dX5_find_27 rfl ?_
  refine lv_istore_n (lv' := [(3, .int 0), (0, .ref (adr G 18)), (1, .int a1), (2, .ref (adr G 5))]) hx hb dX5_find_28 rfl hl (by decide) rfl (fun ls hl => ?_)
  have L14 : ∀ (f : Nat) (x7 : Int32) (M8 : hyM) (qL : (Int32 × hyM)) (h : Or_find_L29 a1 f x7 M8 = some qL) (H : Heap) (locs : List Loc) (ls : Array Slot) (hP : va_P G.1 vwCl (wld G (M8, Mr, Mo)) H) (hS : va_S (hyA G) s.heap H locs) (hl : lv_has ls 5 [(0, .ref (adr G 18)), (1, .int a1), (2, .ref (adr G 5)), (3, .int x7)]) (kk : ∀ (y7 : Int32) (NM8 : hyM), qL = (y7, NM8) → ∀ (H : Heap) (locs : List Loc) (ls : Array Slot), va_P G.1 vwCl (wld G (NM8, Mr, Mo)) H → va_S (hyA G) s.heap H locs → lv_has ls 5 [(0, .ref (adr G 18)), (1, .int a1), (2, .ref (adr G 5)), (3, .int y7)] → W p l e { frames := 4, cells := 0, slots := 6 * 0, locals := 86 } s m ([.ref (adr G 18), .int a1, .ref (adr G 5)] : List Value).toArray below meth c H locs 0 0 (vx_MQ below (hyQ G (.inr none, (res, Mr, Mo))) (hyXQ G (.inr none, (res, Mr, Mo))) ([.ref (adr G 18), .int a1, .ref (adr G 5)] : List Value).toArray s 0 (6 * 0) (hyA G)) (F0 m 74 ls [])), W p l e { frames := 4, cells := 0, slots := 6 * 0, locals := 86 } s m ([.ref (adr G 18), .int a1, .ref (adr G 5)] : List Value).toArray below meth c H locs 0 0 (vx_MQ below (hyQ G (.inr none, (res, Mr, Mo))) (hyXQ G (.inr none, (res, Mr, Mo))) ([.ref (adr G 18), .int a1, .ref (adr G 5)] : List Value).toArray s 0 (6 * 0) (hyA G)) (F0 m 29 ls []) := by
    intro f
    induction f with
    | zero =>
      intro x7 M8 qL h H locs ls hP hS hl kk
      rw [Or_find_L29] at h
      cases h
    | succ f ih =>
      intro x7 M8 qL h H locs ls hP hS hl kk
      rw [Or_find_L29] at h
      refine lv_iload_n hx hb dX5_find_29 rfl (lv_at hl 3 rfl) ?_
      refine lv_iload_n hx hb dX5_find_30 rfl (lv_at hl 1 rfl) ?_
      refine lv_icmp_ge (tgt := 74) hx hb dX5_find_31 (by decide) (fun c9 => ?_) (fun c9 => ?_)
      · rw [if_pos c9] at h
        exact kk x7 M8 (Option.some.inj h).symm _ _ ls hP hS (lv_sub hl [0, 1, 2, 3] rfl)
      · rw [if_neg c9] at h
        refine lv_aload_n hx hb dX5_find_34 rfl (lv_at hl 0 rfl) ?_
        refine lv_iload_n hx hb dX5_find_35 rfl (lv_at hl 3 rfl) ?_
        refine hy_ret (hy_rV0 (T := (M8, Mr, Mo)) (v := none) (T2 := ((Or_push x7 M8), Mr, Mo)) (As := [.int x7]) (rest := []) (n := 0) hx hb hml hown hts hX hP hS hl (c_Or_push Mr Mo x7 M8 rfl) m_Or_push q_469 (hy_recv hX hP 18 4 (by decide) rfl rfl) rfl rfl (Nat.le_of_ble_eq_true rfl) dX5_find_36 ⟨Nat.le_of_ble_eq_true rfl, Nat.le_of_ble_eq_true rfl⟩ ⟨Nat.zero_le _, Nat.zero_le _⟩) hS (fun H locs hP hS => ?_)
        obtain ⟨M10, hM10, h⟩ := hy_bind h
        rw [Option.some.inj hM10] at hP
        refine lv_aload_n hx hb dX5_find_39 rfl (lv_at hl 2 rfl) ?_
        refine lv_iload_n hx hb dX5_find_40 rfl (lv_at hl 3 rfl) ?_
        obtain ⟨v11, hv11, h⟩ := hy_bind h
        refine hy_ret (hy_rVN (T := (M10, Mr, Mo)) (v := some (.int v11)) (T2 := (M10, Mr, Mo)) (As := [.int x7]) (rest := []) (n := 0) hx hb hml hown hts hX hP hS hl (c_Re_endingWith Mr Mo x7 M10 hv11) m_Re_endingWith q_478 (hy_recv hX hP 5 6 (by decide) rfl rfl) rfl rfl (Nat.le_of_ble_eq_true rfl) dX5_find_41 ⟨Nat.le_of_ble_eq_true rfl, Nat.le_of_ble_eq_true rfl⟩ ⟨Nat.zero_le _, Nat.zero_le _⟩) hS (fun H locs hP hS => ?_)
        refine lv_istore (lv' := [(4, .int v11), (0, .ref (adr G 18)), (1, .int a1), (2, .ref (adr G 5)), (3, .int x7)]) hx hb dX5_find_44 hl (by decide) rfl (fun ls hl => ?_)
        refine lv_iload hx hb dX5_find_46 (lv_at hl 0 rfl) ?_
        refine lv_iconst (v := (-1)) hx hb dX5_find_48 rfl ?_
        refine lv_icmp_eq (tgt := 68) hx hb dX5_find_49 (by decide) (fun c12 => ?_) (fun c12 => ?_)
        · rw [if_pos c12] at h
          refine lv_iinc (v := (x7 + 1)) (lv' := [(3, .int (x7 + 1)), (4, .int v11), (0, .ref (adr G 18)), (1, .int a1), (2, .ref (adr G 5))]) hx hb dX5_find_68 hl (k := 4) rfl rfl (by decide) rfl (fun ls hl => ?_)
          refine lv_goto (tgt := 29) hx hb dX5_find_71 (by decide) ?_
          exact ih (x7 + 1) M10 _ h  _ _ ls hP hS (lv_sub hl [2, 3, 4, 0] rfl) kk
        · rw [if_neg c12] at h
          refine lv_aload_n hx hb dX5_find_52 rfl (lv_at hl 1 rfl) ?_
          refine lv_aload_n hx hb dX5_find_53 rfl (lv_at hl 3 rfl) ?_
          refine lv_iload hx hb dX5_find_54 (lv_at hl 0 rfl) ?_
          refine hy_ret (hy_rVN (T := (M10, Mr, Mo)) (v := some (.int (Re_firstOf v11 M10))) (T2 := (M10, Mr, Mo)) (As := [.int v11]) (rest := [.ref (adr G 18)]) (n := 0) hx hb hml hown hts hX hP hS hl (c_Re_firstOf Mr Mo v11 M10 rfl) m_Re_firstOf q_482 (hy_recv hX hP 5 6 (by decide) rfl rfl) rfl rfl (Nat.le_of_ble_eq_true rfl) dX5_find_56 ⟨Nat.le_of_ble_eq_true rfl, Nat.le_of_ble_eq_true rfl⟩ ⟨Nat.zero_le _, Nat.zero_le _⟩) hS (fun H locs hP hS => ?_)
          refine lv_aload_n hx hb dX5_find_59 rfl (lv_at hl 3 rfl) ?_
          refine lv_iload hx hb dX5_find_60 (lv_at hl 0 rfl) ?_
          refine hy_ret (hy_rVN (T := (M10, Mr, Mo)) (v := some (.int (Re_lastAgainOf v11 M10))) (T2 := (M10, Mr, Mo)) (As := [.int v11]) (rest := [.int (Re_firstOf v11 M10), .ref (adr G 18)]) (n := 0) hx hb hml hown hts hX hP hS hl (c_Re_lastAgainOf Mr Mo v11 M10 rfl) m_Re_lastAgainOf q_486 (hy_recv hX hP 5 6 (by decide) rfl rfl) rfl rfl (Nat.le_of_ble_eq_true rfl) dX5_find_62 ⟨Nat.le_of_ble_eq_true rfl, Nat.le_of_ble_eq_true rfl⟩ ⟨Nat.zero_le _, Nat.zero_le _⟩) hS (fun H locs hP hS => ?_)
          obtain ⟨M13, hM13, h⟩ := hy_bind h
          refine hy_ret (hy_rV0 (T := (M10, Mr, Mo)) (v := none) (T2 := (M13, Mr, Mo)) (As := [.int (Re_firstOf v11 M10), .int (Re_lastAgainOf v11 M10)]) (rest := []) (n := 0) hx hb hml hown hts hX hP hS hl (c_Or_pushAgain Mr Mo (Re_firstOf v11 M10) (Re_lastAgainOf v11 M10) M10 hM13) m_Or_pushAgain q_490 (hy_recv hX hP 18 4 (by decide) rfl rfl) rfl rfl (Nat.le_of_ble_eq_true rfl) dX5_find_65 ⟨Nat.le_of_ble_eq_true rfl, Nat.le_of_ble_eq_true rfl⟩ ⟨Nat.zero_le _, Nat.zero_le _⟩) hS (fun H locs hP hS => ?_)
          refine lv_iinc (v := (x7 + 1)) (lv' := [(3, .int (x7 + 1)), (4, .int v11), (0, .ref (adr G 18)), (1, .int a1), (2, .ref (adr G 5))]) hx hb dX5_find_68 hl (k := 4) rfl rfl (by decide) rfl (fun ls hl => ?_)
          refine lv_goto (tgt := 29) hx hb dX5_find_71 (by decide) ?_
          exact ih (x7 + 1) M13 _ h  _ _ ls hP hS (lv_sub hl [2, 3, 4, 0] rfl) kk
  obtain ⟨q15, hq15, h⟩ := hy_bind h
  refine L14 hyFu 0 NM3 q15 hq15 _ _ ls hP hS (lv_sub hl [1, 2, 3, 0] rfl) ?_
  intro y7 NM8 e9 H locs ls hP hS hl
  subst e9
  try dsimp only at h
  exact hy_vret (T := (NM8, Mr, Mo)) hx hb hr hlocks hP hS (Nat.zero_le _) (Nat.zero_le _) (by rw [← (Option.some.inj h)] <;> rfl) dX5_find_74
set_option maxHeartbeats 1000000 in
set_option maxRecDepth 100000 in
theorem c_Ph_open {l : Launch} {G : hyG} (Mr Mo : hyM) (a1 : Int32) (M : hyM) {res : hyM} (h : Ph_open a1 M = res) : hyC l yX6_open (.code yX6_open cX6_open 2 none) 1 22 (0) G [.ref (adr G 12), .int a1] (M, Mr, Mo) (.inr none, (res, Mr, Mo)) := by
  refine hy_of (by decide +kernel) (Nat.le_of_ble_eq_true rfl) ?_
  intro p e s m below meth c hx hb hml hown hts hr hlocks ht hX hP hS ls hl
  have hl : lv_has ls 2 [(0, .ref (adr G 12)), (1, .int a1)] := hl
  rw [Ph_open] at h
  refine lv_aload_n hx hb dX6_open_0 rfl (lv_at hl 0 rfl) ?_
  refine hy_get (T := (M, Mr, Mo)) (o := 12) (k := 2) (v := .ref (adr G 15)) hx hb hown hts hX hP (by decide) rfl rfl inX6g (by decide) q_199 rfl dX6_open_1 ?_
  refine lv_aload_n hx hb dX6_open_4 rfl (lv_at hl 0 rfl) ?_
  refine hy_get (T := (M, Mr, Mo)) (o := 12) (k := 5) (v := .int (M.1 12 5)) hx hb hown hts hX hP (by decide) rfl rfl inX6g (by decide) q_202 rfl dX6_open_5 ?_
  refine lv_iload_n hx hb dX6_open_8 rfl (lv_at hl 1 rfl) ?_
  refine hy_ret (hy_rSN (T := (M, Mr, Mo)) (v := none) (T2 := ((putf M 15 40 (M.1 12 5) a1), Mr, Mo)) (As := [.ref (adr G 15), .int (M.1 12 5), .int a1]) (rest := []) (n := 0) hx hb hml hown hts hX hP hS hl (c_put Mr Mo 15 40 (by decide) (by decide) (fun _ _ => rfl) (M.1 12 5) a1 M) m_Hp_put q_440 rfl rfl (Nat.le_of_ble_eq_true rfl) dX6_open_9 ⟨Nat.le_of_ble_eq_true rfl, Nat.le_of_ble_eq_true rfl⟩ ⟨Nat.zero_le _, Nat.zero_le _⟩) hS (fun H locs hP hS => ?_)
  refine lv_aload_n hx hb dX6_open_12 rfl (lv_at hl 0 rfl) ?_
  refine hy_get (T := ((putf M 15 40 (M.1 12 5) a1), Mr, Mo)) (o := 12) (k := 4) (v := .ref (adr G 17)) hx hb hown hts hX hP (by decide) rfl rfl inX6g (by decide) q_201 rfl dX6_open_13 ?_
  refine lv_aload_n hx hb dX6_open_16 rfl (lv_at hl 0 rfl) ?_
  refine hy_get (T := ((putf M 15 40 (M.1 12 5) a1), Mr, Mo)) (o := 12) (k := 5) (v := .int ((putf M 15 40 (M.1 12 5) a1).1 12 5)) hx hb hown hts hX hP (by decide) rfl rfl inX6g (by decide) q_202 rfl dX6_open_17 ?_
  refine lv_iconst (v := 0) hx hb dX6_open_20 rfl ?_
  refine hy_ret (hy_rSN (T := ((putf M 15 40 (M.1 12 5) a1), Mr, Mo)) (v := none) (T2 := ((putf (putf M 15 40 (M.1 12 5) a1) 17 40 ((putf M 15 40 (M.1 12 5) a1).1 12 5) 0), Mr, Mo)) (As := [.ref (adr G 17), .int ((putf M 15 40 (M.1 12 5) a1).1 12 5), .int 0]) (rest := []) (n := 0) hx hb hml hown hts hX hP hS hl (c_put Mr Mo 17 40 (by decide) (by decide) (fun _ _ => rfl) ((putf M 15 40 (M.1 12 5) a1).1 12 5) 0 (putf M 15 40 (M.1 12 5) a1)) m_Hp_put q_440 rfl rfl (Nat.le_of_ble_eq_true rfl) dX6_open_21 ⟨Nat.le_of_ble_eq_true rfl, Nat.le_of_ble_eq_true rfl⟩ ⟨Nat.zero_le _, Nat.zero_le _⟩) hS (fun H locs hP hS => ?_)
  refine lv_aload_n hx hb dX6_open_24 rfl (lv_at hl 0 rfl) ?_
  refine lv_dup hx hb dX6_open_25 rfl ?_
  refine hy_get (T := ((putf (putf M 15 40 (M.1 12 5) a1) 17 40 ((putf M 15 40 (M.1 12 5) a1).1 12 5) 0), Mr, Mo)) (o := 12) (k := 5) (v := .int ((putf (putf M 15 40 (M.1 12 5) a1) 17 40 ((putf M 15 40 (M.1 12 5) a1).1 12 5) 0).1 12 5)) hx hb hown hts hX hP (by decide) rfl rfl inX6g (by decide) q_202 rfl dX6_open_26 ?_
  refine lv_iconst (v := 1) hx hb dX6_open_29 rfl ?_
  refine lv_iadd hx hb dX6_open_30 ?_
  refine hy_putI (ty := .int) (T := ((putf (putf M 15 40 (M.1 12 5) a1) 17 40 ((putf M 15 40 (M.1 12 5) a1).1 12 5) 0), Mr, Mo)) (T2 := ((wI (putf (putf M 15 40 (M.1 12 5) a1) 17 40 ((putf M 15 40 (M.1 12 5) a1).1 12 5) 0) 12 5 (((putf (putf M 15 40 (M.1 12 5) a1) 17 40 ((putf M 15 40 (M.1 12 5) a1).1 12 5) 0).1 12 5) + 1)), Mr, Mo)) (o := 12) (k := 5) hx hb hown hts hX hP hS (by decide) rfl rfl rfl rfl inX6g tyX6_ok nmX6 (by decide) q_202 rfl rfl rfl rfl (Nat.le_of_ble_eq_true rfl) dX6_open_31 (fun H locs hP hS => ?_)
  exact hy_vret (T := ((wI (putf (putf M 15 40 (M.1 12 5) a1) 17 40 ((putf M 15 40 (M.1 12 5) a1).1 12 5) 0) 12 5 (((putf (putf M 15 40 (M.1 12 5) a1) 17 40 ((putf M 15 40 (M.1 12 5) a1).1 12 5) 0).1 12 5) + 1)), Mr, Mo)) hx hb hr hlocks hP hS (Nat.zero_le _) (Nat.zero_le _) (by rw [← h] <;> rfl) dX6_open_34
set_option maxHeartbeats 1000000 in
set_option maxRecDepth 100000 in
theorem c_Hp_hasBit {l : Launch} {G : hyG} (Mr Mo : hyM) (a1 : Int64) (a2 : Int32) (M : hyM) {res : Bool} (h : Hp_hasBit a1 a2 M = res) : hyC l yX10_hasBit (.code yX10_hasBit cX10_hasBit 3 (some .boolean)) 0 0 (0) G [.long a1, .int a2] (M, Mr, Mo) (.inr (some (.int (bI res))), (M, Mr, Mo)) := by
  refine hy_of (by decide +kernel) (Nat.le_of_ble_eq_true rfl) ?_
  intro p e s m below meth c hx hb hml hown hts hr hlocks ht hX hP hS ls hl
  have hl : lv_has ls 3 [(0, .long a1), (2, .int a2)] := hl
  rw [Hp_hasBit] at h
  refine lv_lload_n hx hb dX10_hasBit_0 rfl (lv_at hl 0 rfl) ?_
  refine lv_iload_n hx hb dX10_hasBit_1 rfl (lv_at hl 1 rfl) ?_
  refine lv_lushr (v := (jlushr a1 a2)) hx hb dX10_hasBit_2 rfl ?_
  refine lv_lconst (v := 1) hx hb dX10_hasBit_3 rfl ?_
  refine lv_land hx hb dX10_hasBit_4 ?_
  refine lv_lconst (v := 0) hx hb dX10_hasBit_5 rfl ?_
  refine W.lcmp hx hb dX10_hasBit_6 ?_
  have J2 : ∀ (H : Heap) (locs : List Loc) (ls : Array Slot) (u1 : Int32), u1 = (bI (!decide ((lg_cmp ((jlushr a1 a2) &&& 1) 0) = 0))) → va_P G.1 vwCl (wld G (M, Mr, Mo)) H → va_S (hyA G) s.heap H locs → lv_has ls 3 [(0, .long a1), (2, .int a2)] → W p l e { frames := 0, cells := 0, slots := 6 * 0, locals := 0 } s m ([.long a1, .int a2] : List Value).toArray below meth c H locs 0 0 (vx_MQ below (hyQ G (.inr (some (.int (bI res))), (M, Mr, Mo))) (hyXQ G (.inr (some (.int (bI res))), (M, Mr, Mo))) ([.long a1, .int a2] : List Value).toArray s 0 (6 * 0) (hyA G)) (F0 m 15 ls [.int u1]) := by
    intro H locs ls u1 eu1 hP hS hl
    subst eu1
    exact hy_zret (T := (M, Mr, Mo)) hx hb hr hlocks hP hS (Nat.zero_le _) (Nat.zero_le _) (bI_nar (!decide ((lg_cmp ((jlushr a1 a2) &&& 1) 0) = 0))) (by rw [← h] <;> rfl) dX10_hasBit_15
  refine lv_if_eq (tgt := 14) hx hb dX10_hasBit_7 (by decide) (fun c1 => ?_) (fun c1 => ?_)
  · refine lv_iconst (v := 0) hx hb dX10_hasBit_14 rfl ?_
    exact J2 _ _ ls 0 (by rw [decide_eq_true c1] <;> rfl) hP hS (lv_sub hl [0, 1] rfl)
  · refine lv_iconst (v := 1) hx hb dX10_hasBit_10 rfl ?_
    refine lv_goto (tgt := 15) hx hb dX10_hasBit_11 (by decide) ?_
    exact J2 _ _ ls 1 (by rw [decide_eq_false c1] <;> rfl) hP hS (lv_sub hl [0, 1] rfl)
set_option maxHeartbeats 1000000 in
set_option maxRecDepth 100000 in
theorem c_Ph_syllablesOf {l : Launch} {G : hyG} (Mr Mo : hyM) (a1 : Int32) (M : hyM) {res : Int32} (h : Ph_syllablesOf a1 M = res) : hyC l yX6_syllablesOf (.code yX6_syllablesOf cX6_syllablesOf 2 (some .int)) 1 21 (0) G [.ref (adr G 12), .int a1] (M, Mr, Mo) (.inr (some (.int res)), (M, Mr, Mo)) := by
  refine hy_of (by decide +kernel) (Nat.le_of_ble_eq_true rfl) ?_
  intro p e s m below meth c hx hb hml hown hts hr hlocks ht hX hP hS ls hl
  have hl : lv_has ls 2 [(0, .ref (adr G 12)), (1, .int a1)] := hl
  rw [Ph_syllablesOf] at h
  refine lv_aload_n hx hb dX6_syllablesOf_0 rfl (lv_at hl 0 rfl) ?_
  refine hy_get (T := (M, Mr, Mo)) (o := 12) (k := 4) (v := .ref (adr G 17)) hx hb hown hts hX hP (by decide) rfl rfl inX6g (by decide) q_201 rfl dX6_syllablesOf_1 ?_
  refine lv_iload_n hx hb dX6_syllablesOf_4 rfl (lv_at hl 1 rfl) ?_
  refine hy_ret (hy_rSN (T := (M, Mr, Mo)) (v := some (.int (atf 40 (M.1 17) a1))) (T2 := (M, Mr, Mo)) (As := [.ref (adr G 17), .int a1]) (rest := []) (n := 0) hx hb hml hown hts hX hP hS hl (c_at 17 40 (hy34 G (by decide)) (by decide) (fun _ _ => rfl) a1 (M, Mr, Mo)) m_Hp_at q_452 rfl rfl (Nat.le_of_ble_eq_true rfl) dX6_syllablesOf_5 ⟨Nat.le_of_ble_eq_true rfl, Nat.le_of_ble_eq_true rfl⟩ ⟨Nat.zero_le _, Nat.zero_le _⟩) hS (fun H locs hP hS => ?_)
  exact hy_iret (T := (M, Mr, Mo)) hx hb hr hlocks hP hS (Nat.zero_le _) (Nat.zero_le _) (by rw [← h] <;> rfl) dX6_syllablesOf_8
set_option maxHeartbeats 1000000 in
set_option maxRecDepth 100000 in
theorem c_Ph_take {l : Launch} {G : hyG} (Mr Mo : hyM) (a1 : Int32) (a2 : Bool) (M : hyM) {res : hyM} (h : Ph_take a1 a2 M = res) : hyC l yX6_take (.code yX6_take cX6_take 4 none) 2 42 (0) G [.ref (adr G 12), .int a1, .int (bI a2)] (M, Mr, Mo) (.inr none, (res, Mr, Mo)) := by
  refine hy_of (by decide +kernel) (Nat.le_of_ble_eq_true rfl) ?_
  intro p e s m below meth c hx hb hml hown hts hr hlocks ht hX hP hS ls hl
  have hl : lv_has ls 4 [(0, .ref (adr G 12)), (1, .int a1), (2, .int (bI a2))] := hl
  rw [Ph_take] at h
  refine lv_aload_n hx hb dX6_take_0 rfl (lv_at hl 0 rfl) ?_
  refine hy_get (T := (M, Mr, Mo)) (o := 12) (k := 5) (v := .int (M.1 12 5)) hx hb hown hts hX hP (by decide) rfl rfl inX6g (by decide) q_202 rfl dX6_take_1 ?_
  refine lv_iconst (v := 1) hx hb dX6_take_4 rfl ?_
  refine lv_isub hx hb dX6_take_5 ?_
  refine lv_istore_n (lv' := [(3, .int ((M.1 12 5) - 1)), (0, .ref (adr G 12)), (1, .int a1), (2, .int (bI a2))]) hx hb dX6_take_6 rfl hl (by decide) rfl (fun ls hl => ?_)
  refine lv_aload_n hx hb dX6_take_7 rfl (lv_at hl 1 rfl) ?_
  refine hy_get (T := (M, Mr, Mo)) (o := 12) (k := 3) (v := .ref (adr G 16)) hx hb hown hts hX hP (by decide) rfl rfl inX6g (by decide) q_200 rfl dX6_take_8 ?_
  refine lv_iload_n hx hb dX6_take_11 rfl (lv_at hl 0 rfl) ?_
  refine lv_iload_n hx hb dX6_take_12 rfl (lv_at hl 2 rfl) ?_
  refine hy_ret (hy_rSN (T := (M, Mr, Mo)) (v := none) (T2 := ((putf M 16 40 ((M.1 12 5) - 1) a1), Mr, Mo)) (As := [.ref (adr G 16), .int ((M.1 12 5) - 1), .int a1]) (rest := []) (n := 0) hx hb hml hown hts hX hP hS hl (c_put Mr Mo 16 40 (by decide) (by decide) (fun _ _ => rfl) ((M.1 12 5) - 1) a1 M) m_Hp_put q_440 rfl rfl (Nat.le_of_ble_eq_true rfl) dX6_take_13 ⟨Nat.le_of_ble_eq_true rfl, Nat.le_of_ble_eq_true rfl⟩ ⟨Nat.zero_le _, Nat.zero_le _⟩) hS (fun H locs hP hS => ?_)
  refine lv_aload_n hx hb dX6_take_16 rfl (lv_at hl 1 rfl) ?_
  refine hy_get (T := ((putf M 16 40 ((M.1 12 5) - 1) a1), Mr, Mo)) (o := 12) (k := 0) (v := .ref (adr G 13)) hx hb hown hts hX hP (by decide) rfl rfl inX6g (by decide) q_197 rfl dX6_take_17 ?_
  refine lv_iload_n hx hb dX6_take_20 rfl (lv_at hl 2 rfl) ?_
  refine lv_iload_n hx hb dX6_take_21 rfl (lv_at hl 0 rfl) ?_
  refine hy_ret (hy_rSN (T := ((putf M 16 40 ((M.1 12 5) - 1) a1), Mr, Mo)) (v := none) (T2 := ((putf (putf M 16 40 ((M.1 12 5) - 1) a1) 13 40 a1 ((M.1 12 5) - 1)), Mr, Mo)) (As := [.ref (adr G 13), .int a1, .int ((M.1 12 5) - 1)]) (rest := []) (n := 0) hx hb hml hown hts hX hP hS hl (c_put Mr Mo 13 40 (by decide) (by decide) (fun _ _ => rfl) a1 ((M.1 12 5) - 1) (putf M 16 40 ((M.1 12 5) - 1) a1)) m_Hp_put q_440 rfl rfl (Nat.le_of_ble_eq_true rfl) dX6_take_22 ⟨Nat.le_of_ble_eq_true rfl, Nat.le_of_ble_eq_true rfl⟩ ⟨Nat.zero_le _, Nat.zero_le _⟩) hS (fun H locs hP hS => ?_)
  refine lv_aload_n hx hb dX6_take_25 rfl (lv_at hl 1 rfl) ?_
  refine hy_get (T := ((putf (putf M 16 40 ((M.1 12 5) - 1) a1) 13 40 a1 ((M.1 12 5) - 1)), Mr, Mo)) (o := 12) (k := 1) (v := .ref (adr G 14)) hx hb hown hts hX hP (by decide) rfl rfl inX6g (by decide) q_198 rfl dX6_take_26 ?_
  refine lv_iload_n hx hb dX6_take_29 rfl (lv_at hl 2 rfl) ?_
  refine lv_iload_n hx hb dX6_take_30 rfl (lv_at hl 3 rfl) ?_
  have J4 : ∀ (H : Heap) (locs : List Loc) (ls : Array Slot) (u1 : Int32), u1 = (if a2 then (-1) else (Ph_syllablesOf ((M.1 12 5) - 1) (putf (putf M 16 40 ((M.1 12 5) - 1) a1) 13 40 a1 ((M.1 12 5) - 1)))) → va_P G.1 vwCl (wld G ((putf (putf M 16 40 ((M.1 12 5) - 1) a1) 13 40 a1 ((M.1 12 5) - 1)), Mr, Mo)) H → va_S (hyA G) s.heap H locs → lv_has ls 4 [(0, .ref (adr G 12)), (1, .int a1), (2, .int (bI a2)), (3, .int ((M.1 12 5) - 1))] → W p l e { frames := 2, cells := 0, slots := 6 * 0, locals := 42 } s m ([.ref (adr G 12), .int a1, .int (bI a2)] : List Value).toArray below meth c H locs 0 0 (vx_MQ below (hyQ G (.inr none, (res, Mr, Mo))) (hyXQ G (.inr none, (res, Mr, Mo))) ([.ref (adr G 12), .int a1, .int (bI a2)] : List Value).toArray s 0 (6 * 0) (hyA G)) (F0 m 43 ls [.int u1, .int a1, .ref (adr G 14)]) := by
    intro H locs ls u1 eu1 hP hS hl
    subst eu1
    refine hy_ret (hy_rSN (T := ((putf (putf M 16 40 ((M.1 12 5) - 1) a1) 13 40 a1 ((M.1 12 5) - 1)), Mr, Mo)) (v := none) (T2 := ((putf (putf (putf M 16 40 ((M.1 12 5) - 1) a1) 13 40 a1 ((M.1 12 5) - 1)) 14 40 a1 (if a2 then (-1) else (Ph_syllablesOf ((M.1 12 5) - 1) (putf (putf M 16 40 ((M.1 12 5) - 1) a1) 13 40 a1 ((M.1 12 5) - 1))))), Mr, Mo)) (As := [.ref (adr G 14), .int a1, .int (if a2 then (-1) else (Ph_syllablesOf ((M.1 12 5) - 1) (putf (putf M 16 40 ((M.1 12 5) - 1) a1) 13 40 a1 ((M.1 12 5) - 1))))]) (rest := []) (n := 0) hx hb hml hown hts hX hP hS hl (c_put Mr Mo 14 40 (by decide) (by decide) (fun _ _ => rfl) a1 (if a2 then (-1) else (Ph_syllablesOf ((M.1 12 5) - 1) (putf (putf M 16 40 ((M.1 12 5) - 1) a1) 13 40 a1 ((M.1 12 5) - 1)))) (putf (putf M 16 40 ((M.1 12 5) - 1) a1) 13 40 a1 ((M.1 12 5) - 1))) m_Hp_put q_440 rfl rfl (Nat.le_of_ble_eq_true rfl) dX6_take_43 ⟨Nat.le_of_ble_eq_true rfl, Nat.le_of_ble_eq_true rfl⟩ ⟨Nat.zero_le _, Nat.zero_le _⟩) hS (fun H locs hP hS => ?_)
    refine lv_aload_n hx hb dX6_take_46 rfl (lv_at hl 0 rfl) ?_
    refine hy_get (T := ((putf (putf (putf M 16 40 ((M.1 12 5) - 1) a1) 13 40 a1 ((M.1 12 5) - 1)) 14 40 a1 (if a2 then (-1) else (Ph_syllablesOf ((M.1 12 5) - 1) (putf (putf M 16 40 ((M.1 12 5) - 1) a1) 13 40 a1 ((M.1 12 5) - 1))))), Mr, Mo)) (o := 12) (k := 4) (v := .ref (adr G 17)) hx hb hown hts hX hP (by decide) rfl rfl inX6g (by decide) q_201 rfl dX6_take_47 ?_
    refine lv_iload_n hx hb dX6_take_50 rfl (lv_at hl 3 rfl) ?_
    refine lv_aload_n hx hb dX6_take_51 rfl (lv_at hl 0 rfl) ?_
    refine lv_iload_n hx hb dX6_take_52 rfl (lv_at hl 3 rfl) ?_
    refine hy_ret (hy_rV0 (T := ((putf (putf (putf M 16 40 ((M.1 12 5) - 1) a1) 13 40 a1 ((M.1 12 5) - 1)) 14 40 a1 (if a2 then (-1) else (Ph_syllablesOf ((M.1 12 5) - 1) (putf (putf M 16 40 ((M.1 12 5) - 1) a1) 13 40 a1 ((M.1 12 5) - 1))))), Mr, Mo)) (v := some (.int (Ph_syllablesOf ((M.1 12 5) - 1) (putf (putf (putf M 16 40 ((M.1 12 5) - 1) a1) 13 40 a1 ((M.1 12 5) - 1)) 14 40 a1 (if a2 then (-1) else (Ph_syllablesOf ((M.1 12 5) - 1) (putf (putf M 16 40 ((M.1 12 5) - 1) a1) 13 40 a1 ((M.1 12 5) - 1)))))))) (T2 := ((putf (putf (putf M 16 40 ((M.1 12 5) - 1) a1) 13 40 a1 ((M.1 12 5) - 1)) 14 40 a1 (if a2 then (-1) else (Ph_syllablesOf ((M.1 12 5) - 1) (putf (putf M 16 40 ((M.1 12 5) - 1) a1) 13 40 a1 ((M.1 12 5) - 1))))), Mr, Mo)) (As := [.int ((M.1 12 5) - 1)]) (rest := [.int ((M.1 12 5) - 1), .ref (adr G 17)]) (n := 0) hx hb hml hown hts hX hP hS hl (c_Ph_syllablesOf Mr Mo ((M.1 12 5) - 1) (putf (putf (putf M 16 40 ((M.1 12 5) - 1) a1) 13 40 a1 ((M.1 12 5) - 1)) 14 40 a1 (if a2 then (-1) else (Ph_syllablesOf ((M.1 12 5) - 1) (putf (putf M 16 40 ((M.1 12 5) - 1) a1) 13 40 a1 ((M.1 12 5) - 1))))) rfl) m_Ph_syllablesOf q_448 (hy_recv hX hP 12 5 (by decide) rfl rfl) rfl rfl (Nat.le_of_ble_eq_true rfl) dX6_take_53 ⟨Nat.le_of_ble_eq_true rfl, Nat.le_of_ble_eq_true rfl⟩ ⟨Nat.zero_le _, Nat.zero_le _⟩) hS (fun H locs hP hS => ?_)
    refine lv_iload_n hx hb dX6_take_56 rfl (lv_at hl 2 rfl) ?_
    have J3 : ∀ (H : Heap) (locs : List Loc) (ls : Array Slot) (u1 : Int32), u1 = (bI (!a2)) → va_P G.1 vwCl (wld G ((putf (putf (putf M 16 40 ((M.1 12 5) - 1) a1) 13 40 a1 ((M.1 12 5) - 1)) 14 40 a1 (if a2 then (-1) else (Ph_syllablesOf ((M.1 12 5) - 1) (putf (putf M 16 40 ((M.1 12 5) - 1) a1) 13 40 a1 ((M.1 12 5) - 1))))), Mr, Mo)) H → va_S (hyA G) s.heap H locs → lv_has ls 4 [(0, .ref (adr G 12)), (1, .int a1), (2, .int (bI a2)), (3, .int ((M.1 12 5) - 1))] → W p l e { frames := 2, cells := 0, slots := 6 * 0, locals := 42 } s m ([.ref (adr G 12), .int a1, .int (bI a2)] : List Value).toArray below meth c H locs 0 0 (vx_MQ below (hyQ G (.inr none, (res, Mr, Mo))) (hyXQ G (.inr none, (res, Mr, Mo))) ([.ref (adr G 12), .int a1, .int (bI a2)] : List Value).toArray s 0 (6 * 0) (hyA G)) (F0 m 65 ls [.int u1, .int (Ph_syllablesOf ((M.1 12 5) - 1) (putf (putf (putf M 16 40 ((M.1 12 5) - 1) a1) 13 40 a1 ((M.1 12 5) - 1)) 14 40 a1 (if a2 then (-1) else (Ph_syllablesOf ((M.1 12 5) - 1) (putf (putf M 16 40 ((M.1 12 5) - 1) a1) 13 40 a1 ((M.1 12 5) - 1)))))), .int ((M.1 12 5) - 1), .ref (adr G 17)]) := by
      intro H locs ls u1 eu1 hP hS hl
      subst eu1
      refine hy_ret (hy_rSN (T := ((putf (putf (putf M 16 40 ((M.1 12 5) - 1) a1) 13 40 a1 ((M.1 12 5) - 1)) 14 40 a1 (if a2 then (-1) else (Ph_syllablesOf ((M.1 12 5) - 1) (putf (putf M 16 40 ((M.1 12 5) - 1) a1) 13 40 a1 ((M.1 12 5) - 1))))), Mr, Mo)) (v := some (.int (Hp_flag (!a2) (putf (putf (putf M 16 40 ((M.1 12 5) - 1) a1) 13 40 a1 ((M.1 12 5) - 1)) 14 40 a1 (if a2 then (-1) else (Ph_syllablesOf ((M.1 12 5) - 1) (putf (putf M 16 40 ((M.1 12 5) - 1) a1) 13 40 a1 ((M.1 12 5) - 1)))))))) (T2 := ((putf (putf (putf M 16 40 ((M.1 12 5) - 1) a1) 13 40 a1 ((M.1 12 5) - 1)) 14 40 a1 (if a2 then (-1) else (Ph_syllablesOf ((M.1 12 5) - 1) (putf (putf M 16 40 ((M.1 12 5) - 1) a1) 13 40 a1 ((M.1 12 5) - 1))))), Mr, Mo)) (As := [.int (bI (!a2))]) (rest := [.int (Ph_syllablesOf ((M.1 12 5) - 1) (putf (putf (putf M 16 40 ((M.1 12 5) - 1) a1) 13 40 a1 ((M.1 12 5) - 1)) 14 40 a1 (if a2 then (-1) else (Ph_syllablesOf ((M.1 12 5) - 1) (putf (putf M 16 40 ((M.1 12 5) - 1) a1) 13 40 a1 ((M.1 12 5) - 1)))))), .int ((M.1 12 5) - 1), .ref (adr G 17)]) (n := 0) hx hb hml hown hts hX hP hS hl (c_Hp_flag Mr Mo (!a2) (putf (putf (putf M 16 40 ((M.1 12 5) - 1) a1) 13 40 a1 ((M.1 12 5) - 1)) 14 40 a1 (if a2 then (-1) else (Ph_syllablesOf ((M.1 12 5) - 1) (putf (putf M 16 40 ((M.1 12 5) - 1) a1) 13 40 a1 ((M.1 12 5) - 1))))) rfl) m_Hp_flag q_453 rfl rfl (Nat.le_of_ble_eq_true rfl) dX6_take_65 ⟨Nat.le_of_ble_eq_true rfl, Nat.le_of_ble_eq_true rfl⟩ ⟨Nat.zero_le _, Nat.zero_le _⟩) hS (fun H locs hP hS => ?_)
      refine lv_iadd hx hb dX6_take_68 ?_
      refine hy_ret (hy_rSN (T := ((putf (putf (putf M 16 40 ((M.1 12 5) - 1) a1) 13 40 a1 ((M.1 12 5) - 1)) 14 40 a1 (if a2 then (-1) else (Ph_syllablesOf ((M.1 12 5) - 1) (putf (putf M 16 40 ((M.1 12 5) - 1) a1) 13 40 a1 ((M.1 12 5) - 1))))), Mr, Mo)) (v := none) (T2 := ((putf (putf (putf (putf M 16 40 ((M.1 12 5) - 1) a1) 13 40 a1 ((M.1 12 5) - 1)) 14 40 a1 (if a2 then (-1) else (Ph_syllablesOf ((M.1 12 5) - 1) (putf (putf M 16 40 ((M.1 12 5) - 1) a1) 13 40 a1 ((M.1 12 5) - 1))))) 17 40 ((M.1 12 5) - 1) ((Ph_syllablesOf ((M.1 12 5) - 1) (putf (putf (putf M 16 40 ((M.1 12 5) - 1) a1) 13 40 a1 ((M.1 12 5) - 1)) 14 40 a1 (if a2 then (-1) else (Ph_syllablesOf ((M.1 12 5) - 1) (putf (putf M 16 40 ((M.1 12 5) - 1) a1) 13 40 a1 ((M.1 12 5) - 1)))))) + (Hp_flag (!a2) (putf (putf (putf M 16 40 ((M.1 12 5) - 1) a1) 13 40 a1 ((M.1 12 5) - 1)) 14 40 a1 (if a2 then (-1) else (Ph_syllablesOf ((M.1 12 5) - 1) (putf (putf M 16 40 ((M.1 12 5) - 1) a1) 13 40 a1 ((M.1 12 5) - 1)))))))), Mr, Mo)) (As := [.ref (adr G 17), .int ((M.1 12 5) - 1), .int ((Ph_syllablesOf ((M.1 12 5) - 1) (putf (putf (putf M 16 40 ((M.1 12 5) - 1) a1) 13 40 a1 ((M.1 12 5) - 1)) 14 40 a1 (if a2 then (-1) else (Ph_syllablesOf ((M.1 12 5) - 1) (putf (putf M 16 40 ((M.1 12 5) - 1) a1) 13 40 a1 ((M.1 12 5) - 1)))))) + (Hp_flag (!a2) (putf (putf (putf M 16 40 ((M.1 12 5) - 1) a1) 13 40 a1 ((M.1 12 5) - 1)) 14 40 a1 (if a2 then (-1) else (Ph_syllablesOf ((M.1 12 5) - 1) (putf (putf M 16 40 ((M.1 12 5) - 1) a1) 13 40 a1 ((M.1 12 5) - 1)))))))]) (rest := []) (n := 0) hx hb hml hown hts hX hP hS hl (c_put Mr Mo 17 40 (by decide) (by decide) (fun _ _ => rfl) ((M.1 12 5) - 1) ((Ph_syllablesOf ((M.1 12 5) - 1) (putf (putf (putf M 16 40 ((M.1 12 5) - 1) a1) 13 40 a1 ((M.1 12 5) - 1)) 14 40 a1 (if a2 then (-1) else (Ph_syllablesOf ((M.1 12 5) - 1) (putf (putf M 16 40 ((M.1 12 5) - 1) a1) 13 40 a1 ((M.1 12 5) - 1)))))) + (Hp_flag (!a2) (putf (putf (putf M 16 40 ((M.1 12 5) - 1) a1) 13 40 a1 ((M.1 12 5) - 1)) 14 40 a1 (if a2 then (-1) else (Ph_syllablesOf ((M.1 12 5) - 1) (putf (putf M 16 40 ((M.1 12 5) - 1) a1) 13 40 a1 ((M.1 12 5) - 1))))))) (putf (putf (putf M 16 40 ((M.1 12 5) - 1) a1) 13 40 a1 ((M.1 12 5) - 1)) 14 40 a1 (if a2 then (-1) else (Ph_syllablesOf ((M.1 12 5) - 1) (putf (putf M 16 40 ((M.1 12 5) - 1) a1) 13 40 a1 ((M.1 12 5) - 1)))))) m_Hp_put q_440 rfl rfl (Nat.le_of_ble_eq_true rfl) dX6_take_69 ⟨Nat.le_of_ble_eq_true rfl, Nat.le_of_ble_eq_true rfl⟩ ⟨Nat.zero_le _, Nat.zero_le _⟩) hS (fun H locs hP hS => ?_)
      exact hy_vret (T := ((putf (putf (putf (putf M 16 40 ((M.1 12 5) - 1) a1) 13 40 a1 ((M.1 12 5) - 1)) 14 40 a1 (if a2 then (-1) else (Ph_syllablesOf ((M.1 12 5) - 1) (putf (putf M 16 40 ((M.1 12 5) - 1) a1) 13 40 a1 ((M.1 12 5) - 1))))) 17 40 ((M.1 12 5) - 1) ((Ph_syllablesOf ((M.1 12 5) - 1) (putf (putf (putf M 16 40 ((M.1 12 5) - 1) a1) 13 40 a1 ((M.1 12 5) - 1)) 14 40 a1 (if a2 then (-1) else (Ph_syllablesOf ((M.1 12 5) - 1) (putf (putf M 16 40 ((M.1 12 5) - 1) a1) 13 40 a1 ((M.1 12 5) - 1)))))) + (Hp_flag (!a2) (putf (putf (putf M 16 40 ((M.1 12 5) - 1) a1) 13 40 a1 ((M.1 12 5) - 1)) 14 40 a1 (if a2 then (-1) else (Ph_syllablesOf ((M.1 12 5) - 1) (putf (putf M 16 40 ((M.1 12 5) - 1) a1) 13 40 a1 ((M.1 12 5) - 1)))))))), Mr, Mo)) hx hb hr hlocks hP hS (Nat.zero_le _) (Nat.zero_le _) (by rw [← h] <;> rfl) dX6_take_72
    refine lv_if_ne (tgt := 64) hx hb dX6_take_57 (by decide) (fun c2 => ?_) (fun c2 => ?_)
    · refine lv_iconst (v := 0) hx hb dX6_take_64 rfl ?_
      exact J3 _ _ ls 0 (by rw [(bI_1 c2)] <;> rfl) hP hS (lv_sub hl [0, 1, 2, 3] rfl)
    · refine lv_iconst (v := 1) hx hb dX6_take_60 rfl ?_
      refine lv_goto (tgt := 65) hx hb dX6_take_61 (by decide) ?_
      exact J3 _ _ ls 1 (by rw [(bI_z c2)] <;> rfl) hP hS (lv_sub hl [0, 1, 2, 3] rfl)
  refine lv_if_eq (tgt := 38) hx hb dX6_take_31 (by decide) (fun c1 => ?_) (fun c1 => ?_)
  · refine lv_aload_n hx hb dX6_take_38 rfl (lv_at hl 1 rfl) ?_
    refine lv_iload_n hx hb dX6_take_39 rfl (lv_at hl 0 rfl) ?_
    refine hy_ret (hy_rV0 (T := ((putf (putf M 16 40 ((M.1 12 5) - 1) a1) 13 40 a1 ((M.1 12 5) - 1)), Mr, Mo)) (v := some (.int (Ph_syllablesOf ((M.1 12 5) - 1) (putf (putf M 16 40 ((M.1 12 5) - 1) a1) 13 40 a1 ((M.1 12 5) - 1))))) (T2 := ((putf (putf M 16 40 ((M.1 12 5) - 1) a1) 13 40 a1 ((M.1 12 5) - 1)), Mr, Mo)) (As := [.int ((M.1 12 5) - 1)]) (rest := [.int a1, .ref (adr G 14)]) (n := 0) hx hb hml hown hts hX hP hS hl (c_Ph_syllablesOf Mr Mo ((M.1 12 5) - 1) (putf (putf M 16 40 ((M.1 12 5) - 1) a1) 13 40 a1 ((M.1 12 5) - 1)) rfl) m_Ph_syllablesOf q_448 (hy_recv hX hP 12 5 (by decide) rfl rfl) rfl rfl (Nat.le_of_ble_eq_true rfl) dX6_take_40 ⟨Nat.le_of_ble_eq_true rfl, Nat.le_of_ble_eq_true rfl⟩ ⟨Nat.zero_le _, Nat.zero_le _⟩) hS (fun H locs hP hS => ?_)
    exact J4 _ _ ls (Ph_syllablesOf ((M.1 12 5) - 1) (putf (putf M 16 40 ((M.1 12 5) - 1) a1) 13 40 a1 ((M.1 12 5) - 1))) (by rw [if_neg (bI_0 c1)] <;> rfl) hP hS (lv_sub hl [1, 2, 3, 0] rfl)
  · refine lv_iconst (v := (-1)) hx hb dX6_take_34 rfl ?_
    refine lv_goto (tgt := 43) hx hb dX6_take_35 (by decide) ?_
    exact J4 _ _ ls (-1) (by rw [if_pos (bI_1 c1)] <;> rfl) hP hS (lv_sub hl [1, 2, 3, 0] rfl)
