set_option maxHeartbeats 1000000 in
set_option maxRecDepth 100000 in
theorem c_Hp_dropNote {l : Launch} {G : hyG} (hlt : l.stackTraces = false) (Mr Mo : hyM) (M : hyM) {res : ((Nat ⊕ Int32) × hyM)} (h : Hp_dropNote M = some res) : hyC l yX10_dropNote (.code yX10_dropNote cX10_dropNote 1 (some .int)) 6 138 (hyNo res.1) G [.ref (adr G 0)] (M, Mr, Mo) (hyoI res.1, (res.2, Mr, Mo)) := by
  refine hy_of (by decide +kernel) (Nat.le_of_ble_eq_true rfl) ?_
  intro p e s m below meth c hx hb hml hown hts hr hlocks ht hX hP hS ls hl
  have hl : lv_has ls 1 [(0, .ref (adr G 0))] := hl
  rw [Hp_dropNote] at h
  refine lv_aload_n hx hb dX10_dropNote_0 rfl (lv_at hl 0 rfl) ?_
  refine hy_get (T := (M, Mr, Mo)) (o := 0) (k := 0) (v := .ref (adr G 1)) hx hb hown hts hX hP (by decide) rfl rfl inX10g (by decide) q_293 rfl dX10_dropNote_1 ?_
  refine hy_getN (T := (M, Mr, Mo)) (o := 1) (k := 4) (v := .int (M.1 1 4)) hx hb hown hts hX hP (by decide) rfl rfl inX8g (by decide) q_125 rfl dX10_dropNote_4 ?_
  refine lv_if_gt (tgt := 20) hx hb dX10_dropNote_7 (by decide) (fun c1 => ?_) (fun c1 => ?_)
  · rw [if_pos c1] at h
    refine lv_aload_n hx hb dX10_dropNote_20 rfl (lv_at hl 0 rfl) ?_
    refine hy_get (T := (M, Mr, Mo)) (o := 0) (k := 0) (v := .ref (adr G 1)) hx hb hown hts hX hP (by decide) rfl rfl inX10g (by decide) q_293 rfl dX10_dropNote_21 ?_
    refine hy_ret (hy_rVN (T := (M, Mr, Mo)) (v := none) (T2 := ((Tu_pop M), Mr, Mo)) (As := []) (rest := []) (n := 0) hx hb hml hown hts hX hP hS hl (c_Tu_pop Mr Mo M rfl) m_Tu_pop q_1017 (hy_recv hX hP 1 7 (by decide) rfl rfl) rfl rfl (Nat.le_of_ble_eq_true rfl) dX10_dropNote_24 ⟨Nat.le_of_ble_eq_true rfl, Nat.le_of_ble_eq_true rfl⟩ ⟨Nat.zero_le _, Nat.zero_le _⟩) hS (fun H locs hP hS => ?_)
    obtain ⟨M2, hM2, h⟩ := hy_bind h
    rw [Option.some.inj hM2] at hP
    refine lv_aload_n hx hb dX10_dropNote_27 rfl (lv_at hl 0 rfl) ?_
    obtain ⟨M3, hM3, h⟩ := hy_bind h
    refine hy_ret (hy_rV0 (T := (M2, Mr, Mo)) (v := none) (T2 := (M3, Mr, Mo)) (As := []) (rest := []) (n := 0) hx hb hml hown hts hX hP hS hl (c_Hp_layOut Mr Mo M2 hM3) m_Hp_layOut q_428 (hy_recv hX hP 0 9 (by decide) rfl rfl) rfl rfl (Nat.le_of_ble_eq_true rfl) dX10_dropNote_28 ⟨Nat.le_of_ble_eq_true rfl, Nat.le_of_ble_eq_true rfl⟩ ⟨Nat.zero_le _, Nat.zero_le _⟩) hS (fun H locs hP hS => ?_)
    refine lv_aload_n hx hb dX10_dropNote_31 rfl (lv_at hl 0 rfl) ?_
    refine hy_get (T := (M3, Mr, Mo)) (o := 0) (k := 0) (v := .ref (adr G 1)) hx hb hown hts hX hP (by decide) rfl rfl inX10g (by decide) q_293 rfl dX10_dropNote_32 ?_
    refine hy_getN (T := (M3, Mr, Mo)) (o := 1) (k := 4) (v := .int (M3.1 1 4)) hx hb hown hts hX hP (by decide) rfl rfl inX8g (by decide) q_125 rfl dX10_dropNote_35 ?_
    exact hy_iret (T := (M3, Mr, Mo)) hx hb hr hlocks hP hS (Nat.zero_le _) (Nat.zero_le _) (by rw [← (Option.some.inj h)] <;> rfl) dX10_dropNote_38
  · rw [if_neg c1] at h
    exact hy_throw (T := (M, Mr, Mo)) (k := 2) (text := "there are no notes") hlt hx hb hml hown hts ht hlocks hX hP hS hl hyAt_2 q_883 q_99 (by decide) dX10_dropNote_10 dX10_dropNote_13 dX10_dropNote_14 dX10_dropNote_16 dX10_dropNote_19 ⟨Nat.le_of_ble_eq_true rfl, Nat.le_of_ble_eq_true rfl⟩ ⟨by rw [← (Option.some.inj h)]; exact Nat.le_of_ble_eq_true rfl, by rw [← (Option.some.inj h)]; exact Nat.le_of_ble_eq_true rfl⟩ ⟨by rw [← (Option.some.inj h)]; exact Nat.le_of_ble_eq_true rfl, by rw [← (Option.some.inj h)]; exact Nat.le_of_ble_eq_true rfl⟩ (by rw [← (Option.some.inj h)] <;> rfl)
set_option maxHeartbeats 1000000 in
set_option maxRecDepth 100000 in
theorem c_Hp_checkIndex {l : Launch} {G : hyG} (hlt : l.stackTraces = false) (Mr Mo : hyM) (a1 : Int32) (a2 : Int32) (M : hyM) {res : (Nat ⊕ Unit)} (h : Hp_checkIndex a1 a2 M = res) : hyC l yX10_checkIndex (.code yX10_checkIndex cX10_checkIndex 2 none) 6 90 (hyNo res) G [.int a1, .int a2] (M, Mr, Mo) (hyoU res, (M, Mr, Mo)) := by
  refine hy_of (by decide +kernel) (Nat.le_of_ble_eq_true rfl) ?_
  intro p e s m below meth c hx hb hml hown hts hr hlocks ht hX hP hS ls hl
  have hl : lv_has ls 2 [(0, .int a1), (1, .int a2)] := hl
  rw [Hp_checkIndex] at h
  refine lv_iload_n hx hb dX10_checkIndex_0 rfl (lv_at hl 0 rfl) ?_
  have K3 : ∀ (H : Heap) (locs : List Loc), (if a1 < 0 then true else (!decide (a1 < a2))) = true → va_P G.1 vwCl (wld G (M, Mr, Mo)) H → va_S (hyA G) s.heap H locs → W p l e { frames := 6, cells := (hyNo res), slots := 6 * (hyNo res), locals := 90 } s m ([.int a1, .int a2] : List Value).toArray below meth c H locs 0 0 (vx_MQ below (hyQ G (hyoU res, (M, Mr, Mo))) (hyXQ G (hyoU res, (M, Mr, Mo))) ([.int a1, .int a2] : List Value).toArray s (hyNo res) (6 * (hyNo res)) (hyA G)) (F0 m 9 ls []) := by
    intro H locs cb hP hS
    rw [if_pos cb] at h
    exact hy_throwW (T := (M, Mr, Mo)) (k := 3) (text := "there is no such number") hlt hx hb hml hown hts ht hlocks hX hP hS hl hyAt_3 q_669 q_100 (by decide) dX10_checkIndex_9 dX10_checkIndex_12 dX10_checkIndex_13 dX10_checkIndex_16 dX10_checkIndex_19 ⟨Nat.le_of_ble_eq_true rfl, Nat.le_of_ble_eq_true rfl⟩ ⟨by rw [← h]; exact Nat.le_of_ble_eq_true rfl, by rw [← h]; exact Nat.le_of_ble_eq_true rfl⟩ ⟨by rw [← h]; exact Nat.le_of_ble_eq_true rfl, by rw [← h]; exact Nat.le_of_ble_eq_true rfl⟩ (by rw [← h] <;> rfl)
  have K4 : ∀ (H : Heap) (locs : List Loc), ¬ (if a1 < 0 then true else (!decide (a1 < a2))) = true → va_P G.1 vwCl (wld G (M, Mr, Mo)) H → va_S (hyA G) s.heap H locs → W p l e { frames := 6, cells := (hyNo res), slots := 6 * (hyNo res), locals := 90 } s m ([.int a1, .int a2] : List Value).toArray below meth c H locs 0 0 (vx_MQ below (hyQ G (hyoU res, (M, Mr, Mo))) (hyXQ G (hyoU res, (M, Mr, Mo))) ([.int a1, .int a2] : List Value).toArray s (hyNo res) (6 * (hyNo res)) (hyA G)) (F0 m 20 ls []) := by
    intro H locs cb hP hS
    rw [if_neg cb] at h
    exact hy_vret (T := (M, Mr, Mo)) hx hb hr hlocks hP hS (Nat.zero_le _) (Nat.zero_le _) (by rw [← h] <;> rfl) dX10_checkIndex_20
  refine lv_if_lt (tgt := 9) hx hb dX10_checkIndex_1 (by decide) (fun c1 => ?_) (fun c1 => ?_)
  · exact K3 _ _ (by rw [if_pos c1] <;> first | rfl | decide) hP hS
  · refine lv_iload_n hx hb dX10_checkIndex_4 rfl (lv_at hl 0 rfl) ?_
    refine lv_iload_n hx hb dX10_checkIndex_5 rfl (lv_at hl 1 rfl) ?_
    refine lv_icmp_lt (tgt := 20) hx hb dX10_checkIndex_6 (by decide) (fun c2 => ?_) (fun c2 => ?_)
    · exact K4 _ _ (by rw [if_neg c1, decide_eq_true c2] <;> first | rfl | decide) hP hS
    · exact K3 _ _ (by rw [if_neg c1, decide_eq_false c2] <;> first | rfl | decide) hP hS
set_option maxHeartbeats 1000000 in
set_option maxRecDepth 100000 in
theorem c_Hp_setPitch {l : Launch} {G : hyG} (hlt : l.stackTraces = false) (Mr Mo : hyM) (a1 : Int32) (a2 : Int32) (a3 : Int32) (M : hyM) {res : ((Nat ⊕ Int32) × hyM)} (h : Hp_setPitch a1 a2 a3 M = res) : hyC l yX10_setPitch (.code yX10_setPitch cX10_setPitch 5 (some .int)) 8 132 (hyNo res.1) G [.ref (adr G 0), .int a1, .int a2, .int a3] (M, Mr, Mo) (hyoI res.1, (res.2, Mr, Mo)) := by
  refine hy_of (by decide +kernel) (Nat.le_of_ble_eq_true rfl) ?_
  intro p e s m below meth c hx hb hml hown hts hr hlocks ht hX hP hS ls hl
  have hl : lv_has ls 5 [(0, .ref (adr G 0)), (1, .int a1), (2, .int a2), (3, .int a3)] := hl
  rw [Hp_setPitch] at h
  refine lv_iload_n hx hb dX10_setPitch_0 rfl (lv_at hl 1 rfl) ?_
  refine lv_aload_n hx hb dX10_setPitch_1 rfl (lv_at hl 0 rfl) ?_
  refine hy_get (T := (M, Mr, Mo)) (o := 0) (k := 0) (v := .ref (adr G 1)) hx hb hown hts hX hP (by decide) rfl rfl inX10g (by decide) q_293 rfl dX10_setPitch_2 ?_
  refine hy_getN (T := (M, Mr, Mo)) (o := 1) (k := 4) (v := .int (M.1 1 4)) hx hb hown hts hX hP (by decide) rfl rfl inX8g (by decide) q_125 rfl dX10_setPitch_5 ?_
  obtain ⟨u1, hu1⟩ : ∃ z, Hp_checkIndex a1 (M.1 1 4) M = z := ⟨_, rfl⟩
  rw [hu1] at h
  rcases u1 with k2 | r3
  all_goals try dsimp only at h
  · have er := h
    refine hy_retX (ou := (.inl k2, (M, Mr, Mo))) (n := 1) (k := 0) (hy_rS (T := (M, Mr, Mo)) (ou := (.inl k2, (M, Mr, Mo))) (As := [.int a1, .int (M.1 1 4)]) (rest := []) (n := 1) hx hb hml hown hts hX hP hS hl (c_Hp_checkIndex hlt Mr Mo a1 (M.1 1 4) M (res := .inl k2) hu1) m_Hp_checkIndex q_666 rfl rfl (Nat.le_of_ble_eq_true rfl) dX10_setPitch_8 ⟨Nat.le_of_ble_eq_true rfl, Nat.le_of_ble_eq_true rfl⟩ ⟨by rw [← er]; exact Nat.le_of_ble_eq_true rfl, by rw [← er]; exact Nat.le_of_ble_eq_true rfl⟩) hS (fun k hk q ce H locs hP hS hce hcv hcl => ?_) (fun v hv => by cases hv)
    cases hk
    exact hy_out (T := (M, Mr, Mo)) ht hlocks hP hS (by rw [← er]; exact Nat.le_of_ble_eq_true rfl) (by rw [← er]; exact Nat.le_of_ble_eq_true rfl) (by rw [← er] <;> rfl) hce hcv hcl
  · refine hy_retX (ou := (.inr (none), (M, Mr, Mo))) (n := 0) (k := 0) (hy_rS (T := (M, Mr, Mo)) (ou := (.inr (none), (M, Mr, Mo))) (As := [.int a1, .int (M.1 1 4)]) (rest := []) (n := 0) hx hb hml hown hts hX hP hS hl (c_Hp_checkIndex hlt Mr Mo a1 (M.1 1 4) M (res := .inr r3) hu1) m_Hp_checkIndex q_666 rfl rfl (Nat.le_of_ble_eq_true rfl) dX10_setPitch_8 ⟨Nat.le_of_ble_eq_true rfl, Nat.le_of_ble_eq_true rfl⟩ ⟨Nat.zero_le _, Nat.zero_le _⟩) hS (fun k hk => by cases hk) (fun v hv H locs hP hS => ?_)
    cases hv
    refine lv_iload_n hx hb dX10_setPitch_11 rfl (lv_at hl 2 rfl) ?_
    refine lv_iconst (v := 4) hx hb dX10_setPitch_12 rfl ?_
    obtain ⟨u4, hu4⟩ : ∃ z, Hp_checkIndex a2 4 M = z := ⟨_, rfl⟩
    rw [hu4] at h
    rcases u4 with k5 | r6
    all_goals try dsimp only at h
    · have er := h
      refine hy_retX (ou := (.inl k5, (M, Mr, Mo))) (n := 1) (k := 0) (hy_rS (T := (M, Mr, Mo)) (ou := (.inl k5, (M, Mr, Mo))) (As := [.int a2, .int 4]) (rest := []) (n := 1) hx hb hml hown hts hX hP hS hl (c_Hp_checkIndex hlt Mr Mo a2 4 M (res := .inl k5) hu4) m_Hp_checkIndex q_666 rfl rfl (Nat.le_of_ble_eq_true rfl) dX10_setPitch_13 ⟨Nat.le_of_ble_eq_true rfl, Nat.le_of_ble_eq_true rfl⟩ ⟨by rw [← er]; exact Nat.le_of_ble_eq_true rfl, by rw [← er]; exact Nat.le_of_ble_eq_true rfl⟩) hS (fun k hk q ce H locs hP hS hce hcv hcl => ?_) (fun v hv => by cases hv)
      cases hk
      exact hy_out (T := (M, Mr, Mo)) ht hlocks hP hS (by rw [← er]; exact Nat.le_of_ble_eq_true rfl) (by rw [← er]; exact Nat.le_of_ble_eq_true rfl) (by rw [← er] <;> rfl) hce hcv hcl
    · refine hy_retX (ou := (.inr (none), (M, Mr, Mo))) (n := 0) (k := 0) (hy_rS (T := (M, Mr, Mo)) (ou := (.inr (none), (M, Mr, Mo))) (As := [.int a2, .int 4]) (rest := []) (n := 0) hx hb hml hown hts hX hP hS hl (c_Hp_checkIndex hlt Mr Mo a2 4 M (res := .inr r6) hu4) m_Hp_checkIndex q_666 rfl rfl (Nat.le_of_ble_eq_true rfl) dX10_setPitch_13 ⟨Nat.le_of_ble_eq_true rfl, Nat.le_of_ble_eq_true rfl⟩ ⟨Nat.zero_le _, Nat.zero_le _⟩) hS (fun k hk => by cases hk) (fun v hv H locs hP hS => ?_)
      cases hv
      refine lv_iload_n hx hb dX10_setPitch_16 rfl (lv_at hl 3 rfl) ?_
      obtain ⟨u7, hu7⟩ : ∃ z, Hp_checkPitch a3 M = z := ⟨_, rfl⟩
      rw [hu7] at h
      rcases u7 with k8 | r9
      all_goals try dsimp only at h
      · have er := h
        refine hy_retX (ou := (.inl k8, (M, Mr, Mo))) (n := 1) (k := 0) (hy_rS (T := (M, Mr, Mo)) (ou := (.inl k8, (M, Mr, Mo))) (As := [.int a3]) (rest := []) (n := 1) hx hb hml hown hts hX hP hS hl (c_Hp_checkPitch hlt Mr Mo a3 M (res := .inl k8) hu7) m_Hp_checkPitch q_991 rfl rfl (Nat.le_of_ble_eq_true rfl) dX10_setPitch_17 ⟨Nat.le_of_ble_eq_true rfl, Nat.le_of_ble_eq_true rfl⟩ ⟨by rw [← er]; exact Nat.le_of_ble_eq_true rfl, by rw [← er]; exact Nat.le_of_ble_eq_true rfl⟩) hS (fun k hk q ce H locs hP hS hce hcv hcl => ?_) (fun v hv => by cases hv)
        cases hk
        exact hy_out (T := (M, Mr, Mo)) ht hlocks hP hS (by rw [← er]; exact Nat.le_of_ble_eq_true rfl) (by rw [← er]; exact Nat.le_of_ble_eq_true rfl) (by rw [← er] <;> rfl) hce hcv hcl
      · refine hy_retX (ou := (.inr (none), (M, Mr, Mo))) (n := 0) (k := 0) (hy_rS (T := (M, Mr, Mo)) (ou := (.inr (none), (M, Mr, Mo))) (As := [.int a3]) (rest := []) (n := 0) hx hb hml hown hts hX hP hS hl (c_Hp_checkPitch hlt Mr Mo a3 M (res := .inr r9) hu7) m_Hp_checkPitch q_991 rfl rfl (Nat.le_of_ble_eq_true rfl) dX10_setPitch_17 ⟨Nat.le_of_ble_eq_true rfl, Nat.le_of_ble_eq_true rfl⟩ ⟨Nat.zero_le _, Nat.zero_le _⟩) hS (fun k hk => by cases hk) (fun v hv H locs hP hS => ?_)
        cases hv
        refine lv_aload_n hx hb dX10_setPitch_20 rfl (lv_at hl 0 rfl) ?_
        refine hy_get (T := (M, Mr, Mo)) (o := 0) (k := 0) (v := .ref (adr G 1)) hx hb hown hts hX hP (by decide) rfl rfl inX10g (by decide) q_293 rfl dX10_setPitch_21 ?_
        refine lv_iload_n hx hb dX10_setPitch_24 rfl (lv_at hl 1 rfl) ?_
        refine lv_iload_n hx hb dX10_setPitch_25 rfl (lv_at hl 2 rfl) ?_
        refine hy_ret (hy_rVN (T := (M, Mr, Mo)) (v := some (.int (Tu_pitchOf a1 a2 M))) (T2 := (M, Mr, Mo)) (As := [.int a1, .int a2]) (rest := []) (n := 0) hx hb hml hown hts hX hP hS hl (c_Tu_pitchOf Mr Mo a1 a2 M rfl) m_Tu_pitchOf q_752 (hy_recv hX hP 1 7 (by decide) rfl rfl) rfl rfl (Nat.le_of_ble_eq_true rfl) dX10_setPitch_26 ⟨Nat.le_of_ble_eq_true rfl, Nat.le_of_ble_eq_true rfl⟩ ⟨Nat.zero_le _, Nat.zero_le _⟩) hS (fun H locs hP hS => ?_)
        refine lv_istore (lv' := [(4, .int (Tu_pitchOf a1 a2 M)), (0, .ref (adr G 0)), (1, .int a1), (2, .int a2), (3, .int a3)]) hx hb dX10_setPitch_29 hl (by decide) rfl (fun ls hl => ?_)
        refine lv_aload_n hx hb dX10_setPitch_31 rfl (lv_at hl 1 rfl) ?_
        refine hy_get (T := (M, Mr, Mo)) (o := 0) (k := 0) (v := .ref (adr G 1)) hx hb hown hts hX hP (by decide) rfl rfl inX10g (by decide) q_293 rfl dX10_setPitch_32 ?_
        refine lv_iload_n hx hb dX10_setPitch_35 rfl (lv_at hl 2 rfl) ?_
        refine lv_iload_n hx hb dX10_setPitch_36 rfl (lv_at hl 3 rfl) ?_
        refine lv_iload_n hx hb dX10_setPitch_37 rfl (lv_at hl 4 rfl) ?_
        refine hy_ret (hy_rVN (T := (M, Mr, Mo)) (v := none) (T2 := ((Tu_changePitch a1 a2 a3 M), Mr, Mo)) (As := [.int a1, .int a2, .int a3]) (rest := []) (n := 0) hx hb hml hown hts hX hP hS hl (c_Tu_changePitch Mr Mo a1 a2 a3 M rfl) m_Tu_changePitch q_1026 (hy_recv hX hP 1 7 (by decide) rfl rfl) rfl rfl (Nat.le_of_ble_eq_true rfl) dX10_setPitch_38 ⟨Nat.le_of_ble_eq_true rfl, Nat.le_of_ble_eq_true rfl⟩ ⟨Nat.zero_le _, Nat.zero_le _⟩) hS (fun H locs hP hS => ?_)
        refine lv_iload hx hb dX10_setPitch_41 (lv_at hl 0 rfl) ?_
        exact hy_iret (T := ((Tu_changePitch a1 a2 a3 M), Mr, Mo)) hx hb hr hlocks hP hS (Nat.zero_le _) (Nat.zero_le _) (by rw [← h] <;> rfl) dX10_setPitch_43
set_option maxHeartbeats 1000000 in
set_option maxRecDepth 100000 in
theorem c_Hp_mark {l : Launch} {G : hyG} (hlt : l.stackTraces = false) (Mr Mo : hyM) (a1 : Int32) (a2 : Bool) (a3 : Bool) (M : hyM) {res : ((Nat ⊕ Int32) × hyM)} (h : Hp_mark a1 a2 a3 M = some res) : hyC l yX10_mark (.code yX10_mark cX10_mark 4 (some .int)) 7 138 (hyNo res.1) G [.ref (adr G 0), .int a1, .int (bI a2), .int (bI a3)] (M, Mr, Mo) (hyoI res.1, (res.2, Mr, Mo)) := by
  refine hy_of (by decide +kernel) (Nat.le_of_ble_eq_true rfl) ?_
  intro p e s m below meth c hx hb hml hown hts hr hlocks ht hX hP hS ls hl
  have hl : lv_has ls 4 [(0, .ref (adr G 0)), (1, .int a1), (2, .int (bI a2)), (3, .int (bI a3))] := hl
  rw [Hp_mark] at h
  refine lv_iload_n hx hb dX10_mark_0 rfl (lv_at hl 1 rfl) ?_
  refine lv_aload_n hx hb dX10_mark_1 rfl (lv_at hl 0 rfl) ?_
  refine hy_get (T := (M, Mr, Mo)) (o := 0) (k := 0) (v := .ref (adr G 1)) hx hb hown hts hX hP (by decide) rfl rfl inX10g (by decide) q_293 rfl dX10_mark_2 ?_
  refine hy_getN (T := (M, Mr, Mo)) (o := 1) (k := 4) (v := .int (M.1 1 4)) hx hb hown hts hX hP (by decide) rfl rfl inX8g (by decide) q_125 rfl dX10_mark_5 ?_
  obtain ⟨u1, hu1⟩ : ∃ z, Hp_checkIndex a1 (M.1 1 4) M = z := ⟨_, rfl⟩
  rw [hu1] at h
  rcases u1 with k2 | r3
  all_goals try dsimp only at h
  · have er := (Option.some.inj h)
    refine hy_retX (ou := (.inl k2, (M, Mr, Mo))) (n := 1) (k := 0) (hy_rS (T := (M, Mr, Mo)) (ou := (.inl k2, (M, Mr, Mo))) (As := [.int a1, .int (M.1 1 4)]) (rest := []) (n := 1) hx hb hml hown hts hX hP hS hl (c_Hp_checkIndex hlt Mr Mo a1 (M.1 1 4) M (res := .inl k2) hu1) m_Hp_checkIndex q_666 rfl rfl (Nat.le_of_ble_eq_true rfl) dX10_mark_8 ⟨Nat.le_of_ble_eq_true rfl, Nat.le_of_ble_eq_true rfl⟩ ⟨by rw [← er]; exact Nat.le_of_ble_eq_true rfl, by rw [← er]; exact Nat.le_of_ble_eq_true rfl⟩) hS (fun k hk q ce H locs hP hS hce hcv hcl => ?_) (fun v hv => by cases hv)
    cases hk
    exact hy_out (T := (M, Mr, Mo)) ht hlocks hP hS (by rw [← er]; exact Nat.le_of_ble_eq_true rfl) (by rw [← er]; exact Nat.le_of_ble_eq_true rfl) (by rw [← er] <;> rfl) hce hcv hcl
  · refine hy_retX (ou := (.inr (none), (M, Mr, Mo))) (n := 0) (k := 0) (hy_rS (T := (M, Mr, Mo)) (ou := (.inr (none), (M, Mr, Mo))) (As := [.int a1, .int (M.1 1 4)]) (rest := []) (n := 0) hx hb hml hown hts hX hP hS hl (c_Hp_checkIndex hlt Mr Mo a1 (M.1 1 4) M (res := .inr r3) hu1) m_Hp_checkIndex q_666 rfl rfl (Nat.le_of_ble_eq_true rfl) dX10_mark_8 ⟨Nat.le_of_ble_eq_true rfl, Nat.le_of_ble_eq_true rfl⟩ ⟨Nat.zero_le _, Nat.zero_le _⟩) hS (fun k hk => by cases hk) (fun v hv H locs hP hS => ?_)
    cases hv
    refine lv_iload_n hx hb dX10_mark_11 rfl (lv_at hl 2 rfl) ?_
    refine lv_if_eq (tgt := 37) hx hb dX10_mark_12 (by decide) (fun c4 => ?_) (fun c4 => ?_)
    · rw [if_neg (bI_0 c4)] at h
      refine lv_aload_n hx hb dX10_mark_37 rfl (lv_at hl 0 rfl) ?_
      refine hy_get (T := (M, Mr, Mo)) (o := 0) (k := 0) (v := .ref (adr G 1)) hx hb hown hts hX hP (by decide) rfl rfl inX10g (by decide) q_293 rfl dX10_mark_38 ?_
      refine lv_aload_n hx hb dX10_mark_41 rfl (lv_at hl 0 rfl) ?_
      refine hy_get (T := (M, Mr, Mo)) (o := 0) (k := 0) (v := .ref (adr G 1)) hx hb hown hts hX hP (by decide) rfl rfl inX10g (by decide) q_293 rfl dX10_mark_42 ?_
      refine hy_getN (T := (M, Mr, Mo)) (o := 1) (k := 2) (v := .long (M.2 1 2)) hx hb hown hts hX hP (by decide) rfl rfl inX8g (by decide) q_120 rfl dX10_mark_45 ?_
      refine lv_iload_n hx hb dX10_mark_48 rfl (lv_at hl 1 rfl) ?_
      refine lv_iload_n hx hb dX10_mark_49 rfl (lv_at hl 3 rfl) ?_
      refine hy_ret (hy_rS0 (T := (M, Mr, Mo)) (v := some (.long (Hp_withBit (M.2 1 2) a1 a3 M))) (T2 := (M, Mr, Mo)) (As := [.long (M.2 1 2), .int a1, .int (bI a3)]) (rest := [.ref (adr G 1)]) (n := 0) hx hb hml hown hts hX hP hS hl (c_Hp_withBit Mr Mo (M.2 1 2) a1 a3 M rfl) m_Hp_withBit q_1008 rfl rfl (Nat.le_of_ble_eq_true rfl) dX10_mark_50 ⟨Nat.le_of_ble_eq_true rfl, Nat.le_of_ble_eq_true rfl⟩ ⟨Nat.zero_le _, Nat.zero_le _⟩) hS (fun H locs hP hS => ?_)
      refine hy_putLN (T := (M, Mr, Mo)) (T2 := ((wL M 1 2 (Hp_withBit (M.2 1 2) a1 a3 M)), Mr, Mo)) (o := 1) (k := 2) hx hb hown hts hX hP hS (by decide) rfl rfl rfl rfl inX8g tyX8_ok nmX8 (by decide) q_120 rfl rfl (Nat.le_of_ble_eq_true rfl) dX10_mark_53 (fun H locs hP hS => ?_)
      obtain ⟨M5, hM5, h⟩ := hy_bind h
      rw [Option.some.inj hM5] at hP
      refine lv_aload_n hx hb dX10_mark_56 rfl (lv_at hl 0 rfl) ?_
      obtain ⟨M6, hM6, h⟩ := hy_bind h
      refine hy_ret (hy_rV0 (T := (M5, Mr, Mo)) (v := none) (T2 := (M6, Mr, Mo)) (As := []) (rest := []) (n := 0) hx hb hml hown hts hX hP hS hl (c_Hp_layOut Mr Mo M5 hM6) m_Hp_layOut q_428 (hy_recv hX hP 0 9 (by decide) rfl rfl) rfl rfl (Nat.le_of_ble_eq_true rfl) dX10_mark_57 ⟨Nat.le_of_ble_eq_true rfl, Nat.le_of_ble_eq_true rfl⟩ ⟨Nat.zero_le _, Nat.zero_le _⟩) hS (fun H locs hP hS => ?_)
      refine lv_aload_n hx hb dX10_mark_60 rfl (lv_at hl 0 rfl) ?_
      refine hy_get (T := (M6, Mr, Mo)) (o := 0) (k := 4) (v := .ref (adr G 12)) hx hb hown hts hX hP (by decide) rfl rfl inX10g (by decide) q_297 rfl dX10_mark_61 ?_
      refine hy_getN (T := (M6, Mr, Mo)) (o := 12) (k := 5) (v := .int (M6.1 12 5)) hx hb hown hts hX hP (by decide) rfl rfl inX6g (by decide) q_204 rfl dX10_mark_64 ?_
      exact hy_iret (T := (M6, Mr, Mo)) hx hb hr hlocks hP hS (Nat.zero_le _) (Nat.zero_le _) (by rw [← (Option.some.inj h)] <;> rfl) dX10_mark_67
    · rw [if_pos (bI_1 c4)] at h
      refine lv_aload_n hx hb dX10_mark_15 rfl (lv_at hl 0 rfl) ?_
      refine hy_get (T := (M, Mr, Mo)) (o := 0) (k := 0) (v := .ref (adr G 1)) hx hb hown hts hX hP (by decide) rfl rfl inX10g (by decide) q_293 rfl dX10_mark_16 ?_
      refine lv_aload_n hx hb dX10_mark_19 rfl (lv_at hl 0 rfl) ?_
      refine hy_get (T := (M, Mr, Mo)) (o := 0) (k := 0) (v := .ref (adr G 1)) hx hb hown hts hX hP (by decide) rfl rfl inX10g (by decide) q_293 rfl dX10_mark_20 ?_
      refine hy_getN (T := (M, Mr, Mo)) (o := 1) (k := 3) (v := .long (M.2 1 3)) hx hb hown hts hX hP (by decide) rfl rfl inX8g (by decide) q_123 rfl dX10_mark_23 ?_
      refine lv_iload_n hx hb dX10_mark_26 rfl (lv_at hl 1 rfl) ?_
      refine lv_iload_n hx hb dX10_mark_27 rfl (lv_at hl 3 rfl) ?_
      refine hy_ret (hy_rS0 (T := (M, Mr, Mo)) (v := some (.long (Hp_withBit (M.2 1 3) a1 a3 M))) (T2 := (M, Mr, Mo)) (As := [.long (M.2 1 3), .int a1, .int (bI a3)]) (rest := [.ref (adr G 1)]) (n := 0) hx hb hml hown hts hX hP hS hl (c_Hp_withBit Mr Mo (M.2 1 3) a1 a3 M rfl) m_Hp_withBit q_1008 rfl rfl (Nat.le_of_ble_eq_true rfl) dX10_mark_28 ⟨Nat.le_of_ble_eq_true rfl, Nat.le_of_ble_eq_true rfl⟩ ⟨Nat.zero_le _, Nat.zero_le _⟩) hS (fun H locs hP hS => ?_)
      refine hy_putLN (T := (M, Mr, Mo)) (T2 := ((wL M 1 3 (Hp_withBit (M.2 1 3) a1 a3 M)), Mr, Mo)) (o := 1) (k := 3) hx hb hown hts hX hP hS (by decide) rfl rfl rfl rfl inX8g tyX8_ok nmX8 (by decide) q_123 rfl rfl (Nat.le_of_ble_eq_true rfl) dX10_mark_31 (fun H locs hP hS => ?_)
      obtain ⟨M7, hM7, h⟩ := hy_bind h
      rw [Option.some.inj hM7] at hP
      refine lv_goto (tgt := 56) hx hb dX10_mark_34 (by decide) ?_
      refine lv_aload_n hx hb dX10_mark_56 rfl (lv_at hl 0 rfl) ?_
      obtain ⟨M8, hM8, h⟩ := hy_bind h
      refine hy_ret (hy_rV0 (T := (M7, Mr, Mo)) (v := none) (T2 := (M8, Mr, Mo)) (As := []) (rest := []) (n := 0) hx hb hml hown hts hX hP hS hl (c_Hp_layOut Mr Mo M7 hM8) m_Hp_layOut q_428 (hy_recv hX hP 0 9 (by decide) rfl rfl) rfl rfl (Nat.le_of_ble_eq_true rfl) dX10_mark_57 ⟨Nat.le_of_ble_eq_true rfl, Nat.le_of_ble_eq_true rfl⟩ ⟨Nat.zero_le _, Nat.zero_le _⟩) hS (fun H locs hP hS => ?_)
      refine lv_aload_n hx hb dX10_mark_60 rfl (lv_at hl 0 rfl) ?_
      refine hy_get (T := (M8, Mr, Mo)) (o := 0) (k := 4) (v := .ref (adr G 12)) hx hb hown hts hX hP (by decide) rfl rfl inX10g (by decide) q_297 rfl dX10_mark_61 ?_
      refine hy_getN (T := (M8, Mr, Mo)) (o := 12) (k := 5) (v := .int (M8.1 12 5)) hx hb hown hts hX hP (by decide) rfl rfl inX6g (by decide) q_204 rfl dX10_mark_64 ?_
      exact hy_iret (T := (M8, Mr, Mo)) hx hb hr hlocks hP hS (Nat.zero_le _) (Nat.zero_le _) (by rw [← (Option.some.inj h)] <;> rfl) dX10_mark_67
set_option maxHeartbeats 1000000 in
set_option maxRecDepth 100000 in
theorem c_Hp_setBars {l : Launch} {G : hyG} (hlt : l.stackTraces = false) (Mr Mo : hyM) (a1 : Int32) (a2 : Int32) (M : hyM) {res : ((Nat ⊕ Int32) × hyM)} (h : Hp_setBars a1 a2 M = res) : hyC l yX10_setBars (.code yX10_setBars cX10_setBars 4 (some .int)) 7 112 (hyNo res.1) G [.ref (adr G 0), .int a1, .int a2] (M, Mr, Mo) (hyoI res.1, (res.2, Mr, Mo)) := by
  refine hy_of (by decide +kernel) (Nat.le_of_ble_eq_true rfl) ?_
  intro p e s m below meth c hx hb hml hown hts hr hlocks ht hX hP hS ls hl
  have hl : lv_has ls 4 [(0, .ref (adr G 0)), (1, .int a1), (2, .int a2)] := hl
  rw [Hp_setBars] at h
  refine lv_iload_n hx hb dX10_setBars_0 rfl (lv_at hl 1 rfl) ?_
  refine lv_iconst (v := 2) hx hb dX10_setBars_1 rfl ?_
  refine lv_bipush (v := 24) hx hb dX10_setBars_2 rfl ?_
  obtain ⟨u1, hu1⟩ : ∃ z, Hp_checkRange a1 2 24 M = z := ⟨_, rfl⟩
  rw [hu1] at h
  rcases u1 with k2 | r3
  all_goals try dsimp only at h
  · have er := h
    refine hy_retX (ou := (.inl k2, (M, Mr, Mo))) (n := 1) (k := 0) (hy_rS (T := (M, Mr, Mo)) (ou := (.inl k2, (M, Mr, Mo))) (As := [.int a1, .int 2, .int 24]) (rest := []) (n := 1) hx hb hml hown hts hX hP hS hl (c_Hp_checkRange hlt Mr Mo a1 2 24 M (res := .inl k2) hu1) m_Hp_checkRange q_328 rfl rfl (Nat.le_of_ble_eq_true rfl) dX10_setBars_4 ⟨Nat.le_of_ble_eq_true rfl, Nat.le_of_ble_eq_true rfl⟩ ⟨by rw [← er]; exact Nat.le_of_ble_eq_true rfl, by rw [← er]; exact Nat.le_of_ble_eq_true rfl⟩) hS (fun k hk q ce H locs hP hS hce hcv hcl => ?_) (fun v hv => by cases hv)
    cases hk
    exact hy_out (T := (M, Mr, Mo)) ht hlocks hP hS (by rw [← er]; exact Nat.le_of_ble_eq_true rfl) (by rw [← er]; exact Nat.le_of_ble_eq_true rfl) (by rw [← er] <;> rfl) hce hcv hcl
  · refine hy_retX (ou := (.inr (none), (M, Mr, Mo))) (n := 0) (k := 0) (hy_rS (T := (M, Mr, Mo)) (ou := (.inr (none), (M, Mr, Mo))) (As := [.int a1, .int 2, .int 24]) (rest := []) (n := 0) hx hb hml hown hts hX hP hS hl (c_Hp_checkRange hlt Mr Mo a1 2 24 M (res := .inr r3) hu1) m_Hp_checkRange q_328 rfl rfl (Nat.le_of_ble_eq_true rfl) dX10_setBars_4 ⟨Nat.le_of_ble_eq_true rfl, Nat.le_of_ble_eq_true rfl⟩ ⟨Nat.zero_le _, Nat.zero_le _⟩) hS (fun k hk => by cases hk) (fun v hv H locs hP hS => ?_)
    cases hv
    refine lv_iload_n hx hb dX10_setBars_7 rfl (lv_at hl 2 rfl) ?_
    refine lv_iconst (v := 0) hx hb dX10_setBars_8 rfl ?_
    refine lv_iload_n hx hb dX10_setBars_9 rfl (lv_at hl 1 rfl) ?_
    refine lv_iconst (v := 1) hx hb dX10_setBars_10 rfl ?_
    refine lv_isub hx hb dX10_setBars_11 ?_
    obtain ⟨u4, hu4⟩ : ∃ z, Hp_checkRange a2 0 (a1 - 1) M = z := ⟨_, rfl⟩
    rw [hu4] at h
    rcases u4 with k5 | r6
    all_goals try dsimp only at h
    · have er := h
      refine hy_retX (ou := (.inl k5, (M, Mr, Mo))) (n := 1) (k := 0) (hy_rS (T := (M, Mr, Mo)) (ou := (.inl k5, (M, Mr, Mo))) (As := [.int a2, .int 0, .int (a1 - 1)]) (rest := []) (n := 1) hx hb hml hown hts hX hP hS hl (c_Hp_checkRange hlt Mr Mo a2 0 (a1 - 1) M (res := .inl k5) hu4) m_Hp_checkRange q_328 rfl rfl (Nat.le_of_ble_eq_true rfl) dX10_setBars_12 ⟨Nat.le_of_ble_eq_true rfl, Nat.le_of_ble_eq_true rfl⟩ ⟨by rw [← er]; exact Nat.le_of_ble_eq_true rfl, by rw [← er]; exact Nat.le_of_ble_eq_true rfl⟩) hS (fun k hk q ce H locs hP hS hce hcv hcl => ?_) (fun v hv => by cases hv)
      cases hk
      exact hy_out (T := (M, Mr, Mo)) ht hlocks hP hS (by rw [← er]; exact Nat.le_of_ble_eq_true rfl) (by rw [← er]; exact Nat.le_of_ble_eq_true rfl) (by rw [← er] <;> rfl) hce hcv hcl
    · refine hy_retX (ou := (.inr (none), (M, Mr, Mo))) (n := 0) (k := 0) (hy_rS (T := (M, Mr, Mo)) (ou := (.inr (none), (M, Mr, Mo))) (As := [.int a2, .int 0, .int (a1 - 1)]) (rest := []) (n := 0) hx hb hml hown hts hX hP hS hl (c_Hp_checkRange hlt Mr Mo a2 0 (a1 - 1) M (res := .inr r6) hu4) m_Hp_checkRange q_328 rfl rfl (Nat.le_of_ble_eq_true rfl) dX10_setBars_12 ⟨Nat.le_of_ble_eq_true rfl, Nat.le_of_ble_eq_true rfl⟩ ⟨Nat.zero_le _, Nat.zero_le _⟩) hS (fun k hk => by cases hk) (fun v hv H locs hP hS => ?_)
      cases hv
      refine lv_aload_n hx hb dX10_setBars_15 rfl (lv_at hl 0 rfl) ?_
      refine hy_get (T := (M, Mr, Mo)) (o := 0) (k := 1) (v := .ref (adr G 4)) hx hb hown hts hX hP (by decide) rfl rfl inX10g (by decide) q_294 rfl dX10_setBars_16 ?_
      refine hy_getN (T := (M, Mr, Mo)) (o := 4) (k := 0) (v := .int (M.1 4 0)) hx hb hown hts hX hP (by decide) rfl rfl inX0g (by decide) q_150 rfl dX10_setBars_19 ?_
      refine lv_istore_n (lv' := [(3, .int (M.1 4 0)), (0, .ref (adr G 0)), (1, .int a1), (2, .int a2)]) hx hb dX10_setBars_22 rfl hl (by decide) rfl (fun ls hl => ?_)
      refine lv_aload_n hx hb dX10_setBars_23 rfl (lv_at hl 1 rfl) ?_
      refine hy_get (T := (M, Mr, Mo)) (o := 0) (k := 1) (v := .ref (adr G 4)) hx hb hown hts hX hP (by decide) rfl rfl inX10g (by decide) q_294 rfl dX10_setBars_24 ?_
      refine lv_iload_n hx hb dX10_setBars_27 rfl (lv_at hl 2 rfl) ?_
      refine lv_iload_n hx hb dX10_setBars_28 rfl (lv_at hl 3 rfl) ?_
      refine hy_ret (hy_rVN (T := (M, Mr, Mo)) (v := none) (T2 := ((Ba_change a1 a2 M), Mr, Mo)) (As := [.int a1, .int a2]) (rest := []) (n := 0) hx hb hml hown hts hX hP hS hl (c_Ba_change Mr Mo a1 a2 M rfl) m_Ba_change q_403 (hy_recv hX hP 4 0 (by decide) rfl rfl) rfl rfl (Nat.le_of_ble_eq_true rfl) dX10_setBars_29 ⟨Nat.le_of_ble_eq_true rfl, Nat.le_of_ble_eq_true rfl⟩ ⟨Nat.zero_le _, Nat.zero_le _⟩) hS (fun H locs hP hS => ?_)
      refine lv_iload_n hx hb dX10_setBars_32 rfl (lv_at hl 0 rfl) ?_
      exact hy_iret (T := ((Ba_change a1 a2 M), Mr, Mo)) hx hb hr hlocks hP hS (Nat.zero_le _) (Nat.zero_le _) (by rw [← h] <;> rfl) dX10_setBars_33
set_option maxHeartbeats 1000000 in
set_option maxRecDepth 100000 in
theorem c_Hp_repeat {l : Launch} {G : hyG} (hlt : l.stackTraces = false) (Mr Mo : hyM) (a1 : Int32) (a2 : Int32) (a3 : Int32) (M : hyM) {res : ((Nat ⊕ Int32) × hyM)} (h : Hp_repeat a1 a2 a3 M = some res) : hyC l yX10_repeat (.code yX10_repeat cX10_repeat 4 (some .int)) 7 138 (hyNo res.1) G [.ref (adr G 0), .int a1, .int a2, .int a3] (M, Mr, Mo) (hyoI res.1, (res.2, Mr, Mo)) := by
  refine hy_of (by decide +kernel) (Nat.le_of_ble_eq_true rfl) ?_
  intro p e s m below meth c hx hb hml hown hts hr hlocks ht hX hP hS ls hl
  have hl : lv_has ls 4 [(0, .ref (adr G 0)), (1, .int a1), (2, .int a2), (3, .int a3)] := hl
  rw [Hp_repeat] at h
  refine lv_iload_n hx hb dX10_repeat_0 rfl (lv_at hl 1 rfl) ?_
  refine lv_aload_n hx hb dX10_repeat_1 rfl (lv_at hl 0 rfl) ?_
  refine hy_get (T := (M, Mr, Mo)) (o := 0) (k := 4) (v := .ref (adr G 12)) hx hb hown hts hX hP (by decide) rfl rfl inX10g (by decide) q_297 rfl dX10_repeat_2 ?_
  refine hy_getN (T := (M, Mr, Mo)) (o := 12) (k := 5) (v := .int (M.1 12 5)) hx hb hown hts hX hP (by decide) rfl rfl inX6g (by decide) q_204 rfl dX10_repeat_5 ?_
  obtain ⟨u1, hu1⟩ : ∃ z, Hp_checkIndex a1 (M.1 12 5) M = z := ⟨_, rfl⟩
  rw [hu1] at h
  rcases u1 with k2 | r3
  all_goals try dsimp only at h
  · have er := (Option.some.inj h)
    refine hy_retX (ou := (.inl k2, (M, Mr, Mo))) (n := 1) (k := 0) (hy_rS (T := (M, Mr, Mo)) (ou := (.inl k2, (M, Mr, Mo))) (As := [.int a1, .int (M.1 12 5)]) (rest := []) (n := 1) hx hb hml hown hts hX hP hS hl (c_Hp_checkIndex hlt Mr Mo a1 (M.1 12 5) M (res := .inl k2) hu1) m_Hp_checkIndex q_666 rfl rfl (Nat.le_of_ble_eq_true rfl) dX10_repeat_8 ⟨Nat.le_of_ble_eq_true rfl, Nat.le_of_ble_eq_true rfl⟩ ⟨by rw [← er]; exact Nat.le_of_ble_eq_true rfl, by rw [← er]; exact Nat.le_of_ble_eq_true rfl⟩) hS (fun k hk q ce H locs hP hS hce hcv hcl => ?_) (fun v hv => by cases hv)
    cases hk
    exact hy_out (T := (M, Mr, Mo)) ht hlocks hP hS (by rw [← er]; exact Nat.le_of_ble_eq_true rfl) (by rw [← er]; exact Nat.le_of_ble_eq_true rfl) (by rw [← er] <;> rfl) hce hcv hcl
  · refine hy_retX (ou := (.inr (none), (M, Mr, Mo))) (n := 0) (k := 0) (hy_rS (T := (M, Mr, Mo)) (ou := (.inr (none), (M, Mr, Mo))) (As := [.int a1, .int (M.1 12 5)]) (rest := []) (n := 0) hx hb hml hown hts hX hP hS hl (c_Hp_checkIndex hlt Mr Mo a1 (M.1 12 5) M (res := .inr r3) hu1) m_Hp_checkIndex q_666 rfl rfl (Nat.le_of_ble_eq_true rfl) dX10_repeat_8 ⟨Nat.le_of_ble_eq_true rfl, Nat.le_of_ble_eq_true rfl⟩ ⟨Nat.zero_le _, Nat.zero_le _⟩) hS (fun k hk => by cases hk) (fun v hv H locs hP hS => ?_)
    cases hv
    refine lv_iload_n hx hb dX10_repeat_11 rfl (lv_at hl 2 rfl) ?_
    refine lv_aload_n hx hb dX10_repeat_12 rfl (lv_at hl 0 rfl) ?_
    refine hy_get (T := (M, Mr, Mo)) (o := 0) (k := 4) (v := .ref (adr G 12)) hx hb hown hts hX hP (by decide) rfl rfl inX10g (by decide) q_297 rfl dX10_repeat_13 ?_
    refine hy_getN (T := (M, Mr, Mo)) (o := 12) (k := 5) (v := .int (M.1 12 5)) hx hb hown hts hX hP (by decide) rfl rfl inX6g (by decide) q_204 rfl dX10_repeat_16 ?_
    obtain ⟨u4, hu4⟩ : ∃ z, Hp_checkIndex a2 (M.1 12 5) M = z := ⟨_, rfl⟩
    rw [hu4] at h
    rcases u4 with k5 | r6
    all_goals try dsimp only at h
    · have er := (Option.some.inj h)
      refine hy_retX (ou := (.inl k5, (M, Mr, Mo))) (n := 1) (k := 0) (hy_rS (T := (M, Mr, Mo)) (ou := (.inl k5, (M, Mr, Mo))) (As := [.int a2, .int (M.1 12 5)]) (rest := []) (n := 1) hx hb hml hown hts hX hP hS hl (c_Hp_checkIndex hlt Mr Mo a2 (M.1 12 5) M (res := .inl k5) hu4) m_Hp_checkIndex q_666 rfl rfl (Nat.le_of_ble_eq_true rfl) dX10_repeat_19 ⟨Nat.le_of_ble_eq_true rfl, Nat.le_of_ble_eq_true rfl⟩ ⟨by rw [← er]; exact Nat.le_of_ble_eq_true rfl, by rw [← er]; exact Nat.le_of_ble_eq_true rfl⟩) hS (fun k hk q ce H locs hP hS hce hcv hcl => ?_) (fun v hv => by cases hv)
      cases hk
      exact hy_out (T := (M, Mr, Mo)) ht hlocks hP hS (by rw [← er]; exact Nat.le_of_ble_eq_true rfl) (by rw [← er]; exact Nat.le_of_ble_eq_true rfl) (by rw [← er] <;> rfl) hce hcv hcl
    · refine hy_retX (ou := (.inr (none), (M, Mr, Mo))) (n := 0) (k := 0) (hy_rS (T := (M, Mr, Mo)) (ou := (.inr (none), (M, Mr, Mo))) (As := [.int a2, .int (M.1 12 5)]) (rest := []) (n := 0) hx hb hml hown hts hX hP hS hl (c_Hp_checkIndex hlt Mr Mo a2 (M.1 12 5) M (res := .inr r6) hu4) m_Hp_checkIndex q_666 rfl rfl (Nat.le_of_ble_eq_true rfl) dX10_repeat_19 ⟨Nat.le_of_ble_eq_true rfl, Nat.le_of_ble_eq_true rfl⟩ ⟨Nat.zero_le _, Nat.zero_le _⟩) hS (fun k hk => by cases hk) (fun v hv H locs hP hS => ?_)
      cases hv
      refine lv_iload_n hx hb dX10_repeat_22 rfl (lv_at hl 3 rfl) ?_
      refine lv_iconst (v := 0) hx hb dX10_repeat_23 rfl ?_
      refine lv_iload_n hx hb dX10_repeat_24 rfl (lv_at hl 2 rfl) ?_
      refine lv_iload_n hx hb dX10_repeat_25 rfl (lv_at hl 1 rfl) ?_
      refine lv_isub hx hb dX10_repeat_26 ?_
      obtain ⟨u7, hu7⟩ : ∃ z, Hp_checkRange a3 0 (a2 - a1) M = z := ⟨_, rfl⟩
      rw [hu7] at h
      rcases u7 with k8 | r9
      all_goals try dsimp only at h
      · have er := (Option.some.inj h)
        refine hy_retX (ou := (.inl k8, (M, Mr, Mo))) (n := 1) (k := 0) (hy_rS (T := (M, Mr, Mo)) (ou := (.inl k8, (M, Mr, Mo))) (As := [.int a3, .int 0, .int (a2 - a1)]) (rest := []) (n := 1) hx hb hml hown hts hX hP hS hl (c_Hp_checkRange hlt Mr Mo a3 0 (a2 - a1) M (res := .inl k8) hu7) m_Hp_checkRange q_328 rfl rfl (Nat.le_of_ble_eq_true rfl) dX10_repeat_27 ⟨Nat.le_of_ble_eq_true rfl, Nat.le_of_ble_eq_true rfl⟩ ⟨by rw [← er]; exact Nat.le_of_ble_eq_true rfl, by rw [← er]; exact Nat.le_of_ble_eq_true rfl⟩) hS (fun k hk q ce H locs hP hS hce hcv hcl => ?_) (fun v hv => by cases hv)
        cases hk
        exact hy_out (T := (M, Mr, Mo)) ht hlocks hP hS (by rw [← er]; exact Nat.le_of_ble_eq_true rfl) (by rw [← er]; exact Nat.le_of_ble_eq_true rfl) (by rw [← er] <;> rfl) hce hcv hcl
      · refine hy_retX (ou := (.inr (none), (M, Mr, Mo))) (n := 0) (k := 0) (hy_rS (T := (M, Mr, Mo)) (ou := (.inr (none), (M, Mr, Mo))) (As := [.int a3, .int 0, .int (a2 - a1)]) (rest := []) (n := 0) hx hb hml hown hts hX hP hS hl (c_Hp_checkRange hlt Mr Mo a3 0 (a2 - a1) M (res := .inr r9) hu7) m_Hp_checkRange q_328 rfl rfl (Nat.le_of_ble_eq_true rfl) dX10_repeat_27 ⟨Nat.le_of_ble_eq_true rfl, Nat.le_of_ble_eq_true rfl⟩ ⟨Nat.zero_le _, Nat.zero_le _⟩) hS (fun k hk => by cases hk) (fun v hv H locs hP hS => ?_)
        cases hv
        refine lv_aload_n hx hb dX10_repeat_30 rfl (lv_at hl 0 rfl) ?_
        refine hy_get (T := (M, Mr, Mo)) (o := 0) (k := 2) (v := .ref (adr G 5)) hx hb hown hts hX hP (by decide) rfl rfl inX10g (by decide) q_295 rfl dX10_repeat_31 ?_
        refine hy_getN (T := (M, Mr, Mo)) (o := 5) (k := 3) (v := .int (M.1 5 3)) hx hb hown hts hX hP (by decide) rfl rfl inX7g (by decide) q_168 rfl dX10_repeat_34 ?_
        refine lv_iconst (v := 3) hx hb dX10_repeat_37 rfl ?_
        refine lv_icmp_lt (tgt := 51) hx hb dX10_repeat_38 (by decide) (fun c10 => ?_) (fun c10 => ?_)
        · rw [if_pos c10] at h
          refine lv_aload_n hx hb dX10_repeat_51 rfl (lv_at hl 0 rfl) ?_
          refine hy_get (T := (M, Mr, Mo)) (o := 0) (k := 2) (v := .ref (adr G 5)) hx hb hown hts hX hP (by decide) rfl rfl inX10g (by decide) q_295 rfl dX10_repeat_52 ?_
          refine lv_iload_n hx hb dX10_repeat_55 rfl (lv_at hl 1 rfl) ?_
          refine lv_iload_n hx hb dX10_repeat_56 rfl (lv_at hl 2 rfl) ?_
          obtain ⟨v11, hv11, h⟩ := hy_bind h
          refine hy_ret (hy_rVN (T := (M, Mr, Mo)) (v := some (.int (bI v11))) (T2 := (M, Mr, Mo)) (As := [.int a1, .int a2]) (rest := []) (n := 0) hx hb hml hown hts hX hP hS hl (c_Re_touch Mr Mo a1 a2 M hv11) m_Re_touch q_1040 (hy_recv hX hP 5 6 (by decide) rfl rfl) rfl rfl (Nat.le_of_ble_eq_true rfl) dX10_repeat_57 ⟨Nat.le_of_ble_eq_true rfl, Nat.le_of_ble_eq_true rfl⟩ ⟨Nat.zero_le _, Nat.zero_le _⟩) hS (fun H locs hP hS => ?_)
          refine lv_if_eq (tgt := 73) hx hb dX10_repeat_60 (by decide) (fun c12 => ?_) (fun c12 => ?_)
          · rw [if_neg (bI_0 c12)] at h
            refine lv_aload_n hx hb dX10_repeat_73 rfl (lv_at hl 0 rfl) ?_
            refine hy_get (T := (M, Mr, Mo)) (o := 0) (k := 2) (v := .ref (adr G 5)) hx hb hown hts hX hP (by decide) rfl rfl inX10g (by decide) q_295 rfl dX10_repeat_74 ?_
            refine lv_iload_n hx hb dX10_repeat_77 rfl (lv_at hl 1 rfl) ?_
            refine lv_iload_n hx hb dX10_repeat_78 rfl (lv_at hl 2 rfl) ?_
            refine lv_iload_n hx hb dX10_repeat_79 rfl (lv_at hl 3 rfl) ?_
            refine hy_ret (hy_rVN (T := (M, Mr, Mo)) (v := none) (T2 := ((Re_push a1 a2 a3 M), Mr, Mo)) (As := [.int a1, .int a2, .int a3]) (rest := []) (n := 0) hx hb hml hown hts hX hP hS hl (c_Re_push Mr Mo a1 a2 a3 M rfl) m_Re_push q_1045 (hy_recv hX hP 5 6 (by decide) rfl rfl) rfl rfl (Nat.le_of_ble_eq_true rfl) dX10_repeat_80 ⟨Nat.le_of_ble_eq_true rfl, Nat.le_of_ble_eq_true rfl⟩ ⟨Nat.zero_le _, Nat.zero_le _⟩) hS (fun H locs hP hS => ?_)
            obtain ⟨M13, hM13, h⟩ := hy_bind h
            rw [Option.some.inj hM13] at hP
            refine lv_aload_n hx hb dX10_repeat_83 rfl (lv_at hl 0 rfl) ?_
            obtain ⟨M14, hM14, h⟩ := hy_bind h
            refine hy_ret (hy_rV0 (T := (M13, Mr, Mo)) (v := none) (T2 := (M14, Mr, Mo)) (As := []) (rest := []) (n := 0) hx hb hml hown hts hX hP hS hl (c_Hp_layOut Mr Mo M13 hM14) m_Hp_layOut q_428 (hy_recv hX hP 0 9 (by decide) rfl rfl) rfl rfl (Nat.le_of_ble_eq_true rfl) dX10_repeat_84 ⟨Nat.le_of_ble_eq_true rfl, Nat.le_of_ble_eq_true rfl⟩ ⟨Nat.zero_le _, Nat.zero_le _⟩) hS (fun H locs hP hS => ?_)
            refine lv_aload_n hx hb dX10_repeat_87 rfl (lv_at hl 0 rfl) ?_
            refine hy_get (T := (M14, Mr, Mo)) (o := 0) (k := 5) (v := .ref (adr G 18)) hx hb hown hts hX hP (by decide) rfl rfl inX10g (by decide) q_298 rfl dX10_repeat_88 ?_
            refine hy_getN (T := (M14, Mr, Mo)) (o := 18) (k := 2) (v := .int (M14.1 18 2)) hx hb hown hts hX hP (by decide) rfl rfl inX5g (by decide) q_228 rfl dX10_repeat_91 ?_
            exact hy_iret (T := (M14, Mr, Mo)) hx hb hr hlocks hP hS (Nat.zero_le _) (Nat.zero_le _) (by rw [← (Option.some.inj h)] <;> rfl) dX10_repeat_94
          · rw [if_pos (bI_1 c12)] at h
            exact hy_throw (T := (M, Mr, Mo)) (k := 2) (text := "a repeat has one of these phrases") hlt hx hb hml hown hts ht hlocks hX hP hS hl hyAt_2 q_883 q_99 (by decide) dX10_repeat_63 dX10_repeat_66 dX10_repeat_67 dX10_repeat_69 dX10_repeat_72 ⟨Nat.le_of_ble_eq_true rfl, Nat.le_of_ble_eq_true rfl⟩ ⟨by rw [← (Option.some.inj h)]; exact Nat.le_of_ble_eq_true rfl, by rw [← (Option.some.inj h)]; exact Nat.le_of_ble_eq_true rfl⟩ ⟨by rw [← (Option.some.inj h)]; exact Nat.le_of_ble_eq_true rfl, by rw [← (Option.some.inj h)]; exact Nat.le_of_ble_eq_true rfl⟩ (by rw [← (Option.some.inj h)] <;> rfl)
        · rw [if_neg c10] at h
          exact hy_throw (T := (M, Mr, Mo)) (k := 2) (text := "there are all the repeats") hlt hx hb hml hown hts ht hlocks hX hP hS hl hyAt_2 q_883 q_99 (by decide) dX10_repeat_41 dX10_repeat_44 dX10_repeat_45 dX10_repeat_47 dX10_repeat_50 ⟨Nat.le_of_ble_eq_true rfl, Nat.le_of_ble_eq_true rfl⟩ ⟨by rw [← (Option.some.inj h)]; exact Nat.le_of_ble_eq_true rfl, by rw [← (Option.some.inj h)]; exact Nat.le_of_ble_eq_true rfl⟩ ⟨by rw [← (Option.some.inj h)]; exact Nat.le_of_ble_eq_true rfl, by rw [← (Option.some.inj h)]; exact Nat.le_of_ble_eq_true rfl⟩ (by rw [← (Option.some.inj h)] <;> rfl)
set_option maxHeartbeats 1000000 in
set_option maxRecDepth 100000 in
theorem c_Hp_clearRepeats {l : Launch} {G : hyG} (Mr Mo : hyM) (M : hyM) {res : (Int32 × hyM)} (h : Hp_clearRepeats M = some res) : hyC l yX10_clearRepeats (.code yX10_clearRepeats cX10_clearRepeats 2 (some .int)) 6 138 (0) G [.ref (adr G 0)] (M, Mr, Mo) (.inr (some (.int res.1)), (res.2, Mr, Mo)) := by
  refine hy_of (by decide +kernel) (Nat.le_of_ble_eq_true rfl) ?_
  intro p e s m below meth c hx hb hml hown hts hr hlocks ht hX hP hS ls hl
  have hl : lv_has ls 2 [(0, .ref (adr G 0))] := hl
  rw [Hp_clearRepeats] at h
  refine lv_aload_n hx hb dX10_clearRepeats_0 rfl (lv_at hl 0 rfl) ?_
  refine hy_get (T := (M, Mr, Mo)) (o := 0) (k := 2) (v := .ref (adr G 5)) hx hb hown hts hX hP (by decide) rfl rfl inX10g (by decide) q_295 rfl dX10_clearRepeats_1 ?_
  refine hy_getN (T := (M, Mr, Mo)) (o := 5) (k := 3) (v := .int (M.1 5 3)) hx hb hown hts hX hP (by decide) rfl rfl inX7g (by decide) q_168 rfl dX10_clearRepeats_4 ?_
  refine lv_istore_n (lv' := [(1, .int (M.1 5 3)), (0, .ref (adr G 0))]) hx hb dX10_clearRepeats_7 rfl hl (by decide) rfl (fun ls hl => ?_)
  refine lv_aload_n hx hb dX10_clearRepeats_8 rfl (lv_at hl 1 rfl) ?_
  refine hy_get (T := (M, Mr, Mo)) (o := 0) (k := 2) (v := .ref (adr G 5)) hx hb hown hts hX hP (by decide) rfl rfl inX10g (by decide) q_295 rfl dX10_clearRepeats_9 ?_
  refine lv_iconst (v := 0) hx hb dX10_clearRepeats_12 rfl ?_
  refine hy_putIN (ty := .int) (T := (M, Mr, Mo)) (T2 := ((wI M 5 3 0), Mr, Mo)) (o := 5) (k := 3) hx hb hown hts hX hP hS (by decide) rfl rfl rfl rfl inX7g tyX7_ok nmX7 (by decide) q_168 rfl rfl rfl rfl (Nat.le_of_ble_eq_true rfl) dX10_clearRepeats_13 (fun H locs hP hS => ?_)
  obtain ⟨M1, hM1, h⟩ := hy_bind h
  rw [Option.some.inj hM1] at hP
  refine lv_aload_n hx hb dX10_clearRepeats_16 rfl (lv_at hl 1 rfl) ?_
  obtain ⟨M2, hM2, h⟩ := hy_bind h
  refine hy_ret (hy_rV0 (T := (M1, Mr, Mo)) (v := none) (T2 := (M2, Mr, Mo)) (As := []) (rest := []) (n := 0) hx hb hml hown hts hX hP hS hl (c_Hp_layOut Mr Mo M1 hM2) m_Hp_layOut q_428 (hy_recv hX hP 0 9 (by decide) rfl rfl) rfl rfl (Nat.le_of_ble_eq_true rfl) dX10_clearRepeats_17 ⟨Nat.le_of_ble_eq_true rfl, Nat.le_of_ble_eq_true rfl⟩ ⟨Nat.zero_le _, Nat.zero_le _⟩) hS (fun H locs hP hS => ?_)
  refine lv_iload_n hx hb dX10_clearRepeats_20 rfl (lv_at hl 0 rfl) ?_
  exact hy_iret (T := (M2, Mr, Mo)) hx hb hr hlocks hP hS (Nat.zero_le _) (Nat.zero_le _) (by rw [← (Option.some.inj h)] <;> rfl) dX10_clearRepeats_21
set_option maxHeartbeats 1000000 in
set_option maxRecDepth 100000 in
theorem c_Hp_transpose {l : Launch} {G : hyG} (hlt : l.stackTraces = false) (Mr Mo : hyM) (a1 : Int32) (M : hyM) {res : ((Nat ⊕ Int32) × hyM)} (h : Hp_transpose a1 M = some res) : hyC l yX10_transpose (.code yX10_transpose cX10_transpose 2 (some .int)) 7 112 (hyNo res.1) G [.ref (adr G 0), .int a1] (M, Mr, Mo) (hyoI res.1, (res.2, Mr, Mo)) := by
  refine hy_of (by decide +kernel) (Nat.le_of_ble_eq_true rfl) ?_
  intro p e s m below meth c hx hb hml hown hts hr hlocks ht hX hP hS ls hl
  have hl : lv_has ls 2 [(0, .ref (adr G 0)), (1, .int a1)] := hl
  rw [Hp_transpose] at h
  refine lv_iload_n hx hb dX10_transpose_0 rfl (lv_at hl 1 rfl) ?_
  refine lv_bipush (v := (-24)) hx hb dX10_transpose_1 rfl ?_
  refine lv_bipush (v := 24) hx hb dX10_transpose_3 rfl ?_
  obtain ⟨u1, hu1⟩ : ∃ z, Hp_checkRange a1 (-24) 24 M = z := ⟨_, rfl⟩
  rw [hu1] at h
  rcases u1 with k2 | r3
  all_goals try dsimp only at h
  · have er := (Option.some.inj h)
    refine hy_retX (ou := (.inl k2, (M, Mr, Mo))) (n := 1) (k := 0) (hy_rS (T := (M, Mr, Mo)) (ou := (.inl k2, (M, Mr, Mo))) (As := [.int a1, .int (-24), .int 24]) (rest := []) (n := 1) hx hb hml hown hts hX hP hS hl (c_Hp_checkRange hlt Mr Mo a1 (-24) 24 M (res := .inl k2) hu1) m_Hp_checkRange q_328 rfl rfl (Nat.le_of_ble_eq_true rfl) dX10_transpose_5 ⟨Nat.le_of_ble_eq_true rfl, Nat.le_of_ble_eq_true rfl⟩ ⟨by rw [← er]; exact Nat.le_of_ble_eq_true rfl, by rw [← er]; exact Nat.le_of_ble_eq_true rfl⟩) hS (fun k hk q ce H locs hP hS hce hcv hcl => ?_) (fun v hv => by cases hv)
    cases hk
    exact hy_out (T := (M, Mr, Mo)) ht hlocks hP hS (by rw [← er]; exact Nat.le_of_ble_eq_true rfl) (by rw [← er]; exact Nat.le_of_ble_eq_true rfl) (by rw [← er] <;> rfl) hce hcv hcl
  · refine hy_retX (ou := (.inr (none), (M, Mr, Mo))) (n := 0) (k := 0) (hy_rS (T := (M, Mr, Mo)) (ou := (.inr (none), (M, Mr, Mo))) (As := [.int a1, .int (-24), .int 24]) (rest := []) (n := 0) hx hb hml hown hts hX hP hS hl (c_Hp_checkRange hlt Mr Mo a1 (-24) 24 M (res := .inr r3) hu1) m_Hp_checkRange q_328 rfl rfl (Nat.le_of_ble_eq_true rfl) dX10_transpose_5 ⟨Nat.le_of_ble_eq_true rfl, Nat.le_of_ble_eq_true rfl⟩ ⟨Nat.zero_le _, Nat.zero_le _⟩) hS (fun k hk => by cases hk) (fun v hv H locs hP hS => ?_)
    cases hv
    refine lv_aload_n hx hb dX10_transpose_8 rfl (lv_at hl 0 rfl) ?_
    refine hy_get (T := (M, Mr, Mo)) (o := 0) (k := 0) (v := .ref (adr G 1)) hx hb hown hts hX hP (by decide) rfl rfl inX10g (by decide) q_293 rfl dX10_transpose_9 ?_
    refine lv_iload_n hx hb dX10_transpose_12 rfl (lv_at hl 1 rfl) ?_
    obtain ⟨v4, hv4, h⟩ := hy_bind h
    refine hy_ret (hy_rVN (T := (M, Mr, Mo)) (v := some (.int (bI v4))) (T2 := (M, Mr, Mo)) (As := [.int a1]) (rest := []) (n := 0) hx hb hml hown hts hX hP hS hl (c_Tu_canMove Mr Mo a1 M hv4) m_Tu_canMove q_1050 (hy_recv hX hP 1 7 (by decide) rfl rfl) rfl rfl (Nat.le_of_ble_eq_true rfl) dX10_transpose_13 ⟨Nat.le_of_ble_eq_true rfl, Nat.le_of_ble_eq_true rfl⟩ ⟨Nat.zero_le _, Nat.zero_le _⟩) hS (fun H locs hP hS => ?_)
    refine lv_if_ne (tgt := 29) hx hb dX10_transpose_16 (by decide) (fun c5 => ?_) (fun c5 => ?_)
    · rw [if_pos (bI_1 c5)] at h
      refine lv_aload_n hx hb dX10_transpose_29 rfl (lv_at hl 0 rfl) ?_
      refine hy_get (T := (M, Mr, Mo)) (o := 0) (k := 0) (v := .ref (adr G 1)) hx hb hown hts hX hP (by decide) rfl rfl inX10g (by decide) q_293 rfl dX10_transpose_30 ?_
      refine lv_iload_n hx hb dX10_transpose_33 rfl (lv_at hl 1 rfl) ?_
      obtain ⟨M6, hM6, h⟩ := hy_bind h
      refine hy_ret (hy_rVN (T := (M, Mr, Mo)) (v := none) (T2 := (M6, Mr, Mo)) (As := [.int a1]) (rest := []) (n := 0) hx hb hml hown hts hX hP hS hl (c_Tu_move Mr Mo a1 M hM6) m_Tu_move q_1055 (hy_recv hX hP 1 7 (by decide) rfl rfl) rfl rfl (Nat.le_of_ble_eq_true rfl) dX10_transpose_34 ⟨Nat.le_of_ble_eq_true rfl, Nat.le_of_ble_eq_true rfl⟩ ⟨Nat.zero_le _, Nat.zero_le _⟩) hS (fun H locs hP hS => ?_)
      refine lv_aload_n hx hb dX10_transpose_37 rfl (lv_at hl 0 rfl) ?_
      refine hy_get (T := (M6, Mr, Mo)) (o := 0) (k := 0) (v := .ref (adr G 1)) hx hb hown hts hX hP (by decide) rfl rfl inX10g (by decide) q_293 rfl dX10_transpose_38 ?_
      refine hy_getN (T := (M6, Mr, Mo)) (o := 1) (k := 5) (v := .int (M6.1 1 5)) hx hb hown hts hX hP (by decide) rfl rfl inX8g (by decide) q_128 rfl dX10_transpose_41 ?_
      exact hy_iret (T := (M6, Mr, Mo)) hx hb hr hlocks hP hS (Nat.zero_le _) (Nat.zero_le _) (by rw [← (Option.some.inj h)] <;> rfl) dX10_transpose_44
    · rw [if_neg (bI_0 c5)] at h
      exact hy_throw (T := (M, Mr, Mo)) (k := 2) (text := "a pitch would be out of range") hlt hx hb hml hown hts ht hlocks hX hP hS hl hyAt_2 q_883 q_99 (by decide) dX10_transpose_19 dX10_transpose_22 dX10_transpose_23 dX10_transpose_25 dX10_transpose_28 ⟨Nat.le_of_ble_eq_true rfl, Nat.le_of_ble_eq_true rfl⟩ ⟨by rw [← (Option.some.inj h)]; exact Nat.le_of_ble_eq_true rfl, by rw [← (Option.some.inj h)]; exact Nat.le_of_ble_eq_true rfl⟩ ⟨by rw [← (Option.some.inj h)]; exact Nat.le_of_ble_eq_true rfl, by rw [← (Option.some.inj h)]; exact Nat.le_of_ble_eq_true rfl⟩ (by rw [← (Option.some.inj h)] <;> rfl)
set_option maxHeartbeats 1000000 in
set_option maxRecDepth 100000 in
theorem c_Hp_setWidth {l : Launch} {G : hyG} (hlt : l.stackTraces = false) (Mr Mo : hyM) (a1 : Int32) (M : hyM) {res : ((Nat ⊕ Int32) × hyM)} (h : Hp_setWidth a1 M = some res) : hyC l yX10_setWidth (.code yX10_setWidth cX10_setWidth 2 (some .int)) 7 138 (hyNo res.1) G [.ref (adr G 0), .int a1] (M, Mr, Mo) (hyoI res.1, (res.2, Mr, Mo)) := by
  refine hy_of (by decide +kernel) (Nat.le_of_ble_eq_true rfl) ?_
  intro p e s m below meth c hx hb hml hown hts hr hlocks ht hX hP hS ls hl
  have hl : lv_has ls 2 [(0, .ref (adr G 0)), (1, .int a1)] := hl
  rw [Hp_setWidth] at h
  refine lv_iload_n hx hb dX10_setWidth_0 rfl (lv_at hl 1 rfl) ?_
  refine lv_bipush (v := 20) hx hb dX10_setWidth_1 rfl ?_
  refine lv_sipush (v := 200) hx hb dX10_setWidth_3 rfl ?_
  obtain ⟨u1, hu1⟩ : ∃ z, Hp_checkRange a1 20 200 M = z := ⟨_, rfl⟩
  rw [hu1] at h
  rcases u1 with k2 | r3
  all_goals try dsimp only at h
  · have er := (Option.some.inj h)
    refine hy_retX (ou := (.inl k2, (M, Mr, Mo))) (n := 1) (k := 0) (hy_rS (T := (M, Mr, Mo)) (ou := (.inl k2, (M, Mr, Mo))) (As := [.int a1, .int 20, .int 200]) (rest := []) (n := 1) hx hb hml hown hts hX hP hS hl (c_Hp_checkRange hlt Mr Mo a1 20 200 M (res := .inl k2) hu1) m_Hp_checkRange q_328 rfl rfl (Nat.le_of_ble_eq_true rfl) dX10_setWidth_6 ⟨Nat.le_of_ble_eq_true rfl, Nat.le_of_ble_eq_true rfl⟩ ⟨by rw [← er]; exact Nat.le_of_ble_eq_true rfl, by rw [← er]; exact Nat.le_of_ble_eq_true rfl⟩) hS (fun k hk q ce H locs hP hS hce hcv hcl => ?_) (fun v hv => by cases hv)
    cases hk
    exact hy_out (T := (M, Mr, Mo)) ht hlocks hP hS (by rw [← er]; exact Nat.le_of_ble_eq_true rfl) (by rw [← er]; exact Nat.le_of_ble_eq_true rfl) (by rw [← er] <;> rfl) hce hcv hcl
  · refine hy_retX (ou := (.inr (none), (M, Mr, Mo))) (n := 0) (k := 0) (hy_rS (T := (M, Mr, Mo)) (ou := (.inr (none), (M, Mr, Mo))) (As := [.int a1, .int 20, .int 200]) (rest := []) (n := 0) hx hb hml hown hts hX hP hS hl (c_Hp_checkRange hlt Mr Mo a1 20 200 M (res := .inr r3) hu1) m_Hp_checkRange q_328 rfl rfl (Nat.le_of_ble_eq_true rfl) dX10_setWidth_6 ⟨Nat.le_of_ble_eq_true rfl, Nat.le_of_ble_eq_true rfl⟩ ⟨Nat.zero_le _, Nat.zero_le _⟩) hS (fun k hk => by cases hk) (fun v hv H locs hP hS => ?_)
    cases hv
    refine lv_aload_n hx hb dX10_setWidth_9 rfl (lv_at hl 0 rfl) ?_
    refine lv_iload_n hx hb dX10_setWidth_10 rfl (lv_at hl 1 rfl) ?_
    refine hy_putI (ty := .int) (T := (M, Mr, Mo)) (T2 := ((wI M 0 9 a1), Mr, Mo)) (o := 0) (k := 9) hx hb hown hts hX hP hS (by decide) rfl rfl rfl rfl inX10g tyX10_ok nmX10 (by decide) q_302 rfl rfl rfl rfl (Nat.le_of_ble_eq_true rfl) dX10_setWidth_11 (fun H locs hP hS => ?_)
    obtain ⟨M4, hM4, h⟩ := hy_bind h
    rw [Option.some.inj hM4] at hP
    refine lv_aload_n hx hb dX10_setWidth_14 rfl (lv_at hl 0 rfl) ?_
    obtain ⟨M5, hM5, h⟩ := hy_bind h
    refine hy_ret (hy_rV0 (T := (M4, Mr, Mo)) (v := none) (T2 := (M5, Mr, Mo)) (As := []) (rest := []) (n := 0) hx hb hml hown hts hX hP hS hl (c_Hp_layOut Mr Mo M4 hM5) m_Hp_layOut q_428 (hy_recv hX hP 0 9 (by decide) rfl rfl) rfl rfl (Nat.le_of_ble_eq_true rfl) dX10_setWidth_15 ⟨Nat.le_of_ble_eq_true rfl, Nat.le_of_ble_eq_true rfl⟩ ⟨Nat.zero_le _, Nat.zero_le _⟩) hS (fun H locs hP hS => ?_)
    refine lv_aload_n hx hb dX10_setWidth_18 rfl (lv_at hl 0 rfl) ?_
    refine hy_get (T := (M5, Mr, Mo)) (o := 0) (k := 6) (v := .ref (adr G 21)) hx hb hown hts hX hP (by decide) rfl rfl inX10g (by decide) q_299 rfl dX10_setWidth_19 ?_
    refine hy_getN (T := (M5, Mr, Mo)) (o := 21) (k := 3) (v := .int (M5.1 21 3)) hx hb hown hts hX hP (by decide) rfl rfl inX2g (by decide) q_246 rfl dX10_setWidth_22 ?_
    exact hy_iret (T := (M5, Mr, Mo)) hx hb hr hlocks hP hS (Nat.zero_le _) (Nat.zero_le _) (by rw [← (Option.some.inj h)] <;> rfl) dX10_setWidth_25
set_option maxHeartbeats 1000000 in
set_option maxRecDepth 100000 in
theorem c_Hp_append {l : Launch} {G : hyG} (hlt : l.stackTraces = false) (Mr Mo : hyM) (a1 : Int32) (M : hyM) {res : ((Nat ⊕ Int32) × hyM)} (h : Hp_append a1 M = res) : hyC l yX10_append (.code yX10_append cX10_append 2 (some .int)) 7 112 (hyNo res.1) G [.ref (adr G 0), .int a1] (M, Mr, Mo) (hyoI res.1, (res.2, Mr, Mo)) := by
  refine hy_of (by decide +kernel) (Nat.le_of_ble_eq_true rfl) ?_
  intro p e s m below meth c hx hb hml hown hts hr hlocks ht hX hP hS ls hl
  have hl : lv_has ls 2 [(0, .ref (adr G 0)), (1, .int a1)] := hl
  rw [Hp_append] at h
  refine lv_iload_n hx hb dX10_append_0 rfl (lv_at hl 1 rfl) ?_
  refine lv_bipush (v := 32) hx hb dX10_append_1 rfl ?_
  refine lv_bipush (v := 126) hx hb dX10_append_3 rfl ?_
  obtain ⟨u1, hu1⟩ : ∃ z, Hp_checkRange a1 32 126 M = z := ⟨_, rfl⟩
  rw [hu1] at h
  rcases u1 with k2 | r3
  all_goals try dsimp only at h
  · have er := h
    refine hy_retX (ou := (.inl k2, (M, Mr, Mo))) (n := 1) (k := 0) (hy_rS (T := (M, Mr, Mo)) (ou := (.inl k2, (M, Mr, Mo))) (As := [.int a1, .int 32, .int 126]) (rest := []) (n := 1) hx hb hml hown hts hX hP hS hl (c_Hp_checkRange hlt Mr Mo a1 32 126 M (res := .inl k2) hu1) m_Hp_checkRange q_328 rfl rfl (Nat.le_of_ble_eq_true rfl) dX10_append_5 ⟨Nat.le_of_ble_eq_true rfl, Nat.le_of_ble_eq_true rfl⟩ ⟨by rw [← er]; exact Nat.le_of_ble_eq_true rfl, by rw [← er]; exact Nat.le_of_ble_eq_true rfl⟩) hS (fun k hk q ce H locs hP hS hce hcv hcl => ?_) (fun v hv => by cases hv)
    cases hk
    exact hy_out (T := (M, Mr, Mo)) ht hlocks hP hS (by rw [← er]; exact Nat.le_of_ble_eq_true rfl) (by rw [← er]; exact Nat.le_of_ble_eq_true rfl) (by rw [← er] <;> rfl) hce hcv hcl
  · refine hy_retX (ou := (.inr (none), (M, Mr, Mo))) (n := 0) (k := 0) (hy_rS (T := (M, Mr, Mo)) (ou := (.inr (none), (M, Mr, Mo))) (As := [.int a1, .int 32, .int 126]) (rest := []) (n := 0) hx hb hml hown hts hX hP hS hl (c_Hp_checkRange hlt Mr Mo a1 32 126 M (res := .inr r3) hu1) m_Hp_checkRange q_328 rfl rfl (Nat.le_of_ble_eq_true rfl) dX10_append_5 ⟨Nat.le_of_ble_eq_true rfl, Nat.le_of_ble_eq_true rfl⟩ ⟨Nat.zero_le _, Nat.zero_le _⟩) hS (fun k hk => by cases hk) (fun v hv H locs hP hS => ?_)
    cases hv
    refine lv_aload_n hx hb dX10_append_8 rfl (lv_at hl 0 rfl) ?_
    refine hy_get (T := (M, Mr, Mo)) (o := 0) (k := 8) (v := .ref (adr G 28)) hx hb hown hts hX hP (by decide) rfl rfl inX10g (by decide) q_301 rfl dX10_append_9 ?_
    refine hy_getN (T := (M, Mr, Mo)) (o := 28) (k := 1) (v := .int (M.1 28 1)) hx hb hown hts hX hP (by decide) rfl rfl inX3g (by decide) q_287 rfl dX10_append_12 ?_
    refine lv_bipush (v := 60) hx hb dX10_append_15 rfl ?_
    refine lv_icmp_lt (tgt := 30) hx hb dX10_append_17 (by decide) (fun c4 => ?_) (fun c4 => ?_)
    · rw [if_pos c4] at h
      refine lv_aload_n hx hb dX10_append_30 rfl (lv_at hl 0 rfl) ?_
      refine hy_get (T := (M, Mr, Mo)) (o := 0) (k := 8) (v := .ref (adr G 28)) hx hb hown hts hX hP (by decide) rfl rfl inX10g (by decide) q_301 rfl dX10_append_31 ?_
      refine lv_iload_n hx hb dX10_append_34 rfl (lv_at hl 1 rfl) ?_
      refine hy_ret (hy_rVN (T := (M, Mr, Mo)) (v := none) (T2 := ((In_push a1 M), Mr, Mo)) (As := [.int a1]) (rest := []) (n := 0) hx hb hml hown hts hX hP hS hl (c_In_push Mr Mo a1 M rfl) m_In_push q_899 (hy_recv hX hP 28 3 (by decide) rfl rfl) rfl rfl (Nat.le_of_ble_eq_true rfl) dX10_append_35 ⟨Nat.le_of_ble_eq_true rfl, Nat.le_of_ble_eq_true rfl⟩ ⟨Nat.zero_le _, Nat.zero_le _⟩) hS (fun H locs hP hS => ?_)
      refine lv_aload_n hx hb dX10_append_38 rfl (lv_at hl 0 rfl) ?_
      refine hy_get (T := ((In_push a1 M), Mr, Mo)) (o := 0) (k := 8) (v := .ref (adr G 28)) hx hb hown hts hX hP (by decide) rfl rfl inX10g (by decide) q_301 rfl dX10_append_39 ?_
      refine hy_getN (T := ((In_push a1 M), Mr, Mo)) (o := 28) (k := 1) (v := .int ((In_push a1 M).1 28 1)) hx hb hown hts hX hP (by decide) rfl rfl inX3g (by decide) q_287 rfl dX10_append_42 ?_
      exact hy_iret (T := ((In_push a1 M), Mr, Mo)) hx hb hr hlocks hP hS (Nat.zero_le _) (Nat.zero_le _) (by rw [← h] <;> rfl) dX10_append_45
    · rw [if_neg c4] at h
      exact hy_throw (T := (M, Mr, Mo)) (k := 2) (text := "the buffer is full") hlt hx hb hml hown hts ht hlocks hX hP hS hl hyAt_2 q_883 q_99 (by decide) dX10_append_20 dX10_append_23 dX10_append_24 dX10_append_26 dX10_append_29 ⟨Nat.le_of_ble_eq_true rfl, Nat.le_of_ble_eq_true rfl⟩ ⟨by rw [← h]; exact Nat.le_of_ble_eq_true rfl, by rw [← h]; exact Nat.le_of_ble_eq_true rfl⟩ ⟨by rw [← h]; exact Nat.le_of_ble_eq_true rfl, by rw [← h]; exact Nat.le_of_ble_eq_true rfl⟩ (by rw [← h] <;> rfl)
set_option maxHeartbeats 1000000 in
set_option maxRecDepth 100000 in
theorem c_Hp_clearInput {l : Launch} {G : hyG} (Mr Mo : hyM) (M : hyM) {res : (Int32 × hyM)} (h : Hp_clearInput M = res) : hyC l yX10_clearInput (.code yX10_clearInput cX10_clearInput 2 (some .int)) 0 0 (0) G [.ref (adr G 0)] (M, Mr, Mo) (.inr (some (.int res.1)), (res.2, Mr, Mo)) := by
  refine hy_of (by decide +kernel) (Nat.le_of_ble_eq_true rfl) ?_
  intro p e s m below meth c hx hb hml hown hts hr hlocks ht hX hP hS ls hl
  have hl : lv_has ls 2 [(0, .ref (adr G 0))] := hl
  rw [Hp_clearInput] at h
  refine lv_aload_n hx hb dX10_clearInput_0 rfl (lv_at hl 0 rfl) ?_
  refine hy_get (T := (M, Mr, Mo)) (o := 0) (k := 8) (v := .ref (adr G 28)) hx hb hown hts hX hP (by decide) rfl rfl inX10g (by decide) q_301 rfl dX10_clearInput_1 ?_
  refine hy_getN (T := (M, Mr, Mo)) (o := 28) (k := 1) (v := .int (M.1 28 1)) hx hb hown hts hX hP (by decide) rfl rfl inX3g (by decide) q_287 rfl dX10_clearInput_4 ?_
  refine lv_istore_n (lv' := [(1, .int (M.1 28 1)), (0, .ref (adr G 0))]) hx hb dX10_clearInput_7 rfl hl (by decide) rfl (fun ls hl => ?_)
  refine lv_aload_n hx hb dX10_clearInput_8 rfl (lv_at hl 1 rfl) ?_
  refine hy_get (T := (M, Mr, Mo)) (o := 0) (k := 8) (v := .ref (adr G 28)) hx hb hown hts hX hP (by decide) rfl rfl inX10g (by decide) q_301 rfl dX10_clearInput_9 ?_
  refine lv_iconst (v := 0) hx hb dX10_clearInput_12 rfl ?_
  refine hy_putIN (ty := .int) (T := (M, Mr, Mo)) (T2 := ((wI M 28 1 0), Mr, Mo)) (o := 28) (k := 1) hx hb hown hts hX hP hS (by decide) rfl rfl rfl rfl inX3g tyX3_ok nmX3 (by decide) q_287 rfl rfl rfl rfl (Nat.le_of_ble_eq_true rfl) dX10_clearInput_13 (fun H locs hP hS => ?_)
  refine lv_iload_n hx hb dX10_clearInput_16 rfl (lv_at hl 0 rfl) ?_
  exact hy_iret (T := ((wI M 28 1 0), Mr, Mo)) hx hb hr hlocks hP hS (Nat.zero_le _) (Nat.zero_le _) (by rw [← h] <;> rfl) dX10_clearInput_17
set_option maxHeartbeats 1000000 in
set_option maxRecDepth 100000 in
theorem c_Hp_firstError {l : Launch} {G : hyG} (Mr Mo : hyM) (a1 : Bool) (M : hyM) {res : Int32} (h : Hp_firstError a1 M = some res) : hyC l yX10_firstError (.code yX10_firstError cX10_firstError 2 (some .int)) 3 67 (0) G [.ref (adr G 0), .int (bI a1)] (M, Mr, Mo) (.inr (some (.int res)), (M, Mr, Mo)) := by
  refine hy_of (by decide +kernel) (Nat.le_of_ble_eq_true rfl) ?_
  intro p e s m below meth c hx hb hml hown hts hr hlocks ht hX hP hS ls hl
  have hl : lv_has ls 2 [(0, .ref (adr G 0)), (1, .int (bI a1))] := hl
  rw [Hp_firstError] at h
  refine lv_iload_n hx hb dX10_firstError_0 rfl (lv_at hl 1 rfl) ?_
  refine lv_if_eq (tgt := 14) hx hb dX10_firstError_1 (by decide) (fun c1 => ?_) (fun c1 => ?_)
  · rw [if_neg (bI_0 c1)] at h
    refine lv_aload_n hx hb dX10_firstError_14 rfl (lv_at hl 0 rfl) ?_
    refine hy_get (T := (M, Mr, Mo)) (o := 0) (k := 8) (v := .ref (adr G 28)) hx hb hown hts hX hP (by decide) rfl rfl inX10g (by decide) q_301 rfl dX10_firstError_15 ?_
    obtain ⟨v2, hv2, h⟩ := hy_bind h
    refine hy_ret (hy_rVN (T := (M, Mr, Mo)) (v := some (.int v2)) (T2 := (M, Mr, Mo)) (As := []) (rest := []) (n := 0) hx hb hml hown hts hX hP hS hl (c_In_errorAsLine Mr Mo M hv2) m_In_errorAsLine q_927 (hy_recv hX hP 28 3 (by decide) rfl rfl) rfl rfl (Nat.le_of_ble_eq_true rfl) dX10_firstError_18 ⟨Nat.le_of_ble_eq_true rfl, Nat.le_of_ble_eq_true rfl⟩ ⟨Nat.zero_le _, Nat.zero_le _⟩) hS (fun H locs hP hS => ?_)
    exact hy_iret (T := (M, Mr, Mo)) hx hb hr hlocks hP hS (Nat.zero_le _) (Nat.zero_le _) (by rw [← (Option.some.inj h)] <;> rfl) dX10_firstError_21
  · rw [if_pos (bI_1 c1)] at h
    refine lv_aload_n hx hb dX10_firstError_4 rfl (lv_at hl 0 rfl) ?_
    refine hy_get (T := (M, Mr, Mo)) (o := 0) (k := 8) (v := .ref (adr G 28)) hx hb hown hts hX hP (by decide) rfl rfl inX10g (by decide) q_301 rfl dX10_firstError_5 ?_
    obtain ⟨v3, hv3, h⟩ := hy_bind h
    refine hy_ret (hy_rVN (T := (M, Mr, Mo)) (v := some (.int v3)) (T2 := (M, Mr, Mo)) (As := []) (rest := []) (n := 0) hx hb hml hown hts hX hP hS hl (c_In_errorAsMetre Mr Mo M hv3) m_In_errorAsMetre q_908 (hy_recv hX hP 28 3 (by decide) rfl rfl) rfl rfl (Nat.le_of_ble_eq_true rfl) dX10_firstError_8 ⟨Nat.le_of_ble_eq_true rfl, Nat.le_of_ble_eq_true rfl⟩ ⟨Nat.zero_le _, Nat.zero_le _⟩) hS (fun H locs hP hS => ?_)
    refine lv_goto (tgt := 21) hx hb dX10_firstError_11 (by decide) ?_
    exact hy_iret (T := (M, Mr, Mo)) hx hb hr hlocks hP hS (Nat.zero_le _) (Nat.zero_le _) (by rw [← (Option.some.inj h)] <;> rfl) dX10_firstError_21
set_option maxHeartbeats 1000000 in
set_option maxRecDepth 100000 in
theorem c_Hp_setLine {l : Launch} {G : hyG} (hlt : l.stackTraces = false) (Mr Mo : hyM) (a1 : Int32) (a2 : Int32) (M : hyM) {res : ((Nat ⊕ Int32) × hyM)} (h : Hp_setLine a1 a2 M = some res) : hyC l yX10_setLine (.code yX10_setLine cX10_setLine 3 (some .int)) 7 138 (hyNo res.1) G [.ref (adr G 0), .int a1, .int a2] (M, Mr, Mo) (hyoI res.1, (res.2, Mr, Mo)) := by
  refine hy_of (by decide +kernel) (Nat.le_of_ble_eq_true rfl) ?_
  intro p e s m below meth c hx hb hml hown hts hr hlocks ht hX hP hS ls hl
  have hl : lv_has ls 3 [(0, .ref (adr G 0)), (1, .int a1), (2, .int a2)] := hl
  rw [Hp_setLine] at h
  refine lv_iload_n hx hb dX10_setLine_0 rfl (lv_at hl 1 rfl) ?_
  refine lv_iconst (v := 4) hx hb dX10_setLine_1 rfl ?_
  obtain ⟨u1, hu1⟩ : ∃ z, Hp_checkIndex a1 4 M = z := ⟨_, rfl⟩
  rw [hu1] at h
  rcases u1 with k2 | r3
  all_goals try dsimp only at h
  · have er := (Option.some.inj h)
    refine hy_retX (ou := (.inl k2, (M, Mr, Mo))) (n := 1) (k := 0) (hy_rS (T := (M, Mr, Mo)) (ou := (.inl k2, (M, Mr, Mo))) (As := [.int a1, .int 4]) (rest := []) (n := 1) hx hb hml hown hts hX hP hS hl (c_Hp_checkIndex hlt Mr Mo a1 4 M (res := .inl k2) hu1) m_Hp_checkIndex q_666 rfl rfl (Nat.le_of_ble_eq_true rfl) dX10_setLine_2 ⟨Nat.le_of_ble_eq_true rfl, Nat.le_of_ble_eq_true rfl⟩ ⟨by rw [← er]; exact Nat.le_of_ble_eq_true rfl, by rw [← er]; exact Nat.le_of_ble_eq_true rfl⟩) hS (fun k hk q ce H locs hP hS hce hcv hcl => ?_) (fun v hv => by cases hv)
    cases hk
    exact hy_out (T := (M, Mr, Mo)) ht hlocks hP hS (by rw [← er]; exact Nat.le_of_ble_eq_true rfl) (by rw [← er]; exact Nat.le_of_ble_eq_true rfl) (by rw [← er] <;> rfl) hce hcv hcl
  · refine hy_retX (ou := (.inr (none), (M, Mr, Mo))) (n := 0) (k := 0) (hy_rS (T := (M, Mr, Mo)) (ou := (.inr (none), (M, Mr, Mo))) (As := [.int a1, .int 4]) (rest := []) (n := 0) hx hb hml hown hts hX hP hS hl (c_Hp_checkIndex hlt Mr Mo a1 4 M (res := .inr r3) hu1) m_Hp_checkIndex q_666 rfl rfl (Nat.le_of_ble_eq_true rfl) dX10_setLine_2 ⟨Nat.le_of_ble_eq_true rfl, Nat.le_of_ble_eq_true rfl⟩ ⟨Nat.zero_le _, Nat.zero_le _⟩) hS (fun k hk => by cases hk) (fun v hv H locs hP hS => ?_)
    cases hv
    refine lv_iload_n hx hb dX10_setLine_5 rfl (lv_at hl 2 rfl) ?_
    refine lv_bipush (v := 24) hx hb dX10_setLine_6 rfl ?_
    obtain ⟨u4, hu4⟩ : ∃ z, Hp_checkIndex a2 24 M = z := ⟨_, rfl⟩
    rw [hu4] at h
    rcases u4 with k5 | r6
    all_goals try dsimp only at h
    · have er := (Option.some.inj h)
      refine hy_retX (ou := (.inl k5, (M, Mr, Mo))) (n := 1) (k := 0) (hy_rS (T := (M, Mr, Mo)) (ou := (.inl k5, (M, Mr, Mo))) (As := [.int a2, .int 24]) (rest := []) (n := 1) hx hb hml hown hts hX hP hS hl (c_Hp_checkIndex hlt Mr Mo a2 24 M (res := .inl k5) hu4) m_Hp_checkIndex q_666 rfl rfl (Nat.le_of_ble_eq_true rfl) dX10_setLine_8 ⟨Nat.le_of_ble_eq_true rfl, Nat.le_of_ble_eq_true rfl⟩ ⟨by rw [← er]; exact Nat.le_of_ble_eq_true rfl, by rw [← er]; exact Nat.le_of_ble_eq_true rfl⟩) hS (fun k hk q ce H locs hP hS hce hcv hcl => ?_) (fun v hv => by cases hv)
      cases hk
      exact hy_out (T := (M, Mr, Mo)) ht hlocks hP hS (by rw [← er]; exact Nat.le_of_ble_eq_true rfl) (by rw [← er]; exact Nat.le_of_ble_eq_true rfl) (by rw [← er] <;> rfl) hce hcv hcl
    · refine hy_retX (ou := (.inr (none), (M, Mr, Mo))) (n := 0) (k := 0) (hy_rS (T := (M, Mr, Mo)) (ou := (.inr (none), (M, Mr, Mo))) (As := [.int a2, .int 24]) (rest := []) (n := 0) hx hb hml hown hts hX hP hS hl (c_Hp_checkIndex hlt Mr Mo a2 24 M (res := .inr r6) hu4) m_Hp_checkIndex q_666 rfl rfl (Nat.le_of_ble_eq_true rfl) dX10_setLine_8 ⟨Nat.le_of_ble_eq_true rfl, Nat.le_of_ble_eq_true rfl⟩ ⟨Nat.zero_le _, Nat.zero_le _⟩) hS (fun k hk => by cases hk) (fun v hv H locs hP hS => ?_)
      cases hv
      refine lv_aload_n hx hb dX10_setLine_11 rfl (lv_at hl 0 rfl) ?_
      refine hy_get (T := (M, Mr, Mo)) (o := 0) (k := 8) (v := .ref (adr G 28)) hx hb hown hts hX hP (by decide) rfl rfl inX10g (by decide) q_301 rfl dX10_setLine_12 ?_
      obtain ⟨v7, hv7, h⟩ := hy_bind h
      refine hy_ret (hy_rVN (T := (M, Mr, Mo)) (v := some (.int (bI v7))) (T2 := (M, Mr, Mo)) (As := []) (rest := []) (n := 0) hx hb hml hown hts hX hP hS hl (c_In_isLine Mr Mo M hv7) m_In_isLine q_1074 (hy_recv hX hP 28 3 (by decide) rfl rfl) rfl rfl (Nat.le_of_ble_eq_true rfl) dX10_setLine_15 ⟨Nat.le_of_ble_eq_true rfl, Nat.le_of_ble_eq_true rfl⟩ ⟨Nat.zero_le _, Nat.zero_le _⟩) hS (fun H locs hP hS => ?_)
      refine lv_if_ne (tgt := 31) hx hb dX10_setLine_18 (by decide) (fun c8 => ?_) (fun c8 => ?_)
      · rw [if_pos (bI_1 c8)] at h
        refine lv_aload_n hx hb dX10_setLine_31 rfl (lv_at hl 0 rfl) ?_
        refine hy_get (T := (M, Mr, Mo)) (o := 0) (k := 3) (v := .ref (adr G 9)) hx hb hown hts hX hP (by decide) rfl rfl inX10g (by decide) q_296 rfl dX10_setLine_32 ?_
        refine lv_iload_n hx hb dX10_setLine_35 rfl (lv_at hl 1 rfl) ?_
        refine lv_iload_n hx hb dX10_setLine_36 rfl (lv_at hl 2 rfl) ?_
        refine lv_aload_n hx hb dX10_setLine_37 rfl (lv_at hl 0 rfl) ?_
        refine hy_get (T := (M, Mr, Mo)) (o := 0) (k := 8) (v := .ref (adr G 28)) hx hb hown hts hX hP (by decide) rfl rfl inX10g (by decide) q_301 rfl dX10_setLine_38 ?_
        obtain ⟨M9, hM9, h⟩ := hy_bind h
        refine hy_ret (hy_rVN (T := (M, Mr, Mo)) (v := none) (T2 := (M9, Mr, Mo)) (As := [.int a1, .int a2, .ref (adr G 28)]) (rest := []) (n := 0) hx hb hml hown hts hX hP hS hl (c_Ve_take Mr Mo a1 a2 M hM9) m_Ve_take q_1080 (hy_recv hX hP 9 8 (by decide) rfl rfl) rfl rfl (Nat.le_of_ble_eq_true rfl) dX10_setLine_41 ⟨Nat.le_of_ble_eq_true rfl, Nat.le_of_ble_eq_true rfl⟩ ⟨Nat.zero_le _, Nat.zero_le _⟩) hS (fun H locs hP hS => ?_)
        refine lv_aload_n hx hb dX10_setLine_44 rfl (lv_at hl 0 rfl) ?_
        refine hy_get (T := (M9, Mr, Mo)) (o := 0) (k := 8) (v := .ref (adr G 28)) hx hb hown hts hX hP (by decide) rfl rfl inX10g (by decide) q_301 rfl dX10_setLine_45 ?_
        refine lv_iconst (v := 0) hx hb dX10_setLine_48 rfl ?_
        refine hy_putIN (ty := .int) (T := (M9, Mr, Mo)) (T2 := ((wI M9 28 1 0), Mr, Mo)) (o := 28) (k := 1) hx hb hown hts hX hP hS (by decide) rfl rfl rfl rfl inX3g tyX3_ok nmX3 (by decide) q_287 rfl rfl rfl rfl (Nat.le_of_ble_eq_true rfl) dX10_setLine_49 (fun H locs hP hS => ?_)
        obtain ⟨M10, hM10, h⟩ := hy_bind h
        rw [Option.some.inj hM10] at hP
        refine lv_aload_n hx hb dX10_setLine_52 rfl (lv_at hl 0 rfl) ?_
        obtain ⟨M11, hM11, h⟩ := hy_bind h
        refine hy_ret (hy_rV0 (T := (M10, Mr, Mo)) (v := none) (T2 := (M11, Mr, Mo)) (As := []) (rest := []) (n := 0) hx hb hml hown hts hX hP hS hl (c_Hp_layOut Mr Mo M10 hM11) m_Hp_layOut q_428 (hy_recv hX hP 0 9 (by decide) rfl rfl) rfl rfl (Nat.le_of_ble_eq_true rfl) dX10_setLine_53 ⟨Nat.le_of_ble_eq_true rfl, Nat.le_of_ble_eq_true rfl⟩ ⟨Nat.zero_le _, Nat.zero_le _⟩) hS (fun H locs hP hS => ?_)
        refine lv_aload_n hx hb dX10_setLine_56 rfl (lv_at hl 0 rfl) ?_
        refine hy_get (T := (M11, Mr, Mo)) (o := 0) (k := 3) (v := .ref (adr G 9)) hx hb hown hts hX hP (by decide) rfl rfl inX10g (by decide) q_296 rfl dX10_setLine_57 ?_
        refine lv_iload_n hx hb dX10_setLine_60 rfl (lv_at hl 1 rfl) ?_
        refine lv_iload_n hx hb dX10_setLine_61 rfl (lv_at hl 2 rfl) ?_
        refine hy_ret (hy_rVN (T := (M11, Mr, Mo)) (v := some (.int (Ve_syllablesOf a1 a2 M11))) (T2 := (M11, Mr, Mo)) (As := [.int a1, .int a2]) (rest := []) (n := 0) hx hb hml hown hts hX hP hS hl (c_Ve_syllablesOf Mr Mo a1 a2 M11 rfl) m_Ve_syllablesOf q_612 (hy_recv hX hP 9 8 (by decide) rfl rfl) rfl rfl (Nat.le_of_ble_eq_true rfl) dX10_setLine_62 ⟨Nat.le_of_ble_eq_true rfl, Nat.le_of_ble_eq_true rfl⟩ ⟨Nat.zero_le _, Nat.zero_le _⟩) hS (fun H locs hP hS => ?_)
        exact hy_iret (T := (M11, Mr, Mo)) hx hb hr hlocks hP hS (Nat.zero_le _) (Nat.zero_le _) (by rw [← (Option.some.inj h)] <;> rfl) dX10_setLine_65
      · rw [if_neg (bI_0 c8)] at h
        exact hy_throw (T := (M, Mr, Mo)) (k := 1) (text := "the buffer is not a complete line") hlt hx hb hml hown hts ht hlocks hX hP hS hl hyAt_1 q_331 q_97 (by decide) dX10_setLine_21 dX10_setLine_24 dX10_setLine_25 dX10_setLine_27 dX10_setLine_30 ⟨Nat.le_of_ble_eq_true rfl, Nat.le_of_ble_eq_true rfl⟩ ⟨by rw [← (Option.some.inj h)]; exact Nat.le_of_ble_eq_true rfl, by rw [← (Option.some.inj h)]; exact Nat.le_of_ble_eq_true rfl⟩ ⟨by rw [← (Option.some.inj h)]; exact Nat.le_of_ble_eq_true rfl, by rw [← (Option.some.inj h)]; exact Nat.le_of_ble_eq_true rfl⟩ (by rw [← (Option.some.inj h)] <;> rfl)
set_option maxHeartbeats 1000000 in
set_option maxRecDepth 100000 in
theorem c_Hp_clearVerse {l : Launch} {G : hyG} (hlt : l.stackTraces = false) (Mr Mo : hyM) (a1 : Int32) (M : hyM) {res : ((Nat ⊕ Int32) × hyM)} (h : Hp_clearVerse a1 M = some res) : hyC l yX10_clearVerse (.code yX10_clearVerse cX10_clearVerse 3 (some .int)) 7 138 (hyNo res.1) G [.ref (adr G 0), .int a1] (M, Mr, Mo) (hyoI res.1, (res.2, Mr, Mo)) := by
  refine hy_of (by decide +kernel) (Nat.le_of_ble_eq_true rfl) ?_
  intro p e s m below meth c hx hb hml hown hts hr hlocks ht hX hP hS ls hl
  have hl : lv_has ls 3 [(0, .ref (adr G 0)), (1, .int a1)] := hl
  rw [Hp_clearVerse] at h
  refine lv_iload_n hx hb dX10_clearVerse_0 rfl (lv_at hl 1 rfl) ?_
  refine lv_iconst (v := 4) hx hb dX10_clearVerse_1 rfl ?_
  obtain ⟨u1, hu1⟩ : ∃ z, Hp_checkIndex a1 4 M = z := ⟨_, rfl⟩
  rw [hu1] at h
  rcases u1 with k2 | r3
  all_goals try dsimp only at h
  · have er := (Option.some.inj h)
    refine hy_retX (ou := (.inl k2, (M, Mr, Mo))) (n := 1) (k := 0) (hy_rS (T := (M, Mr, Mo)) (ou := (.inl k2, (M, Mr, Mo))) (As := [.int a1, .int 4]) (rest := []) (n := 1) hx hb hml hown hts hX hP hS hl (c_Hp_checkIndex hlt Mr Mo a1 4 M (res := .inl k2) hu1) m_Hp_checkIndex q_666 rfl rfl (Nat.le_of_ble_eq_true rfl) dX10_clearVerse_2 ⟨Nat.le_of_ble_eq_true rfl, Nat.le_of_ble_eq_true rfl⟩ ⟨by rw [← er]; exact Nat.le_of_ble_eq_true rfl, by rw [← er]; exact Nat.le_of_ble_eq_true rfl⟩) hS (fun k hk q ce H locs hP hS hce hcv hcl => ?_) (fun v hv => by cases hv)
    cases hk
    exact hy_out (T := (M, Mr, Mo)) ht hlocks hP hS (by rw [← er]; exact Nat.le_of_ble_eq_true rfl) (by rw [← er]; exact Nat.le_of_ble_eq_true rfl) (by rw [← er] <;> rfl) hce hcv hcl
  · refine hy_retX (ou := (.inr (none), (M, Mr, Mo))) (n := 0) (k := 0) (hy_rS (T := (M, Mr, Mo)) (ou := (.inr (none), (M, Mr, Mo))) (As := [.int a1, .int 4]) (rest := []) (n := 0) hx hb hml hown hts hX hP hS hl (c_Hp_checkIndex hlt Mr Mo a1 4 M (res := .inr r3) hu1) m_Hp_checkIndex q_666 rfl rfl (Nat.le_of_ble_eq_true rfl) dX10_clearVerse_2 ⟨Nat.le_of_ble_eq_true rfl, Nat.le_of_ble_eq_true rfl⟩ ⟨Nat.zero_le _, Nat.zero_le _⟩) hS (fun k hk => by cases hk) (fun v hv H locs hP hS => ?_)
    cases hv
    refine lv_aload_n hx hb dX10_clearVerse_5 rfl (lv_at hl 0 rfl) ?_
    refine hy_get (T := (M, Mr, Mo)) (o := 0) (k := 3) (v := .ref (adr G 9)) hx hb hown hts hX hP (by decide) rfl rfl inX10g (by decide) q_296 rfl dX10_clearVerse_6 ?_
    refine lv_iload_n hx hb dX10_clearVerse_9 rfl (lv_at hl 1 rfl) ?_
    obtain ⟨⟨v5, M4⟩, hM4, h⟩ := hy_bind h
    try dsimp only at h
    refine hy_ret (hy_rVN (T := (M, Mr, Mo)) (v := some (.int v5)) (T2 := (M4, Mr, Mo)) (As := [.int a1]) (rest := []) (n := 0) hx hb hml hown hts hX hP hS hl (c_Ve_removeLines Mr Mo a1 M hM4) m_Ve_removeLines q_407 (hy_recv hX hP 9 8 (by decide) rfl rfl) rfl rfl (Nat.le_of_ble_eq_true rfl) dX10_clearVerse_10 ⟨Nat.le_of_ble_eq_true rfl, Nat.le_of_ble_eq_true rfl⟩ ⟨Nat.zero_le _, Nat.zero_le _⟩) hS (fun H locs hP hS => ?_)
    refine lv_istore_n (lv' := [(2, .int v5), (0, .ref (adr G 0)), (1, .int a1)]) hx hb dX10_clearVerse_13 rfl hl (by decide) rfl (fun ls hl => ?_)
    refine lv_aload_n hx hb dX10_clearVerse_14 rfl (lv_at hl 1 rfl) ?_
    obtain ⟨M6, hM6, h⟩ := hy_bind h
    refine hy_ret (hy_rV0 (T := (M4, Mr, Mo)) (v := none) (T2 := (M6, Mr, Mo)) (As := []) (rest := []) (n := 0) hx hb hml hown hts hX hP hS hl (c_Hp_layOut Mr Mo M4 hM6) m_Hp_layOut q_428 (hy_recv hX hP 0 9 (by decide) rfl rfl) rfl rfl (Nat.le_of_ble_eq_true rfl) dX10_clearVerse_15 ⟨Nat.le_of_ble_eq_true rfl, Nat.le_of_ble_eq_true rfl⟩ ⟨Nat.zero_le _, Nat.zero_le _⟩) hS (fun H locs hP hS => ?_)
    refine lv_iload_n hx hb dX10_clearVerse_18 rfl (lv_at hl 0 rfl) ?_
    exact hy_iret (T := (M6, Mr, Mo)) hx hb hr hlocks hP hS (Nat.zero_le _) (Nat.zero_le _) (by rw [← (Option.some.inj h)] <;> rfl) dX10_clearVerse_19
set_option maxHeartbeats 1000000 in
set_option maxRecDepth 100000 in
theorem c_Hp_addMetre {l : Launch} {G : hyG} (hlt : l.stackTraces = false) (Mr Mo : hyM) (M : hyM) {res : ((Nat ⊕ Int32) × hyM)} (h : Hp_addMetre M = some res) : hyC l yX10_addMetre (.code yX10_addMetre cX10_addMetre 1 (some .int)) 6 110 (hyNo res.1) G [.ref (adr G 0)] (M, Mr, Mo) (hyoI res.1, (res.2, Mr, Mo)) := by
  refine hy_of (by decide +kernel) (Nat.le_of_ble_eq_true rfl) ?_
  intro p e s m below meth c hx hb hml hown hts hr hlocks ht hX hP hS ls hl
  have hl : lv_has ls 1 [(0, .ref (adr G 0))] := hl
  rw [Hp_addMetre] at h
  refine lv_aload_n hx hb dX10_addMetre_0 rfl (lv_at hl 0 rfl) ?_
  refine hy_get (T := (M, Mr, Mo)) (o := 0) (k := 8) (v := .ref (adr G 28)) hx hb hown hts hX hP (by decide) rfl rfl inX10g (by decide) q_301 rfl dX10_addMetre_1 ?_
  obtain ⟨v1, hv1, h⟩ := hy_bind h
  refine hy_ret (hy_rVN (T := (M, Mr, Mo)) (v := some (.int (bI v1))) (T2 := (M, Mr, Mo)) (As := []) (rest := []) (n := 0) hx hb hml hown hts hX hP hS hl (c_In_isMetre Mr Mo M hv1) m_In_isMetre q_938 (hy_recv hX hP 28 3 (by decide) rfl rfl) rfl rfl (Nat.le_of_ble_eq_true rfl) dX10_addMetre_4 ⟨Nat.le_of_ble_eq_true rfl, Nat.le_of_ble_eq_true rfl⟩ ⟨Nat.zero_le _, Nat.zero_le _⟩) hS (fun H locs hP hS => ?_)
  refine lv_if_ne (tgt := 20) hx hb dX10_addMetre_7 (by decide) (fun c2 => ?_) (fun c2 => ?_)
  · rw [if_pos (bI_1 c2)] at h
    refine lv_aload_n hx hb dX10_addMetre_20 rfl (lv_at hl 0 rfl) ?_
    refine hy_get (T := (M, Mr, Mo)) (o := 0) (k := 7) (v := .ref (adr G 25)) hx hb hown hts hX hP (by decide) rfl rfl inX10g (by decide) q_300 rfl dX10_addMetre_21 ?_
    refine hy_getN (T := (M, Mr, Mo)) (o := 25) (k := 2) (v := .int (M.1 25 2)) hx hb hown hts hX hP (by decide) rfl rfl inX1g (by decide) q_269 rfl dX10_addMetre_24 ?_
    refine lv_bipush (v := 8) hx hb dX10_addMetre_27 rfl ?_
    refine lv_icmp_lt (tgt := 42) hx hb dX10_addMetre_29 (by decide) (fun c3 => ?_) (fun c3 => ?_)
    · rw [if_pos c3] at h
      refine lv_aload_n hx hb dX10_addMetre_42 rfl (lv_at hl 0 rfl) ?_
      refine hy_get (T := (M, Mr, Mo)) (o := 0) (k := 7) (v := .ref (adr G 25)) hx hb hown hts hX hP (by decide) rfl rfl inX10g (by decide) q_300 rfl dX10_addMetre_43 ?_
      refine lv_aload_n hx hb dX10_addMetre_46 rfl (lv_at hl 0 rfl) ?_
      refine hy_get (T := (M, Mr, Mo)) (o := 0) (k := 8) (v := .ref (adr G 28)) hx hb hown hts hX hP (by decide) rfl rfl inX10g (by decide) q_301 rfl dX10_addMetre_47 ?_
      obtain ⟨M4, hM4, h⟩ := hy_bind h
      refine hy_ret (hy_rVN (T := (M, Mr, Mo)) (v := none) (T2 := (M4, Mr, Mo)) (As := [.ref (adr G 28)]) (rest := []) (n := 0) hx hb hml hown hts hX hP hS hl (c_Bo_take Mr Mo M hM4) m_Bo_take q_945 (hy_recv hX hP 25 1 (by decide) rfl rfl) rfl rfl (Nat.le_of_ble_eq_true rfl) dX10_addMetre_50 ⟨Nat.le_of_ble_eq_true rfl, Nat.le_of_ble_eq_true rfl⟩ ⟨Nat.zero_le _, Nat.zero_le _⟩) hS (fun H locs hP hS => ?_)
      refine lv_aload_n hx hb dX10_addMetre_53 rfl (lv_at hl 0 rfl) ?_
      refine hy_get (T := (M4, Mr, Mo)) (o := 0) (k := 8) (v := .ref (adr G 28)) hx hb hown hts hX hP (by decide) rfl rfl inX10g (by decide) q_301 rfl dX10_addMetre_54 ?_
      refine lv_iconst (v := 0) hx hb dX10_addMetre_57 rfl ?_
      refine hy_putIN (ty := .int) (T := (M4, Mr, Mo)) (T2 := ((wI M4 28 1 0), Mr, Mo)) (o := 28) (k := 1) hx hb hown hts hX hP hS (by decide) rfl rfl rfl rfl inX3g tyX3_ok nmX3 (by decide) q_287 rfl rfl rfl rfl (Nat.le_of_ble_eq_true rfl) dX10_addMetre_58 (fun H locs hP hS => ?_)
      obtain ⟨M5, hM5, h⟩ := hy_bind h
      rw [Option.some.inj hM5] at hP
      refine lv_aload_n hx hb dX10_addMetre_61 rfl (lv_at hl 0 rfl) ?_
      refine hy_get (T := (M5, Mr, Mo)) (o := 0) (k := 7) (v := .ref (adr G 25)) hx hb hown hts hX hP (by decide) rfl rfl inX10g (by decide) q_300 rfl dX10_addMetre_62 ?_
      refine hy_getN (T := (M5, Mr, Mo)) (o := 25) (k := 2) (v := .int (M5.1 25 2)) hx hb hown hts hX hP (by decide) rfl rfl inX1g (by decide) q_269 rfl dX10_addMetre_65 ?_
      refine lv_iconst (v := 1) hx hb dX10_addMetre_68 rfl ?_
      refine lv_isub hx hb dX10_addMetre_69 ?_
      exact hy_iret (T := (M5, Mr, Mo)) hx hb hr hlocks hP hS (Nat.zero_le _) (Nat.zero_le _) (by rw [← (Option.some.inj h)] <;> rfl) dX10_addMetre_70
    · rw [if_neg c3] at h
      exact hy_throw (T := (M, Mr, Mo)) (k := 2) (text := "the book is full") hlt hx hb hml hown hts ht hlocks hX hP hS hl hyAt_2 q_883 q_99 (by decide) dX10_addMetre_32 dX10_addMetre_35 dX10_addMetre_36 dX10_addMetre_38 dX10_addMetre_41 ⟨Nat.le_of_ble_eq_true rfl, Nat.le_of_ble_eq_true rfl⟩ ⟨by rw [← (Option.some.inj h)]; exact Nat.le_of_ble_eq_true rfl, by rw [← (Option.some.inj h)]; exact Nat.le_of_ble_eq_true rfl⟩ ⟨by rw [← (Option.some.inj h)]; exact Nat.le_of_ble_eq_true rfl, by rw [← (Option.some.inj h)]; exact Nat.le_of_ble_eq_true rfl⟩ (by rw [← (Option.some.inj h)] <;> rfl)
  · rw [if_neg (bI_0 c2)] at h
    exact hy_throw (T := (M, Mr, Mo)) (k := 1) (text := "the buffer is not a complete metre") hlt hx hb hml hown hts ht hlocks hX hP hS hl hyAt_1 q_331 q_97 (by decide) dX10_addMetre_10 dX10_addMetre_13 dX10_addMetre_14 dX10_addMetre_16 dX10_addMetre_19 ⟨Nat.le_of_ble_eq_true rfl, Nat.le_of_ble_eq_true rfl⟩ ⟨by rw [← (Option.some.inj h)]; exact Nat.le_of_ble_eq_true rfl, by rw [← (Option.some.inj h)]; exact Nat.le_of_ble_eq_true rfl⟩ ⟨by rw [← (Option.some.inj h)]; exact Nat.le_of_ble_eq_true rfl, by rw [← (Option.some.inj h)]; exact Nat.le_of_ble_eq_true rfl⟩ (by rw [← (Option.some.inj h)] <;> rfl)
set_option maxHeartbeats 1000000 in
set_option maxRecDepth 100000 in
theorem c_Hp_dropMetre {l : Launch} {G : hyG} (hlt : l.stackTraces = false) (Mr Mo : hyM) (a1 : Int32) (M : hyM) {res : ((Nat ⊕ Int32) × hyM)} (h : Hp_dropMetre a1 M = some res) : hyC l yX10_dropMetre (.code yX10_dropMetre cX10_dropMetre 2 (some .int)) 7 111 (hyNo res.1) G [.ref (adr G 0), .int a1] (M, Mr, Mo) (hyoI res.1, (res.2, Mr, Mo)) := by
  refine hy_of (by decide +kernel) (Nat.le_of_ble_eq_true rfl) ?_
  intro p e s m below meth c hx hb hml hown hts hr hlocks ht hX hP hS ls hl
  have hl : lv_has ls 2 [(0, .ref (adr G 0)), (1, .int a1)] := hl
  rw [Hp_dropMetre] at h
  refine lv_iload_n hx hb dX10_dropMetre_0 rfl (lv_at hl 1 rfl) ?_
  refine lv_aload_n hx hb dX10_dropMetre_1 rfl (lv_at hl 0 rfl) ?_
  refine hy_get (T := (M, Mr, Mo)) (o := 0) (k := 7) (v := .ref (adr G 25)) hx hb hown hts hX hP (by decide) rfl rfl inX10g (by decide) q_300 rfl dX10_dropMetre_2 ?_
  refine hy_getN (T := (M, Mr, Mo)) (o := 25) (k := 2) (v := .int (M.1 25 2)) hx hb hown hts hX hP (by decide) rfl rfl inX1g (by decide) q_269 rfl dX10_dropMetre_5 ?_
  obtain ⟨u1, hu1⟩ : ∃ z, Hp_checkIndex a1 (M.1 25 2) M = z := ⟨_, rfl⟩
  rw [hu1] at h
  rcases u1 with k2 | r3
  all_goals try dsimp only at h
  · have er := (Option.some.inj h)
    refine hy_retX (ou := (.inl k2, (M, Mr, Mo))) (n := 1) (k := 0) (hy_rS (T := (M, Mr, Mo)) (ou := (.inl k2, (M, Mr, Mo))) (As := [.int a1, .int (M.1 25 2)]) (rest := []) (n := 1) hx hb hml hown hts hX hP hS hl (c_Hp_checkIndex hlt Mr Mo a1 (M.1 25 2) M (res := .inl k2) hu1) m_Hp_checkIndex q_666 rfl rfl (Nat.le_of_ble_eq_true rfl) dX10_dropMetre_8 ⟨Nat.le_of_ble_eq_true rfl, Nat.le_of_ble_eq_true rfl⟩ ⟨by rw [← er]; exact Nat.le_of_ble_eq_true rfl, by rw [← er]; exact Nat.le_of_ble_eq_true rfl⟩) hS (fun k hk q ce H locs hP hS hce hcv hcl => ?_) (fun v hv => by cases hv)
    cases hk
    exact hy_out (T := (M, Mr, Mo)) ht hlocks hP hS (by rw [← er]; exact Nat.le_of_ble_eq_true rfl) (by rw [← er]; exact Nat.le_of_ble_eq_true rfl) (by rw [← er] <;> rfl) hce hcv hcl
  · refine hy_retX (ou := (.inr (none), (M, Mr, Mo))) (n := 0) (k := 0) (hy_rS (T := (M, Mr, Mo)) (ou := (.inr (none), (M, Mr, Mo))) (As := [.int a1, .int (M.1 25 2)]) (rest := []) (n := 0) hx hb hml hown hts hX hP hS hl (c_Hp_checkIndex hlt Mr Mo a1 (M.1 25 2) M (res := .inr r3) hu1) m_Hp_checkIndex q_666 rfl rfl (Nat.le_of_ble_eq_true rfl) dX10_dropMetre_8 ⟨Nat.le_of_ble_eq_true rfl, Nat.le_of_ble_eq_true rfl⟩ ⟨Nat.zero_le _, Nat.zero_le _⟩) hS (fun k hk => by cases hk) (fun v hv H locs hP hS => ?_)
    cases hv
    refine lv_aload_n hx hb dX10_dropMetre_11 rfl (lv_at hl 0 rfl) ?_
    refine hy_get (T := (M, Mr, Mo)) (o := 0) (k := 7) (v := .ref (adr G 25)) hx hb hown hts hX hP (by decide) rfl rfl inX10g (by decide) q_300 rfl dX10_dropMetre_12 ?_
    refine lv_iload_n hx hb dX10_dropMetre_15 rfl (lv_at hl 1 rfl) ?_
    obtain ⟨M4, hM4, h⟩ := hy_bind h
    refine hy_ret (hy_rVN (T := (M, Mr, Mo)) (v := none) (T2 := (M4, Mr, Mo)) (As := [.int a1]) (rest := []) (n := 0) hx hb hml hown hts hX hP hS hl (c_Bo_remove Mr Mo a1 M hM4) m_Bo_remove q_974 (hy_recv hX hP 25 1 (by decide) rfl rfl) rfl rfl (Nat.le_of_ble_eq_true rfl) dX10_dropMetre_16 ⟨Nat.le_of_ble_eq_true rfl, Nat.le_of_ble_eq_true rfl⟩ ⟨Nat.zero_le _, Nat.zero_le _⟩) hS (fun H locs hP hS => ?_)
    refine lv_aload_n hx hb dX10_dropMetre_19 rfl (lv_at hl 0 rfl) ?_
    refine hy_get (T := (M4, Mr, Mo)) (o := 0) (k := 7) (v := .ref (adr G 25)) hx hb hown hts hX hP (by decide) rfl rfl inX10g (by decide) q_300 rfl dX10_dropMetre_20 ?_
    refine hy_getN (T := (M4, Mr, Mo)) (o := 25) (k := 2) (v := .int (M4.1 25 2)) hx hb hown hts hX hP (by decide) rfl rfl inX1g (by decide) q_269 rfl dX10_dropMetre_23 ?_
    exact hy_iret (T := (M4, Mr, Mo)) hx hb hr hlocks hP hS (Nat.zero_le _) (Nat.zero_le _) (by rw [← (Option.some.inj h)] <;> rfl) dX10_dropMetre_26
set_option maxHeartbeats 1000000 in
set_option maxRecDepth 100000 in
theorem c_Hp_noteProperty {l : Launch} {G : hyG} (Mr Mo : hyM) (a1 : Int32) (a2 : Int32) (M : hyM) {res : Int32} (h : Hp_noteProperty a1 a2 M = some res) : hyC l yX10_noteProperty (.code yX10_noteProperty cX10_noteProperty 4 (some .int)) 4 98 (0) G [.ref (adr G 0), .int a1, .int a2] (M, Mr, Mo) (.inr (some (.int res)), (M, Mr, Mo)) := by
  refine hy_of (by decide +kernel) (Nat.le_of_ble_eq_true rfl) ?_
  intro p e s m below meth c hx hb hml hown hts hr hlocks ht hX hP hS ls hl
  have hl : lv_has ls 4 [(0, .ref (adr G 0)), (1, .int a1), (2, .int a2)] := hl
  rw [Hp_noteProperty] at h
  refine lv_aload_n hx hb dX10_noteProperty_0 rfl (lv_at hl 0 rfl) ?_
  refine hy_get (T := (M, Mr, Mo)) (o := 0) (k := 0) (v := .ref (adr G 1)) hx hb hown hts hX hP (by decide) rfl rfl inX10g (by decide) q_293 rfl dX10_noteProperty_1 ?_
  refine lv_iload_n hx hb dX10_noteProperty_4 rfl (lv_at hl 1 rfl) ?_
  obtain ⟨v1, hv1, h⟩ := hy_bind h
  refine hy_ret (hy_rVN (T := (M, Mr, Mo)) (v := some (.int v1)) (T2 := (M, Mr, Mo)) (As := [.int a1]) (rest := []) (n := 0) hx hb hml hown hts hX hP hS hl (c_Tu_startOf Mr Mo a1 M hv1) m_Tu_startOf q_590 (hy_recv hX hP 1 7 (by decide) rfl rfl) rfl rfl (Nat.le_of_ble_eq_true rfl) dX10_noteProperty_5 ⟨Nat.le_of_ble_eq_true rfl, Nat.le_of_ble_eq_true rfl⟩ ⟨Nat.zero_le _, Nat.zero_le _⟩) hS (fun H locs hP hS => ?_)
  refine lv_istore_n (lv' := [(3, .int v1), (0, .ref (adr G 0)), (1, .int a1), (2, .int a2)]) hx hb dX10_noteProperty_8 rfl hl (by decide) rfl (fun ls hl => ?_)
  refine lv_iload_n hx hb dX10_noteProperty_9 rfl (lv_at hl 3 rfl) ?_
  by_cases c2 : a2 = 0
  · rw [if_pos c2] at h
    refine lv_tableIn (tgt := 56) (off := 46) hx hb dX10_noteProperty_10 (by rw [c2]; decide) (by rw [c2]; decide) (by rw [c2]; rfl) (by decide) ?_
    refine lv_aload_n hx hb dX10_noteProperty_56 rfl (lv_at hl 1 rfl) ?_
    refine hy_get (T := (M, Mr, Mo)) (o := 0) (k := 0) (v := .ref (adr G 1)) hx hb hown hts hX hP (by decide) rfl rfl inX10g (by decide) q_293 rfl dX10_noteProperty_57 ?_
    refine lv_iload_n hx hb dX10_noteProperty_60 rfl (lv_at hl 2 rfl) ?_
    refine hy_ret (hy_rVN (T := (M, Mr, Mo)) (v := some (.int (Tu_lengthOf a1 M))) (T2 := (M, Mr, Mo)) (As := [.int a1]) (rest := []) (n := 0) hx hb hml hown hts hX hP hS hl (c_Tu_lengthOf Mr Mo a1 M rfl) m_Tu_lengthOf q_689 (hy_recv hX hP 1 7 (by decide) rfl rfl) rfl rfl (Nat.le_of_ble_eq_true rfl) dX10_noteProperty_61 ⟨Nat.le_of_ble_eq_true rfl, Nat.le_of_ble_eq_true rfl⟩ ⟨Nat.zero_le _, Nat.zero_le _⟩) hS (fun H locs hP hS => ?_)
    exact hy_iret (T := (M, Mr, Mo)) hx hb hr hlocks hP hS (Nat.zero_le _) (Nat.zero_le _) (by rw [← (Option.some.inj h)] <;> rfl) dX10_noteProperty_64
  · rw [if_neg c2] at h
    by_cases c3 : a2 = 1
    · rw [if_pos c3] at h
      refine lv_tableIn (tgt := 65) (off := 55) hx hb dX10_noteProperty_10 (by rw [c3]; decide) (by rw [c3]; decide) (by rw [c3]; rfl) (by decide) ?_
      refine lv_aload_n hx hb dX10_noteProperty_65 rfl (lv_at hl 1 rfl) ?_
      refine hy_get (T := (M, Mr, Mo)) (o := 0) (k := 4) (v := .ref (adr G 12)) hx hb hown hts hX hP (by decide) rfl rfl inX10g (by decide) q_297 rfl dX10_noteProperty_66 ?_
      refine lv_iload_n hx hb dX10_noteProperty_69 rfl (lv_at hl 2 rfl) ?_
      refine hy_ret (hy_rVN (T := (M, Mr, Mo)) (v := some (.int (Ph_syllableOf a1 M))) (T2 := (M, Mr, Mo)) (As := [.int a1]) (rest := []) (n := 0) hx hb hml hown hts hX hP hS hl (c_Ph_syllableOf Mr Mo a1 M rfl) m_Ph_syllableOf q_690 (hy_recv hX hP 12 5 (by decide) rfl rfl) rfl rfl (Nat.le_of_ble_eq_true rfl) dX10_noteProperty_70 ⟨Nat.le_of_ble_eq_true rfl, Nat.le_of_ble_eq_true rfl⟩ ⟨Nat.zero_le _, Nat.zero_le _⟩) hS (fun H locs hP hS => ?_)
      refine lv_iconst (v := (-1)) hx hb dX10_noteProperty_73 rfl ?_
      have J12 : ∀ (H : Heap) (locs : List Loc) (ls : Array Slot) (u1 : Int32), u1 = (bI (decide ((Ph_syllableOf a1 M) = (-1)))) → va_P G.1 vwCl (wld G (M, Mr, Mo)) H → va_S (hyA G) s.heap H locs → lv_has ls 4 [(0, .ref (adr G 0)), (1, .int a1), (2, .int a2), (3, .int v1)] → W p l e { frames := 4, cells := 0, slots := 6 * 0, locals := 98 } s m ([.ref (adr G 0), .int a1, .int a2] : List Value).toArray below meth c H locs 0 0 (vx_MQ below (hyQ G (.inr (some (.int res)), (M, Mr, Mo))) (hyXQ G (.inr (some (.int res)), (M, Mr, Mo))) ([.ref (adr G 0), .int a1, .int a2] : List Value).toArray s 0 (6 * 0) (hyA G)) (F0 m 82 ls [.int u1]) := by
        intro H locs ls u1 eu1 hP hS hl
        subst eu1
        refine hy_ret (hy_rS0 (T := (M, Mr, Mo)) (v := some (.int (Hp_flag (decide ((Ph_syllableOf a1 M) = (-1))) M))) (T2 := (M, Mr, Mo)) (As := [.int (bI (decide ((Ph_syllableOf a1 M) = (-1))))]) (rest := []) (n := 0) hx hb hml hown hts hX hP hS hl (c_Hp_flag Mr Mo (decide ((Ph_syllableOf a1 M) = (-1))) M rfl) m_Hp_flag q_603 rfl rfl (Nat.le_of_ble_eq_true rfl) dX10_noteProperty_82 ⟨Nat.le_of_ble_eq_true rfl, Nat.le_of_ble_eq_true rfl⟩ ⟨Nat.zero_le _, Nat.zero_le _⟩) hS (fun H locs hP hS => ?_)
        exact hy_iret (T := (M, Mr, Mo)) hx hb hr hlocks hP hS (Nat.zero_le _) (Nat.zero_le _) (by rw [← (Option.some.inj h)] <;> rfl) dX10_noteProperty_85
      refine lv_icmp_ne (tgt := 81) hx hb dX10_noteProperty_74 (by decide) (fun c11 => ?_) (fun c11 => ?_)
      · refine lv_iconst (v := 0) hx hb dX10_noteProperty_81 rfl ?_
        exact J12 _ _ ls 0 (by rw [decide_eq_false c11] <;> rfl) hP hS (lv_sub hl [1, 2, 3, 0] rfl)
      · refine lv_iconst (v := 1) hx hb dX10_noteProperty_77 rfl ?_
        refine lv_goto (tgt := 82) hx hb dX10_noteProperty_78 (by decide) ?_
        exact J12 _ _ ls 1 (by rw [decide_eq_true c11] <;> rfl) hP hS (lv_sub hl [1, 2, 3, 0] rfl)
    · rw [if_neg c3] at h
      by_cases c4 : a2 = 2
      · rw [if_pos c4] at h
        refine lv_tableIn (tgt := 86) (off := 76) hx hb dX10_noteProperty_10 (by rw [c4]; decide) (by rw [c4]; decide) (by rw [c4]; rfl) (by decide) ?_
        refine lv_aload_n hx hb dX10_noteProperty_86 rfl (lv_at hl 1 rfl) ?_
        refine hy_get (T := (M, Mr, Mo)) (o := 0) (k := 4) (v := .ref (adr G 12)) hx hb hown hts hX hP (by decide) rfl rfl inX10g (by decide) q_297 rfl dX10_noteProperty_87 ?_
        refine lv_iload_n hx hb dX10_noteProperty_90 rfl (lv_at hl 2 rfl) ?_
        refine hy_ret (hy_rVN (T := (M, Mr, Mo)) (v := some (.int (Ph_phraseOf a1 M))) (T2 := (M, Mr, Mo)) (As := [.int a1]) (rest := []) (n := 0) hx hb hml hown hts hX hP hS hl (c_Ph_phraseOf Mr Mo a1 M rfl) m_Ph_phraseOf q_691 (hy_recv hX hP 12 5 (by decide) rfl rfl) rfl rfl (Nat.le_of_ble_eq_true rfl) dX10_noteProperty_91 ⟨Nat.le_of_ble_eq_true rfl, Nat.le_of_ble_eq_true rfl⟩ ⟨Nat.zero_le _, Nat.zero_le _⟩) hS (fun H locs hP hS => ?_)
        exact hy_iret (T := (M, Mr, Mo)) hx hb hr hlocks hP hS (Nat.zero_le _) (Nat.zero_le _) (by rw [← (Option.some.inj h)] <;> rfl) dX10_noteProperty_94
      · rw [if_neg c4] at h
        by_cases c5 : a2 = 3
        · rw [if_pos c5] at h
          refine lv_tableIn (tgt := 95) (off := 85) hx hb dX10_noteProperty_10 (by rw [c5]; decide) (by rw [c5]; decide) (by rw [c5]; rfl) (by decide) ?_
          refine lv_iload_n hx hb dX10_noteProperty_95 rfl (lv_at hl 2 rfl) ?_
          refine lv_aload_n hx hb dX10_noteProperty_96 rfl (lv_at hl 1 rfl) ?_
          refine hy_get (T := (M, Mr, Mo)) (o := 0) (k := 4) (v := .ref (adr G 12)) hx hb hown hts hX hP (by decide) rfl rfl inX10g (by decide) q_297 rfl dX10_noteProperty_97 ?_
          refine lv_aload_n hx hb dX10_noteProperty_100 rfl (lv_at hl 1 rfl) ?_
          refine hy_get (T := (M, Mr, Mo)) (o := 0) (k := 4) (v := .ref (adr G 12)) hx hb hown hts hX hP (by decide) rfl rfl inX10g (by decide) q_297 rfl dX10_noteProperty_101 ?_
          refine lv_iload_n hx hb dX10_noteProperty_104 rfl (lv_at hl 2 rfl) ?_
          refine hy_ret (hy_rVN (T := (M, Mr, Mo)) (v := some (.int (Ph_phraseOf a1 M))) (T2 := (M, Mr, Mo)) (As := [.int a1]) (rest := [.ref (adr G 12), .int a1]) (n := 0) hx hb hml hown hts hX hP hS hl (c_Ph_phraseOf Mr Mo a1 M rfl) m_Ph_phraseOf q_691 (hy_recv hX hP 12 5 (by decide) rfl rfl) rfl rfl (Nat.le_of_ble_eq_true rfl) dX10_noteProperty_105 ⟨Nat.le_of_ble_eq_true rfl, Nat.le_of_ble_eq_true rfl⟩ ⟨Nat.zero_le _, Nat.zero_le _⟩) hS (fun H locs hP hS => ?_)
          refine hy_ret (hy_rVN (T := (M, Mr, Mo)) (v := some (.int (Ph_firstOf (Ph_phraseOf a1 M) M))) (T2 := (M, Mr, Mo)) (As := [.int (Ph_phraseOf a1 M)]) (rest := [.int a1]) (n := 0) hx hb hml hown hts hX hP hS hl (c_Ph_firstOf Mr Mo (Ph_phraseOf a1 M) M rfl) m_Ph_firstOf q_695 (hy_recv hX hP 12 5 (by decide) rfl rfl) rfl rfl (Nat.le_of_ble_eq_true rfl) dX10_noteProperty_108 ⟨Nat.le_of_ble_eq_true rfl, Nat.le_of_ble_eq_true rfl⟩ ⟨Nat.zero_le _, Nat.zero_le _⟩) hS (fun H locs hP hS => ?_)
          refine lv_isub hx hb dX10_noteProperty_111 ?_
          exact hy_iret (T := (M, Mr, Mo)) hx hb hr hlocks hP hS (Nat.zero_le _) (Nat.zero_le _) (by rw [← (Option.some.inj h)] <;> rfl) dX10_noteProperty_112
        · rw [if_neg c5] at h
          by_cases c6 : a2 = 4
          · rw [if_pos c6] at h
            refine lv_tableIn (tgt := 113) (off := 103) hx hb dX10_noteProperty_10 (by rw [c6]; decide) (by rw [c6]; decide) (by rw [c6]; rfl) (by decide) ?_
            refine lv_aload_n hx hb dX10_noteProperty_113 rfl (lv_at hl 1 rfl) ?_
            refine hy_get (T := (M, Mr, Mo)) (o := 0) (k := 1) (v := .ref (adr G 4)) hx hb hown hts hX hP (by decide) rfl rfl inX10g (by decide) q_294 rfl dX10_noteProperty_114 ?_
            refine lv_iload_n hx hb dX10_noteProperty_117 rfl (lv_at hl 0 rfl) ?_
            obtain ⟨v13, hv13, h⟩ := hy_bind h
            refine hy_ret (hy_rVN (T := (M, Mr, Mo)) (v := some (.int v13)) (T2 := (M, Mr, Mo)) (As := [.int v1]) (rest := []) (n := 0) hx hb hml hown hts hX hP hS hl (c_Ba_numberAt Mr Mo v1 M hv13) m_Ba_numberAt q_696 (hy_recv hX hP 4 0 (by decide) rfl rfl) rfl rfl (Nat.le_of_ble_eq_true rfl) dX10_noteProperty_118 ⟨Nat.le_of_ble_eq_true rfl, Nat.le_of_ble_eq_true rfl⟩ ⟨Nat.zero_le _, Nat.zero_le _⟩) hS (fun H locs hP hS => ?_)
            exact hy_iret (T := (M, Mr, Mo)) hx hb hr hlocks hP hS (Nat.zero_le _) (Nat.zero_le _) (by rw [← (Option.some.inj h)] <;> rfl) dX10_noteProperty_121
          · rw [if_neg c6] at h
            by_cases c7 : a2 = 5
            · rw [if_pos c7] at h
              refine lv_tableIn (tgt := 122) (off := 112) hx hb dX10_noteProperty_10 (by rw [c7]; decide) (by rw [c7]; decide) (by rw [c7]; rfl) (by decide) ?_
              refine lv_aload_n hx hb dX10_noteProperty_122 rfl (lv_at hl 1 rfl) ?_
              refine hy_get (T := (M, Mr, Mo)) (o := 0) (k := 1) (v := .ref (adr G 4)) hx hb hown hts hX hP (by decide) rfl rfl inX10g (by decide) q_294 rfl dX10_noteProperty_123 ?_
              refine lv_iload_n hx hb dX10_noteProperty_126 rfl (lv_at hl 0 rfl) ?_
              obtain ⟨v14, hv14, h⟩ := hy_bind h
              refine hy_ret (hy_rVN (T := (M, Mr, Mo)) (v := some (.int v14)) (T2 := (M, Mr, Mo)) (As := [.int v1]) (rest := []) (n := 0) hx hb hml hown hts hX hP hS hl (c_Ba_unitsBefore Mr Mo v1 M hv14) m_Ba_unitsBefore q_700 (hy_recv hX hP 4 0 (by decide) rfl rfl) rfl rfl (Nat.le_of_ble_eq_true rfl) dX10_noteProperty_127 ⟨Nat.le_of_ble_eq_true rfl, Nat.le_of_ble_eq_true rfl⟩ ⟨Nat.zero_le _, Nat.zero_le _⟩) hS (fun H locs hP hS => ?_)
              exact hy_iret (T := (M, Mr, Mo)) hx hb hr hlocks hP hS (Nat.zero_le _) (Nat.zero_le _) (by rw [← (Option.some.inj h)] <;> rfl) dX10_noteProperty_130
            · rw [if_neg c7] at h
              by_cases c8 : a2 = 6
              · rw [if_pos c8] at h
                refine lv_tableIn (tgt := 131) (off := 121) hx hb dX10_noteProperty_10 (by rw [c8]; decide) (by rw [c8]; decide) (by rw [c8]; rfl) (by decide) ?_
                refine lv_aload_n hx hb dX10_noteProperty_131 rfl (lv_at hl 1 rfl) ?_
                refine hy_get (T := (M, Mr, Mo)) (o := 0) (k := 0) (v := .ref (adr G 1)) hx hb hown hts hX hP (by decide) rfl rfl inX10g (by decide) q_293 rfl dX10_noteProperty_132 ?_
                refine lv_iload_n hx hb dX10_noteProperty_135 rfl (lv_at hl 2 rfl) ?_
                refine hy_ret (hy_rVN (T := (M, Mr, Mo)) (v := some (.int (Tu_lengthOf a1 M))) (T2 := (M, Mr, Mo)) (As := [.int a1]) (rest := []) (n := 0) hx hb hml hown hts hX hP hS hl (c_Tu_lengthOf Mr Mo a1 M rfl) m_Tu_lengthOf q_689 (hy_recv hX hP 1 7 (by decide) rfl rfl) rfl rfl (Nat.le_of_ble_eq_true rfl) dX10_noteProperty_136 ⟨Nat.le_of_ble_eq_true rfl, Nat.le_of_ble_eq_true rfl⟩ ⟨Nat.zero_le _, Nat.zero_le _⟩) hS (fun H locs hP hS => ?_)
                refine lv_aload_n hx hb dX10_noteProperty_139 rfl (lv_at hl 1 rfl) ?_
                refine hy_get (T := (M, Mr, Mo)) (o := 0) (k := 1) (v := .ref (adr G 4)) hx hb hown hts hX hP (by decide) rfl rfl inX10g (by decide) q_294 rfl dX10_noteProperty_140 ?_
                refine lv_iload_n hx hb dX10_noteProperty_143 rfl (lv_at hl 0 rfl) ?_
                obtain ⟨v15, hv15, h⟩ := hy_bind h
                refine hy_ret (hy_rVN (T := (M, Mr, Mo)) (v := some (.int v15)) (T2 := (M, Mr, Mo)) (As := [.int v1]) (rest := [.int (Tu_lengthOf a1 M)]) (n := 0) hx hb hml hown hts hX hP hS hl (c_Ba_unitsFrom Mr Mo v1 M hv15) m_Ba_unitsFrom q_704 (hy_recv hX hP 4 0 (by decide) rfl rfl) rfl rfl (Nat.le_of_ble_eq_true rfl) dX10_noteProperty_144 ⟨Nat.le_of_ble_eq_true rfl, Nat.le_of_ble_eq_true rfl⟩ ⟨Nat.zero_le _, Nat.zero_le _⟩) hS (fun H locs hP hS => ?_)
                have J17 : ∀ (H : Heap) (locs : List Loc) (ls : Array Slot) (u1 : Int32), u1 = (bI (!decide ((Tu_lengthOf a1 M) ≤ v15))) → va_P G.1 vwCl (wld G (M, Mr, Mo)) H → va_S (hyA G) s.heap H locs → lv_has ls 4 [(0, .ref (adr G 0)), (1, .int a1), (2, .int a2), (3, .int v1)] → W p l e { frames := 4, cells := 0, slots := 6 * 0, locals := 98 } s m ([.ref (adr G 0), .int a1, .int a2] : List Value).toArray below meth c H locs 0 0 (vx_MQ below (hyQ G (.inr (some (.int res)), (M, Mr, Mo))) (hyXQ G (.inr (some (.int res)), (M, Mr, Mo))) ([.ref (adr G 0), .int a1, .int a2] : List Value).toArray s 0 (6 * 0) (hyA G)) (F0 m 155 ls [.int u1]) := by
                  intro H locs ls u1 eu1 hP hS hl
                  subst eu1
                  refine hy_ret (hy_rS0 (T := (M, Mr, Mo)) (v := some (.int (Hp_flag (!decide ((Tu_lengthOf a1 M) ≤ v15)) M))) (T2 := (M, Mr, Mo)) (As := [.int (bI (!decide ((Tu_lengthOf a1 M) ≤ v15)))]) (rest := []) (n := 0) hx hb hml hown hts hX hP hS hl (c_Hp_flag Mr Mo (!decide ((Tu_lengthOf a1 M) ≤ v15)) M rfl) m_Hp_flag q_603 rfl rfl (Nat.le_of_ble_eq_true rfl) dX10_noteProperty_155 ⟨Nat.le_of_ble_eq_true rfl, Nat.le_of_ble_eq_true rfl⟩ ⟨Nat.zero_le _, Nat.zero_le _⟩) hS (fun H locs hP hS => ?_)
                  exact hy_iret (T := (M, Mr, Mo)) hx hb hr hlocks hP hS (Nat.zero_le _) (Nat.zero_le _) (by rw [← (Option.some.inj h)] <;> rfl) dX10_noteProperty_158
                refine lv_icmp_le (tgt := 154) hx hb dX10_noteProperty_147 (by decide) (fun c16 => ?_) (fun c16 => ?_)
                · refine lv_iconst (v := 0) hx hb dX10_noteProperty_154 rfl ?_
                  exact J17 _ _ ls 0 (by rw [decide_eq_true c16] <;> rfl) hP hS (lv_sub hl [1, 2, 3, 0] rfl)
                · refine lv_iconst (v := 1) hx hb dX10_noteProperty_150 rfl ?_
                  refine lv_goto (tgt := 155) hx hb dX10_noteProperty_151 (by decide) ?_
                  exact J17 _ _ ls 1 (by rw [decide_eq_false c16] <;> rfl) hP hS (lv_sub hl [1, 2, 3, 0] rfl)
              · rw [if_neg c8] at h
                by_cases c9 : a2 = 7
                · rw [if_pos c9] at h
                  refine lv_tableIn (tgt := 159) (off := 149) hx hb dX10_noteProperty_10 (by rw [c9]; decide) (by rw [c9]; decide) (by rw [c9]; rfl) (by decide) ?_
                  refine lv_aload_n hx hb dX10_noteProperty_159 rfl (lv_at hl 1 rfl) ?_
                  refine hy_get (T := (M, Mr, Mo)) (o := 0) (k := 6) (v := .ref (adr G 21)) hx hb hown hts hX hP (by decide) rfl rfl inX10g (by decide) q_299 rfl dX10_noteProperty_160 ?_
                  refine lv_iload_n hx hb dX10_noteProperty_163 rfl (lv_at hl 2 rfl) ?_
                  refine hy_ret (hy_rVN (T := (M, Mr, Mo)) (v := some (.int (Co_widthOf a1 M))) (T2 := (M, Mr, Mo)) (As := [.int a1]) (rest := []) (n := 0) hx hb hml hown hts hX hP hS hl (c_Co_widthOf Mr Mo a1 M rfl) m_Co_widthOf q_709 (hy_recv hX hP 21 2 (by decide) rfl rfl) rfl rfl (Nat.le_of_ble_eq_true rfl) dX10_noteProperty_164 ⟨Nat.le_of_ble_eq_true rfl, Nat.le_of_ble_eq_true rfl⟩ ⟨Nat.zero_le _, Nat.zero_le _⟩) hS (fun H locs hP hS => ?_)
                  exact hy_iret (T := (M, Mr, Mo)) hx hb hr hlocks hP hS (Nat.zero_le _) (Nat.zero_le _) (by rw [← (Option.some.inj h)] <;> rfl) dX10_noteProperty_167
                · rw [if_neg c9] at h
                  refine lv_tableOut (tgt := 168) hx hb dX10_noteProperty_10 (hy_tabOut 0 a2 8 (fun k hk => by match k, hk with | 0, _ => exact c2 | 1, _ => exact c3 | 2, _ => exact c4 | 3, _ => exact c5 | 4, _ => exact c6 | 5, _ => exact c7 | 6, _ => exact c8 | 7, _ => exact c9 | k9 + 8, hk => exact absurd hk (by omega))) (by decide) ?_
                  refine lv_aload_n hx hb dX10_noteProperty_168 rfl (lv_at hl 1 rfl) ?_
                  refine hy_get (T := (M, Mr, Mo)) (o := 0) (k := 0) (v := .ref (adr G 1)) hx hb hown hts hX hP (by decide) rfl rfl inX10g (by decide) q_293 rfl dX10_noteProperty_169 ?_
                  refine lv_iload_n hx hb dX10_noteProperty_172 rfl (lv_at hl 2 rfl) ?_
                  obtain ⟨v10, hv10, h⟩ := hy_bind h
                  refine hy_ret (hy_rVN (T := (M, Mr, Mo)) (v := some (.int v10)) (T2 := (M, Mr, Mo)) (As := [.int a1]) (rest := []) (n := 0) hx hb hml hown hts hX hP hS hl (c_Tu_parallelsTo Mr Mo a1 M hv10) m_Tu_parallelsTo q_710 (hy_recv hX hP 1 7 (by decide) rfl rfl) rfl rfl (Nat.le_of_ble_eq_true rfl) dX10_noteProperty_173 ⟨Nat.le_of_ble_eq_true rfl, Nat.le_of_ble_eq_true rfl⟩ ⟨Nat.zero_le _, Nat.zero_le _⟩) hS (fun H locs hP hS => ?_)
                  exact hy_iret (T := (M, Mr, Mo)) hx hb hr hlocks hP hS (Nat.zero_le _) (Nat.zero_le _) (by rw [← (Option.some.inj h)] <;> rfl) dX10_noteProperty_176
