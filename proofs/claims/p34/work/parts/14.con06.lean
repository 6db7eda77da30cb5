set_option maxHeartbeats 1000000 in
set_option maxRecDepth 100000 in
theorem c_Hp_note {l : Launch} {G : hyG} (hlt : l.stackTraces = false) (Mr Mo : hyM) (a1 : Int32) (a2 : Int32) (M : hyM) {res : (Nat ⊕ Int32)} (h : Hp_note a1 a2 M = some res) : hyC l yX10_note (.code yX10_note cX10_note 3 (some .int)) 7 121 (hyNo res) G [.ref (adr G 0), .int a1, .int a2] (M, Mr, Mo) (hyoI res, (M, Mr, Mo)) := by
  refine hy_of (by decide +kernel) (Nat.le_of_ble_eq_true rfl) ?_
  intro p e s m below meth c hx hb hml hown hts hr hlocks ht hX hP hS ls hl
  have hl : lv_has ls 3 [(0, .ref (adr G 0)), (1, .int a1), (2, .int a2)] := hl
  rw [Hp_note] at h
  refine lv_iload_n hx hb dX10_note_0 rfl (lv_at hl 1 rfl) ?_
  refine lv_aload_n hx hb dX10_note_1 rfl (lv_at hl 0 rfl) ?_
  refine hy_get (T := (M, Mr, Mo)) (o := 0) (k := 0) (v := .ref (adr G 1)) hx hb hown hts hX hP (by decide) rfl rfl inX10g (by decide) q_293 rfl dX10_note_2 ?_
  refine hy_getN (T := (M, Mr, Mo)) (o := 1) (k := 4) (v := .int (M.1 1 4)) hx hb hown hts hX hP (by decide) rfl rfl inX8g (by decide) q_125 rfl dX10_note_5 ?_
  obtain ⟨u1, hu1⟩ : ∃ z, Hp_checkIndex a1 (M.1 1 4) M = z := ⟨_, rfl⟩
  rw [hu1] at h
  rcases u1 with k2 | r3
  all_goals try dsimp only at h
  · have er := (Option.some.inj h)
    refine hy_retX (ou := (.inl k2, (M, Mr, Mo))) (n := 1) (k := 0) (hy_rS (T := (M, Mr, Mo)) (ou := (.inl k2, (M, Mr, Mo))) (As := [.int a1, .int (M.1 1 4)]) (rest := []) (n := 1) hx hb hml hown hts hX hP hS hl (c_Hp_checkIndex hlt Mr Mo a1 (M.1 1 4) M (res := .inl k2) hu1) m_Hp_checkIndex q_666 rfl rfl (Nat.le_of_ble_eq_true rfl) dX10_note_8 ⟨Nat.le_of_ble_eq_true rfl, Nat.le_of_ble_eq_true rfl⟩ ⟨by rw [← er]; exact Nat.le_of_ble_eq_true rfl, by rw [← er]; exact Nat.le_of_ble_eq_true rfl⟩) hS (fun k hk q ce H locs hP hS hce hcv hcl => ?_) (fun v hv => by cases hv)
    cases hk
    exact hy_out (T := (M, Mr, Mo)) ht hlocks hP hS (by rw [← er]; exact Nat.le_of_ble_eq_true rfl) (by rw [← er]; exact Nat.le_of_ble_eq_true rfl) (by rw [← er] <;> rfl) hce hcv hcl
  · refine hy_retX (ou := (.inr (none), (M, Mr, Mo))) (n := 0) (k := 0) (hy_rS (T := (M, Mr, Mo)) (ou := (.inr (none), (M, Mr, Mo))) (As := [.int a1, .int (M.1 1 4)]) (rest := []) (n := 0) hx hb hml hown hts hX hP hS hl (c_Hp_checkIndex hlt Mr Mo a1 (M.1 1 4) M (res := .inr r3) hu1) m_Hp_checkIndex q_666 rfl rfl (Nat.le_of_ble_eq_true rfl) dX10_note_8 ⟨Nat.le_of_ble_eq_true rfl, Nat.le_of_ble_eq_true rfl⟩ ⟨Nat.zero_le _, Nat.zero_le _⟩) hS (fun k hk => by cases hk) (fun v hv H locs hP hS => ?_)
    cases hv
    refine lv_iload_n hx hb dX10_note_11 rfl (lv_at hl 2 rfl) ?_
    refine lv_iconst (v := 0) hx hb dX10_note_12 rfl ?_
    refine lv_bipush (v := 8) hx hb dX10_note_13 rfl ?_
    obtain ⟨u4, hu4⟩ : ∃ z, Hp_checkRange a2 0 8 M = z := ⟨_, rfl⟩
    rw [hu4] at h
    rcases u4 with k5 | r6
    all_goals try dsimp only at h
    · have er := (Option.some.inj h)
      refine hy_retX (ou := (.inl k5, (M, Mr, Mo))) (n := 1) (k := 0) (hy_rS (T := (M, Mr, Mo)) (ou := (.inl k5, (M, Mr, Mo))) (As := [.int a2, .int 0, .int 8]) (rest := []) (n := 1) hx hb hml hown hts hX hP hS hl (c_Hp_checkRange hlt Mr Mo a2 0 8 M (res := .inl k5) hu4) m_Hp_checkRange q_328 rfl rfl (Nat.le_of_ble_eq_true rfl) dX10_note_15 ⟨Nat.le_of_ble_eq_true rfl, Nat.le_of_ble_eq_true rfl⟩ ⟨by rw [← er]; exact Nat.le_of_ble_eq_true rfl, by rw [← er]; exact Nat.le_of_ble_eq_true rfl⟩) hS (fun k hk q ce H locs hP hS hce hcv hcl => ?_) (fun v hv => by cases hv)
      cases hk
      exact hy_out (T := (M, Mr, Mo)) ht hlocks hP hS (by rw [← er]; exact Nat.le_of_ble_eq_true rfl) (by rw [← er]; exact Nat.le_of_ble_eq_true rfl) (by rw [← er] <;> rfl) hce hcv hcl
    · refine hy_retX (ou := (.inr (none), (M, Mr, Mo))) (n := 0) (k := 0) (hy_rS (T := (M, Mr, Mo)) (ou := (.inr (none), (M, Mr, Mo))) (As := [.int a2, .int 0, .int 8]) (rest := []) (n := 0) hx hb hml hown hts hX hP hS hl (c_Hp_checkRange hlt Mr Mo a2 0 8 M (res := .inr r6) hu4) m_Hp_checkRange q_328 rfl rfl (Nat.le_of_ble_eq_true rfl) dX10_note_15 ⟨Nat.le_of_ble_eq_true rfl, Nat.le_of_ble_eq_true rfl⟩ ⟨Nat.zero_le _, Nat.zero_le _⟩) hS (fun k hk => by cases hk) (fun v hv H locs hP hS => ?_)
      cases hv
      refine lv_aload_n hx hb dX10_note_18 rfl (lv_at hl 0 rfl) ?_
      refine lv_iload_n hx hb dX10_note_19 rfl (lv_at hl 1 rfl) ?_
      refine lv_iload_n hx hb dX10_note_20 rfl (lv_at hl 2 rfl) ?_
      obtain ⟨v7, hv7, h⟩ := hy_bind h
      refine hy_ret (hy_rV0 (T := (M, Mr, Mo)) (v := some (.int v7)) (T2 := (M, Mr, Mo)) (As := [.int a1, .int a2]) (rest := []) (n := 0) hx hb hml hown hts hX hP hS hl (c_Hp_noteProperty Mr Mo a1 a2 M hv7) m_Hp_noteProperty q_685 (hy_recv hX hP 0 9 (by decide) rfl rfl) rfl rfl (Nat.le_of_ble_eq_true rfl) dX10_note_21 ⟨Nat.le_of_ble_eq_true rfl, Nat.le_of_ble_eq_true rfl⟩ ⟨Nat.zero_le _, Nat.zero_le _⟩) hS (fun H locs hP hS => ?_)
      exact hy_iret (T := (M, Mr, Mo)) hx hb hr hlocks hP hS (Nat.zero_le _) (Nat.zero_le _) (by rw [← (Option.some.inj h)] <;> rfl) dX10_note_24
set_option maxHeartbeats 1000000 in
set_option maxRecDepth 100000 in
theorem c_Hp_partProperty {l : Launch} {G : hyG} (Mr Mo : hyM) (a1 : Int32) (a2 : Int32) (a3 : Int32) (M : hyM) {res : Int32} (h : Hp_partProperty a1 a2 a3 M = some res) : hyC l yX10_partProperty (.code yX10_partProperty cX10_partProperty 6 (some .int)) 4 90 (0) G [.ref (adr G 0), .int a1, .int a2, .int a3] (M, Mr, Mo) (.inr (some (.int res)), (M, Mr, Mo)) := by
  refine hy_of (by decide +kernel) (Nat.le_of_ble_eq_true rfl) ?_
  intro p e s m below meth c hx hb hml hown hts hr hlocks ht hX hP hS ls hl
  have hl : lv_has ls 6 [(0, .ref (adr G 0)), (1, .int a1), (2, .int a2), (3, .int a3)] := hl
  rw [Hp_partProperty] at h
  refine lv_aload_n hx hb dX10_partProperty_0 rfl (lv_at hl 0 rfl) ?_
  refine hy_get (T := (M, Mr, Mo)) (o := 0) (k := 0) (v := .ref (adr G 1)) hx hb hown hts hX hP (by decide) rfl rfl inX10g (by decide) q_293 rfl dX10_partProperty_1 ?_
  refine lv_iload_n hx hb dX10_partProperty_4 rfl (lv_at hl 1 rfl) ?_
  refine lv_iload_n hx hb dX10_partProperty_5 rfl (lv_at hl 2 rfl) ?_
  refine hy_ret (hy_rVN (T := (M, Mr, Mo)) (v := some (.int (Tu_pitchOf a1 a2 M))) (T2 := (M, Mr, Mo)) (As := [.int a1, .int a2]) (rest := []) (n := 0) hx hb hml hown hts hX hP hS hl (c_Tu_pitchOf Mr Mo a1 a2 M rfl) m_Tu_pitchOf q_752 (hy_recv hX hP 1 7 (by decide) rfl rfl) rfl rfl (Nat.le_of_ble_eq_true rfl) dX10_partProperty_6 ⟨Nat.le_of_ble_eq_true rfl, Nat.le_of_ble_eq_true rfl⟩ ⟨Nat.zero_le _, Nat.zero_le _⟩) hS (fun H locs hP hS => ?_)
  refine lv_istore (lv' := [(4, .int (Tu_pitchOf a1 a2 M)), (0, .ref (adr G 0)), (1, .int a1), (2, .int a2), (3, .int a3)]) hx hb dX10_partProperty_9 hl (by decide) rfl (fun ls hl => ?_)
  refine lv_aload_n hx hb dX10_partProperty_11 rfl (lv_at hl 1 rfl) ?_
  refine hy_get (T := (M, Mr, Mo)) (o := 0) (k := 0) (v := .ref (adr G 1)) hx hb hown hts hX hP (by decide) rfl rfl inX10g (by decide) q_293 rfl dX10_partProperty_12 ?_
  refine hy_getN (T := (M, Mr, Mo)) (o := 1) (k := 5) (v := .int (M.1 1 5)) hx hb hown hts hX hP (by decide) rfl rfl inX8g (by decide) q_128 rfl dX10_partProperty_15 ?_
  refine lv_iload hx hb dX10_partProperty_18 (lv_at hl 0 rfl) ?_
  obtain ⟨v1, hv1, h⟩ := hy_bind h
  refine hy_ret (hy_rSN (T := (M, Mr, Mo)) (v := some (.int (bI v1))) (T2 := (M, Mr, Mo)) (As := [.int (M.1 1 5), .int (Tu_pitchOf a1 a2 M)]) (rest := []) (n := 0) hx hb hml hown hts hX hP hS hl (c_Ke_isRaised Mr Mo (M.1 1 5) (Tu_pitchOf a1 a2 M) M hv1) m_Ke_isRaised q_753 rfl rfl (Nat.le_of_ble_eq_true rfl) dX10_partProperty_20 ⟨Nat.le_of_ble_eq_true rfl, Nat.le_of_ble_eq_true rfl⟩ ⟨Nat.zero_le _, Nat.zero_le _⟩) hS (fun H locs hP hS => ?_)
  refine lv_istore (lv' := [(5, .int (bI v1)), (4, .int (Tu_pitchOf a1 a2 M)), (0, .ref (adr G 0)), (1, .int a1), (2, .int a2), (3, .int a3)]) hx hb dX10_partProperty_23 hl (by decide) rfl (fun ls hl => ?_)
  refine lv_iload_n hx hb dX10_partProperty_25 rfl (lv_at hl 5 rfl) ?_
  by_cases c2 : a3 = 0
  · rw [if_pos c2] at h
    refine lv_tableIn (tgt := 60) (off := 34) hx hb dX10_partProperty_26 (by rw [c2]; decide) (by rw [c2]; decide) (by rw [c2]; rfl) (by decide) ?_
    refine lv_iload hx hb dX10_partProperty_60 (lv_at hl 1 rfl) ?_
    exact hy_iret (T := (M, Mr, Mo)) hx hb hr hlocks hP hS (Nat.zero_le _) (Nat.zero_le _) (by rw [← (Option.some.inj h)] <;> rfl) dX10_partProperty_62
  · rw [if_neg c2] at h
    by_cases c3 : a3 = 1
    · rw [if_pos c3] at h
      refine lv_tableIn (tgt := 63) (off := 37) hx hb dX10_partProperty_26 (by rw [c3]; decide) (by rw [c3]; decide) (by rw [c3]; rfl) (by decide) ?_
      refine lv_aload_n hx hb dX10_partProperty_63 rfl (lv_at hl 2 rfl) ?_
      refine hy_get (T := (M, Mr, Mo)) (o := 0) (k := 0) (v := .ref (adr G 1)) hx hb hown hts hX hP (by decide) rfl rfl inX10g (by decide) q_293 rfl dX10_partProperty_64 ?_
      refine hy_getN (T := (M, Mr, Mo)) (o := 1) (k := 5) (v := .int (M.1 1 5)) hx hb hown hts hX hP (by decide) rfl rfl inX8g (by decide) q_128 rfl dX10_partProperty_67 ?_
      refine lv_iload hx hb dX10_partProperty_70 (lv_at hl 1 rfl) ?_
      obtain ⟨v8, hv8, h⟩ := hy_bind h
      refine hy_ret (hy_rSN (T := (M, Mr, Mo)) (v := some (.int v8)) (T2 := (M, Mr, Mo)) (As := [.int (M.1 1 5), .int (Tu_pitchOf a1 a2 M)]) (rest := []) (n := 0) hx hb hml hown hts hX hP hS hl (c_Ke_degreeOf Mr Mo (M.1 1 5) (Tu_pitchOf a1 a2 M) M hv8) m_Ke_degreeOf q_763 rfl rfl (Nat.le_of_ble_eq_true rfl) dX10_partProperty_72 ⟨Nat.le_of_ble_eq_true rfl, Nat.le_of_ble_eq_true rfl⟩ ⟨Nat.zero_le _, Nat.zero_le _⟩) hS (fun H locs hP hS => ?_)
      exact hy_iret (T := (M, Mr, Mo)) hx hb hr hlocks hP hS (Nat.zero_le _) (Nat.zero_le _) (by rw [← (Option.some.inj h)] <;> rfl) dX10_partProperty_75
    · rw [if_neg c3] at h
      by_cases c4 : a3 = 2
      · rw [if_pos c4] at h
        refine lv_tableIn (tgt := 76) (off := 50) hx hb dX10_partProperty_26 (by rw [c4]; decide) (by rw [c4]; decide) (by rw [c4]; rfl) (by decide) ?_
        refine lv_aload_n hx hb dX10_partProperty_76 rfl (lv_at hl 2 rfl) ?_
        refine hy_get (T := (M, Mr, Mo)) (o := 0) (k := 0) (v := .ref (adr G 1)) hx hb hown hts hX hP (by decide) rfl rfl inX10g (by decide) q_293 rfl dX10_partProperty_77 ?_
        refine hy_getN (T := (M, Mr, Mo)) (o := 1) (k := 5) (v := .int (M.1 1 5)) hx hb hown hts hX hP (by decide) rfl rfl inX8g (by decide) q_128 rfl dX10_partProperty_80 ?_
        refine lv_iload hx hb dX10_partProperty_83 (lv_at hl 1 rfl) ?_
        obtain ⟨v9, hv9, h⟩ := hy_bind h
        refine hy_ret (hy_rSN (T := (M, Mr, Mo)) (v := some (.int v9)) (T2 := (M, Mr, Mo)) (As := [.int (M.1 1 5), .int (Tu_pitchOf a1 a2 M)]) (rest := []) (n := 0) hx hb hml hown hts hX hP hS hl (c_Ke_stepOf Mr Mo (M.1 1 5) (Tu_pitchOf a1 a2 M) M hv9) m_Ke_stepOf q_766 rfl rfl (Nat.le_of_ble_eq_true rfl) dX10_partProperty_85 ⟨Nat.le_of_ble_eq_true rfl, Nat.le_of_ble_eq_true rfl⟩ ⟨Nat.zero_le _, Nat.zero_le _⟩) hS (fun H locs hP hS => ?_)
        exact hy_iret (T := (M, Mr, Mo)) hx hb hr hlocks hP hS (Nat.zero_le _) (Nat.zero_le _) (by rw [← (Option.some.inj h)] <;> rfl) dX10_partProperty_88
      · rw [if_neg c4] at h
        by_cases c5 : a3 = 3
        · rw [if_pos c5] at h
          refine lv_tableIn (tgt := 89) (off := 63) hx hb dX10_partProperty_26 (by rw [c5]; decide) (by rw [c5]; decide) (by rw [c5]; rfl) (by decide) ?_
          refine lv_iload hx hb dX10_partProperty_89 (lv_at hl 0 rfl) ?_
          refine hy_ret (hy_rS0 (T := (M, Mr, Mo)) (v := some (.int (Hp_flag v1 M))) (T2 := (M, Mr, Mo)) (As := [.int (bI v1)]) (rest := []) (n := 0) hx hb hml hown hts hX hP hS hl (c_Hp_flag Mr Mo v1 M rfl) m_Hp_flag q_603 rfl rfl (Nat.le_of_ble_eq_true rfl) dX10_partProperty_91 ⟨Nat.le_of_ble_eq_true rfl, Nat.le_of_ble_eq_true rfl⟩ ⟨Nat.zero_le _, Nat.zero_le _⟩) hS (fun H locs hP hS => ?_)
          exact hy_iret (T := (M, Mr, Mo)) hx hb hr hlocks hP hS (Nat.zero_le _) (Nat.zero_le _) (by rw [← (Option.some.inj h)] <;> rfl) dX10_partProperty_94
        · rw [if_neg c5] at h
          by_cases c6 : a3 = 4
          · rw [if_pos c6] at h
            refine lv_tableIn (tgt := 95) (off := 69) hx hb dX10_partProperty_26 (by rw [c6]; decide) (by rw [c6]; decide) (by rw [c6]; rfl) (by decide) ?_
            refine lv_iload hx hb dX10_partProperty_95 (lv_at hl 0 rfl) ?_
            refine lv_if_eq (tgt := 104) hx hb dX10_partProperty_97 (by decide) (fun c10 => ?_) (fun c10 => ?_)
            · rw [if_neg (bI_0 c10)] at h
              refine lv_aload_n hx hb dX10_partProperty_104 rfl (lv_at hl 2 rfl) ?_
              refine hy_get (T := (M, Mr, Mo)) (o := 0) (k := 0) (v := .ref (adr G 1)) hx hb hown hts hX hP (by decide) rfl rfl inX10g (by decide) q_293 rfl dX10_partProperty_105 ?_
              refine hy_getN (T := (M, Mr, Mo)) (o := 1) (k := 5) (v := .int (M.1 1 5)) hx hb hown hts hX hP (by decide) rfl rfl inX8g (by decide) q_128 rfl dX10_partProperty_108 ?_
              refine lv_iload hx hb dX10_partProperty_111 (lv_at hl 1 rfl) ?_
              obtain ⟨v11, hv11, h⟩ := hy_bind h
              refine hy_ret (hy_rSN (T := (M, Mr, Mo)) (v := some (.int v11)) (T2 := (M, Mr, Mo)) (As := [.int (M.1 1 5), .int (Tu_pitchOf a1 a2 M)]) (rest := []) (n := 0) hx hb hml hown hts hX hP hS hl (c_Ke_shapeOf Mr Mo (M.1 1 5) (Tu_pitchOf a1 a2 M) M hv11) m_Ke_shapeOf q_778 rfl rfl (Nat.le_of_ble_eq_true rfl) dX10_partProperty_113 ⟨Nat.le_of_ble_eq_true rfl, Nat.le_of_ble_eq_true rfl⟩ ⟨Nat.zero_le _, Nat.zero_le _⟩) hS (fun H locs hP hS => ?_)
              exact hy_iret (T := (M, Mr, Mo)) hx hb hr hlocks hP hS (Nat.zero_le _) (Nat.zero_le _) (by rw [← (Option.some.inj h)] <;> rfl) dX10_partProperty_116
            · rw [if_pos (bI_1 c10)] at h
              refine lv_iconst (v := (-1)) hx hb dX10_partProperty_100 rfl ?_
              refine lv_goto (tgt := 116) hx hb dX10_partProperty_101 (by decide) ?_
              exact hy_iret (T := (M, Mr, Mo)) hx hb hr hlocks hP hS (Nat.zero_le _) (Nat.zero_le _) (by rw [← (Option.some.inj h)] <;> rfl) dX10_partProperty_116
          · rw [if_neg c6] at h
            refine lv_tableOut (tgt := 117) hx hb dX10_partProperty_26 (hy_tabOut 0 a3 5 (fun k hk => by match k, hk with | 0, _ => exact c2 | 1, _ => exact c3 | 2, _ => exact c4 | 3, _ => exact c5 | 4, _ => exact c6 | k9 + 5, hk => exact absurd hk (by omega))) (by decide) ?_
            refine lv_aload_n hx hb dX10_partProperty_117 rfl (lv_at hl 2 rfl) ?_
            refine hy_get (T := (M, Mr, Mo)) (o := 0) (k := 0) (v := .ref (adr G 1)) hx hb hown hts hX hP (by decide) rfl rfl inX10g (by decide) q_293 rfl dX10_partProperty_118 ?_
            refine hy_getN (T := (M, Mr, Mo)) (o := 1) (k := 5) (v := .int (M.1 1 5)) hx hb hown hts hX hP (by decide) rfl rfl inX8g (by decide) q_128 rfl dX10_partProperty_121 ?_
            refine lv_iload hx hb dX10_partProperty_124 (lv_at hl 1 rfl) ?_
            obtain ⟨v7, hv7, h⟩ := hy_bind h
            refine hy_ret (hy_rSN (T := (M, Mr, Mo)) (v := some (.int v7)) (T2 := (M, Mr, Mo)) (As := [.int (M.1 1 5), .int (Tu_pitchOf a1 a2 M)]) (rest := []) (n := 0) hx hb hml hown hts hX hP hS hl (c_Ke_stepOf Mr Mo (M.1 1 5) (Tu_pitchOf a1 a2 M) M hv7) m_Ke_stepOf q_766 rfl rfl (Nat.le_of_ble_eq_true rfl) dX10_partProperty_126 ⟨Nat.le_of_ble_eq_true rfl, Nat.le_of_ble_eq_true rfl⟩ ⟨Nat.zero_le _, Nat.zero_le _⟩) hS (fun H locs hP hS => ?_)
            refine lv_iload_n hx hb dX10_partProperty_129 rfl (lv_at hl 4 rfl) ?_
            refine lv_iconst (v := 2) hx hb dX10_partProperty_130 rfl ?_
            refine lv_idiv hx hb dX10_partProperty_131 (by decide) ?_
            refine hy_ret (hy_rSN (T := (M, Mr, Mo)) (v := some (.int (Ke_ledgerLines v7 (a2 / 2) M))) (T2 := (M, Mr, Mo)) (As := [.int v7, .int (a2 / 2)]) (rest := []) (n := 0) hx hb hml hown hts hX hP hS hl (c_Ke_ledgerLines Mr Mo v7 (a2 / 2) M rfl) m_Ke_ledgerLines q_783 rfl rfl (Nat.le_of_ble_eq_true rfl) dX10_partProperty_132 ⟨Nat.le_of_ble_eq_true rfl, Nat.le_of_ble_eq_true rfl⟩ ⟨Nat.zero_le _, Nat.zero_le _⟩) hS (fun H locs hP hS => ?_)
            exact hy_iret (T := (M, Mr, Mo)) hx hb hr hlocks hP hS (Nat.zero_le _) (Nat.zero_le _) (by rw [← (Option.some.inj h)] <;> rfl) dX10_partProperty_135
set_option maxHeartbeats 1000000 in
set_option maxRecDepth 100000 in
theorem c_Hp_part {l : Launch} {G : hyG} (hlt : l.stackTraces = false) (Mr Mo : hyM) (a1 : Int32) (a2 : Int32) (a3 : Int32) (M : hyM) {res : (Nat ⊕ Int32)} (h : Hp_part a1 a2 a3 M = some res) : hyC l yX10_part (.code yX10_part cX10_part 4 (some .int)) 7 115 (hyNo res) G [.ref (adr G 0), .int a1, .int a2, .int a3] (M, Mr, Mo) (hyoI res, (M, Mr, Mo)) := by
  refine hy_of (by decide +kernel) (Nat.le_of_ble_eq_true rfl) ?_
  intro p e s m below meth c hx hb hml hown hts hr hlocks ht hX hP hS ls hl
  have hl : lv_has ls 4 [(0, .ref (adr G 0)), (1, .int a1), (2, .int a2), (3, .int a3)] := hl
  rw [Hp_part] at h
  refine lv_iload_n hx hb dX10_part_0 rfl (lv_at hl 1 rfl) ?_
  refine lv_aload_n hx hb dX10_part_1 rfl (lv_at hl 0 rfl) ?_
  refine hy_get (T := (M, Mr, Mo)) (o := 0) (k := 0) (v := .ref (adr G 1)) hx hb hown hts hX hP (by decide) rfl rfl inX10g (by decide) q_293 rfl dX10_part_2 ?_
  refine hy_getN (T := (M, Mr, Mo)) (o := 1) (k := 4) (v := .int (M.1 1 4)) hx hb hown hts hX hP (by decide) rfl rfl inX8g (by decide) q_125 rfl dX10_part_5 ?_
  obtain ⟨u1, hu1⟩ : ∃ z, Hp_checkIndex a1 (M.1 1 4) M = z := ⟨_, rfl⟩
  rw [hu1] at h
  rcases u1 with k2 | r3
  all_goals try dsimp only at h
  · have er := (Option.some.inj h)
    refine hy_retX (ou := (.inl k2, (M, Mr, Mo))) (n := 1) (k := 0) (hy_rS (T := (M, Mr, Mo)) (ou := (.inl k2, (M, Mr, Mo))) (As := [.int a1, .int (M.1 1 4)]) (rest := []) (n := 1) hx hb hml hown hts hX hP hS hl (c_Hp_checkIndex hlt Mr Mo a1 (M.1 1 4) M (res := .inl k2) hu1) m_Hp_checkIndex q_666 rfl rfl (Nat.le_of_ble_eq_true rfl) dX10_part_8 ⟨Nat.le_of_ble_eq_true rfl, Nat.le_of_ble_eq_true rfl⟩ ⟨by rw [← er]; exact Nat.le_of_ble_eq_true rfl, by rw [← er]; exact Nat.le_of_ble_eq_true rfl⟩) hS (fun k hk q ce H locs hP hS hce hcv hcl => ?_) (fun v hv => by cases hv)
    cases hk
    exact hy_out (T := (M, Mr, Mo)) ht hlocks hP hS (by rw [← er]; exact Nat.le_of_ble_eq_true rfl) (by rw [← er]; exact Nat.le_of_ble_eq_true rfl) (by rw [← er] <;> rfl) hce hcv hcl
  · refine hy_retX (ou := (.inr (none), (M, Mr, Mo))) (n := 0) (k := 0) (hy_rS (T := (M, Mr, Mo)) (ou := (.inr (none), (M, Mr, Mo))) (As := [.int a1, .int (M.1 1 4)]) (rest := []) (n := 0) hx hb hml hown hts hX hP hS hl (c_Hp_checkIndex hlt Mr Mo a1 (M.1 1 4) M (res := .inr r3) hu1) m_Hp_checkIndex q_666 rfl rfl (Nat.le_of_ble_eq_true rfl) dX10_part_8 ⟨Nat.le_of_ble_eq_true rfl, Nat.le_of_ble_eq_true rfl⟩ ⟨Nat.zero_le _, Nat.zero_le _⟩) hS (fun k hk => by cases hk) (fun v hv H locs hP hS => ?_)
    cases hv
    refine lv_iload_n hx hb dX10_part_11 rfl (lv_at hl 2 rfl) ?_
    refine lv_iconst (v := 4) hx hb dX10_part_12 rfl ?_
    obtain ⟨u4, hu4⟩ : ∃ z, Hp_checkIndex a2 4 M = z := ⟨_, rfl⟩
    rw [hu4] at h
    rcases u4 with k5 | r6
    all_goals try dsimp only at h
    · have er := (Option.some.inj h)
      refine hy_retX (ou := (.inl k5, (M, Mr, Mo))) (n := 1) (k := 0) (hy_rS (T := (M, Mr, Mo)) (ou := (.inl k5, (M, Mr, Mo))) (As := [.int a2, .int 4]) (rest := []) (n := 1) hx hb hml hown hts hX hP hS hl (c_Hp_checkIndex hlt Mr Mo a2 4 M (res := .inl k5) hu4) m_Hp_checkIndex q_666 rfl rfl (Nat.le_of_ble_eq_true rfl) dX10_part_13 ⟨Nat.le_of_ble_eq_true rfl, Nat.le_of_ble_eq_true rfl⟩ ⟨by rw [← er]; exact Nat.le_of_ble_eq_true rfl, by rw [← er]; exact Nat.le_of_ble_eq_true rfl⟩) hS (fun k hk q ce H locs hP hS hce hcv hcl => ?_) (fun v hv => by cases hv)
      cases hk
      exact hy_out (T := (M, Mr, Mo)) ht hlocks hP hS (by rw [← er]; exact Nat.le_of_ble_eq_true rfl) (by rw [← er]; exact Nat.le_of_ble_eq_true rfl) (by rw [← er] <;> rfl) hce hcv hcl
    · refine hy_retX (ou := (.inr (none), (M, Mr, Mo))) (n := 0) (k := 0) (hy_rS (T := (M, Mr, Mo)) (ou := (.inr (none), (M, Mr, Mo))) (As := [.int a2, .int 4]) (rest := []) (n := 0) hx hb hml hown hts hX hP hS hl (c_Hp_checkIndex hlt Mr Mo a2 4 M (res := .inr r6) hu4) m_Hp_checkIndex q_666 rfl rfl (Nat.le_of_ble_eq_true rfl) dX10_part_13 ⟨Nat.le_of_ble_eq_true rfl, Nat.le_of_ble_eq_true rfl⟩ ⟨Nat.zero_le _, Nat.zero_le _⟩) hS (fun k hk => by cases hk) (fun v hv H locs hP hS => ?_)
      cases hv
      refine lv_iload_n hx hb dX10_part_16 rfl (lv_at hl 3 rfl) ?_
      refine lv_iconst (v := 0) hx hb dX10_part_17 rfl ?_
      refine lv_iconst (v := 5) hx hb dX10_part_18 rfl ?_
      obtain ⟨u7, hu7⟩ : ∃ z, Hp_checkRange a3 0 5 M = z := ⟨_, rfl⟩
      rw [hu7] at h
      rcases u7 with k8 | r9
      all_goals try dsimp only at h
      · have er := (Option.some.inj h)
        refine hy_retX (ou := (.inl k8, (M, Mr, Mo))) (n := 1) (k := 0) (hy_rS (T := (M, Mr, Mo)) (ou := (.inl k8, (M, Mr, Mo))) (As := [.int a3, .int 0, .int 5]) (rest := []) (n := 1) hx hb hml hown hts hX hP hS hl (c_Hp_checkRange hlt Mr Mo a3 0 5 M (res := .inl k8) hu7) m_Hp_checkRange q_328 rfl rfl (Nat.le_of_ble_eq_true rfl) dX10_part_19 ⟨Nat.le_of_ble_eq_true rfl, Nat.le_of_ble_eq_true rfl⟩ ⟨by rw [← er]; exact Nat.le_of_ble_eq_true rfl, by rw [← er]; exact Nat.le_of_ble_eq_true rfl⟩) hS (fun k hk q ce H locs hP hS hce hcv hcl => ?_) (fun v hv => by cases hv)
        cases hk
        exact hy_out (T := (M, Mr, Mo)) ht hlocks hP hS (by rw [← er]; exact Nat.le_of_ble_eq_true rfl) (by rw [← er]; exact Nat.le_of_ble_eq_true rfl) (by rw [← er] <;> rfl) hce hcv hcl
      · refine hy_retX (ou := (.inr (none), (M, Mr, Mo))) (n := 0) (k := 0) (hy_rS (T := (M, Mr, Mo)) (ou := (.inr (none), (M, Mr, Mo))) (As := [.int a3, .int 0, .int 5]) (rest := []) (n := 0) hx hb hml hown hts hX hP hS hl (c_Hp_checkRange hlt Mr Mo a3 0 5 M (res := .inr r9) hu7) m_Hp_checkRange q_328 rfl rfl (Nat.le_of_ble_eq_true rfl) dX10_part_19 ⟨Nat.le_of_ble_eq_true rfl, Nat.le_of_ble_eq_true rfl⟩ ⟨Nat.zero_le _, Nat.zero_le _⟩) hS (fun k hk => by cases hk) (fun v hv H locs hP hS => ?_)
        cases hv
        refine lv_aload_n hx hb dX10_part_22 rfl (lv_at hl 0 rfl) ?_
        refine lv_iload_n hx hb dX10_part_23 rfl (lv_at hl 1 rfl) ?_
        refine lv_iload_n hx hb dX10_part_24 rfl (lv_at hl 2 rfl) ?_
        refine lv_iload_n hx hb dX10_part_25 rfl (lv_at hl 3 rfl) ?_
        obtain ⟨v10, hv10, h⟩ := hy_bind h
        refine hy_ret (hy_rV0 (T := (M, Mr, Mo)) (v := some (.int v10)) (T2 := (M, Mr, Mo)) (As := [.int a1, .int a2, .int a3]) (rest := []) (n := 0) hx hb hml hown hts hX hP hS hl (c_Hp_partProperty Mr Mo a1 a2 a3 M hv10) m_Hp_partProperty q_748 (hy_recv hX hP 0 9 (by decide) rfl rfl) rfl rfl (Nat.le_of_ble_eq_true rfl) dX10_part_26 ⟨Nat.le_of_ble_eq_true rfl, Nat.le_of_ble_eq_true rfl⟩ ⟨Nat.zero_le _, Nat.zero_le _⟩) hS (fun H locs hP hS => ?_)
        exact hy_iret (T := (M, Mr, Mo)) hx hb hr hlocks hP hS (Nat.zero_le _) (Nat.zero_le _) (by rw [← (Option.some.inj h)] <;> rfl) dX10_part_29
set_option maxHeartbeats 1000000 in
set_option maxRecDepth 100000 in
theorem c_Hp_headsOf {l : Launch} {G : hyG} (Mr Mo : hyM) (a1 : Int32) (a2 : Int32) (M : hyM) {res : Int32} (h : Hp_headsOf a1 a2 M = some res) : hyC l yX10_headsOf (.code yX10_headsOf cX10_headsOf 8 (some .int)) 4 90 (0) G [.ref (adr G 0), .int a1, .int a2] (M, Mr, Mo) (.inr (some (.int res)), (M, Mr, Mo)) := by
  refine hy_of (by decide +kernel) (Nat.le_of_ble_eq_true rfl) ?_
  intro p e s m below meth c hx hb hml hown hts hr hlocks ht hX hP hS ls hl
  have hl : lv_has ls 8 [(0, .ref (adr G 0)), (1, .int a1), (2, .int a2)] := hl
  rw [Hp_headsOf] at h
  refine lv_aload_n hx hb dX10_headsOf_0 rfl (lv_at hl 0 rfl) ?_
  refine hy_get (T := (M, Mr, Mo)) (o := 0) (k := 0) (v := .ref (adr G 1)) hx hb hown hts hX hP (by decide) rfl rfl inX10g (by decide) q_293 rfl dX10_headsOf_1 ?_
  refine lv_iload_n hx hb dX10_headsOf_4 rfl (lv_at hl 1 rfl) ?_
  refine lv_iconst (v := 2) hx hb dX10_headsOf_5 rfl ?_
  refine lv_iload_n hx hb dX10_headsOf_6 rfl (lv_at hl 2 rfl) ?_
  refine lv_imul hx hb dX10_headsOf_7 ?_
  refine hy_ret (hy_rVN (T := (M, Mr, Mo)) (v := some (.int (Tu_pitchOf a1 (2 * a2) M))) (T2 := (M, Mr, Mo)) (As := [.int a1, .int (2 * a2)]) (rest := []) (n := 0) hx hb hml hown hts hX hP hS hl (c_Tu_pitchOf Mr Mo a1 (2 * a2) M rfl) m_Tu_pitchOf q_752 (hy_recv hX hP 1 7 (by decide) rfl rfl) rfl rfl (Nat.le_of_ble_eq_true rfl) dX10_headsOf_8 ⟨Nat.le_of_ble_eq_true rfl, Nat.le_of_ble_eq_true rfl⟩ ⟨Nat.zero_le _, Nat.zero_le _⟩) hS (fun H locs hP hS => ?_)
  refine lv_istore_n (lv' := [(3, .int (Tu_pitchOf a1 (2 * a2) M)), (0, .ref (adr G 0)), (1, .int a1), (2, .int a2)]) hx hb dX10_headsOf_11 rfl hl (by decide) rfl (fun ls hl => ?_)
  refine lv_aload_n hx hb dX10_headsOf_12 rfl (lv_at hl 1 rfl) ?_
  refine hy_get (T := (M, Mr, Mo)) (o := 0) (k := 0) (v := .ref (adr G 1)) hx hb hown hts hX hP (by decide) rfl rfl inX10g (by decide) q_293 rfl dX10_headsOf_13 ?_
  refine lv_iload_n hx hb dX10_headsOf_16 rfl (lv_at hl 2 rfl) ?_
  refine lv_iconst (v := 2) hx hb dX10_headsOf_17 rfl ?_
  refine lv_iload_n hx hb dX10_headsOf_18 rfl (lv_at hl 3 rfl) ?_
  refine lv_imul hx hb dX10_headsOf_19 ?_
  refine lv_iconst (v := 1) hx hb dX10_headsOf_20 rfl ?_
  refine lv_iadd hx hb dX10_headsOf_21 ?_
  refine hy_ret (hy_rVN (T := (M, Mr, Mo)) (v := some (.int (Tu_pitchOf a1 ((2 * a2) + 1) M))) (T2 := (M, Mr, Mo)) (As := [.int a1, .int ((2 * a2) + 1)]) (rest := []) (n := 0) hx hb hml hown hts hX hP hS hl (c_Tu_pitchOf Mr Mo a1 ((2 * a2) + 1) M rfl) m_Tu_pitchOf q_752 (hy_recv hX hP 1 7 (by decide) rfl rfl) rfl rfl (Nat.le_of_ble_eq_true rfl) dX10_headsOf_22 ⟨Nat.le_of_ble_eq_true rfl, Nat.le_of_ble_eq_true rfl⟩ ⟨Nat.zero_le _, Nat.zero_le _⟩) hS (fun H locs hP hS => ?_)
  refine lv_istore (lv' := [(4, .int (Tu_pitchOf a1 ((2 * a2) + 1) M)), (3, .int (Tu_pitchOf a1 (2 * a2) M)), (0, .ref (adr G 0)), (1, .int a1), (2, .int a2)]) hx hb dX10_headsOf_25 hl (by decide) rfl (fun ls hl => ?_)
  refine lv_aload_n hx hb dX10_headsOf_27 rfl (lv_at hl 2 rfl) ?_
  refine hy_get (T := (M, Mr, Mo)) (o := 0) (k := 0) (v := .ref (adr G 1)) hx hb hown hts hX hP (by decide) rfl rfl inX10g (by decide) q_293 rfl dX10_headsOf_28 ?_
  refine hy_getN (T := (M, Mr, Mo)) (o := 1) (k := 5) (v := .int (M.1 1 5)) hx hb hown hts hX hP (by decide) rfl rfl inX8g (by decide) q_128 rfl dX10_headsOf_31 ?_
  refine lv_iload_n hx hb dX10_headsOf_34 rfl (lv_at hl 1 rfl) ?_
  obtain ⟨v1, hv1, h⟩ := hy_bind h
  refine hy_ret (hy_rSN (T := (M, Mr, Mo)) (v := some (.int v1)) (T2 := (M, Mr, Mo)) (As := [.int (M.1 1 5), .int (Tu_pitchOf a1 (2 * a2) M)]) (rest := []) (n := 0) hx hb hml hown hts hX hP hS hl (c_Ke_stepOf Mr Mo (M.1 1 5) (Tu_pitchOf a1 (2 * a2) M) M hv1) m_Ke_stepOf q_766 rfl rfl (Nat.le_of_ble_eq_true rfl) dX10_headsOf_35 ⟨Nat.le_of_ble_eq_true rfl, Nat.le_of_ble_eq_true rfl⟩ ⟨Nat.zero_le _, Nat.zero_le _⟩) hS (fun H locs hP hS => ?_)
  refine lv_aload_n hx hb dX10_headsOf_38 rfl (lv_at hl 2 rfl) ?_
  refine hy_get (T := (M, Mr, Mo)) (o := 0) (k := 0) (v := .ref (adr G 1)) hx hb hown hts hX hP (by decide) rfl rfl inX10g (by decide) q_293 rfl dX10_headsOf_39 ?_
  refine hy_getN (T := (M, Mr, Mo)) (o := 1) (k := 5) (v := .int (M.1 1 5)) hx hb hown hts hX hP (by decide) rfl rfl inX8g (by decide) q_128 rfl dX10_headsOf_42 ?_
  refine lv_iload hx hb dX10_headsOf_45 (lv_at hl 0 rfl) ?_
  obtain ⟨v2, hv2, h⟩ := hy_bind h
  refine hy_ret (hy_rSN (T := (M, Mr, Mo)) (v := some (.int v2)) (T2 := (M, Mr, Mo)) (As := [.int (M.1 1 5), .int (Tu_pitchOf a1 ((2 * a2) + 1) M)]) (rest := [.int v1]) (n := 0) hx hb hml hown hts hX hP hS hl (c_Ke_stepOf Mr Mo (M.1 1 5) (Tu_pitchOf a1 ((2 * a2) + 1) M) M hv2) m_Ke_stepOf q_766 rfl rfl (Nat.le_of_ble_eq_true rfl) dX10_headsOf_47 ⟨Nat.le_of_ble_eq_true rfl, Nat.le_of_ble_eq_true rfl⟩ ⟨Nat.zero_le _, Nat.zero_le _⟩) hS (fun H locs hP hS => ?_)
  refine lv_isub hx hb dX10_headsOf_50 ?_
  refine lv_istore (lv' := [(5, .int (v1 - v2)), (4, .int (Tu_pitchOf a1 ((2 * a2) + 1) M)), (3, .int (Tu_pitchOf a1 (2 * a2) M)), (0, .ref (adr G 0)), (1, .int a1), (2, .int a2)]) hx hb dX10_headsOf_51 hl (by decide) rfl (fun ls hl => ?_)
  refine lv_iload_n hx hb dX10_headsOf_53 rfl (lv_at hl 2 rfl) ?_
  refine lv_iload hx hb dX10_headsOf_54 (lv_at hl 1 rfl) ?_
  have J9 : ∀ (H : Heap) (locs : List Loc) (ls : Array Slot) (u1 : Int32), u1 = (bI (decide ((Tu_pitchOf a1 (2 * a2) M) = (Tu_pitchOf a1 ((2 * a2) + 1) M)))) → va_P G.1 vwCl (wld G (M, Mr, Mo)) H → va_S (hyA G) s.heap H locs → lv_has ls 8 [(0, .ref (adr G 0)), (1, .int a1), (2, .int a2), (3, .int (Tu_pitchOf a1 (2 * a2) M)), (4, .int (Tu_pitchOf a1 ((2 * a2) + 1) M)), (5, .int (v1 - v2))] → W p l e { frames := 4, cells := 0, slots := 6 * 0, locals := 90 } s m ([.ref (adr G 0), .int a1, .int a2] : List Value).toArray below meth c H locs 0 0 (vx_MQ below (hyQ G (.inr (some (.int res)), (M, Mr, Mo))) (hyXQ G (.inr (some (.int res)), (M, Mr, Mo))) ([.ref (adr G 0), .int a1, .int a2] : List Value).toArray s 0 (6 * 0) (hyA G)) (F0 m 64 ls [.int u1]) := by
    intro H locs ls u1 eu1 hP hS hl
    subst eu1
    refine lv_istore (lv' := [(6, .int (bI (decide ((Tu_pitchOf a1 (2 * a2) M) = (Tu_pitchOf a1 ((2 * a2) + 1) M))))), (0, .ref (adr G 0)), (1, .int a1), (2, .int a2), (3, .int (Tu_pitchOf a1 (2 * a2) M)), (4, .int (Tu_pitchOf a1 ((2 * a2) + 1) M)), (5, .int (v1 - v2))]) hx hb dX10_headsOf_64 hl (by decide) rfl (fun ls hl => ?_)
    refine lv_iload hx hb dX10_headsOf_66 (lv_at hl 0 rfl) ?_
    have J8 : ∀ (H : Heap) (locs : List Loc) (ls : Array Slot) (u1 : Int32), u1 = (bI (if (decide ((Tu_pitchOf a1 (2 * a2) M) = (Tu_pitchOf a1 ((2 * a2) + 1) M))) then false else (!decide (1 < (jabs (v1 - v2)))))) → va_P G.1 vwCl (wld G (M, Mr, Mo)) H → va_S (hyA G) s.heap H locs → lv_has ls 8 [(0, .ref (adr G 0)), (1, .int a1), (2, .int a2), (3, .int (Tu_pitchOf a1 (2 * a2) M)), (4, .int (Tu_pitchOf a1 ((2 * a2) + 1) M)), (5, .int (v1 - v2)), (6, .int (bI (decide ((Tu_pitchOf a1 (2 * a2) M) = (Tu_pitchOf a1 ((2 * a2) + 1) M)))))] → W p l e { frames := 4, cells := 0, slots := 6 * 0, locals := 90 } s m ([.ref (adr G 0), .int a1, .int a2] : List Value).toArray below meth c H locs 0 0 (vx_MQ below (hyQ G (.inr (some (.int res)), (M, Mr, Mo))) (hyXQ G (.inr (some (.int res)), (M, Mr, Mo))) ([.ref (adr G 0), .int a1, .int a2] : List Value).toArray s 0 (6 * 0) (hyA G)) (F0 m 85 ls [.int u1]) := by
      intro H locs ls u1 eu1 hP hS hl
      subst eu1
      refine lv_istore (lv' := [(7, .int (bI (if (decide ((Tu_pitchOf a1 (2 * a2) M) = (Tu_pitchOf a1 ((2 * a2) + 1) M))) then false else (!decide (1 < (jabs (v1 - v2))))))), (0, .ref (adr G 0)), (1, .int a1), (2, .int a2), (3, .int (Tu_pitchOf a1 (2 * a2) M)), (4, .int (Tu_pitchOf a1 ((2 * a2) + 1) M)), (5, .int (v1 - v2)), (6, .int (bI (decide ((Tu_pitchOf a1 (2 * a2) M) = (Tu_pitchOf a1 ((2 * a2) + 1) M)))))]) hx hb dX10_headsOf_85 hl (by decide) rfl (fun ls hl => ?_)
      refine lv_iload hx hb dX10_headsOf_87 (lv_at hl 7 rfl) ?_
      refine hy_ret (hy_rS0 (T := (M, Mr, Mo)) (v := some (.int (Hp_flag (decide ((Tu_pitchOf a1 (2 * a2) M) = (Tu_pitchOf a1 ((2 * a2) + 1) M))) M))) (T2 := (M, Mr, Mo)) (As := [.int (bI (decide ((Tu_pitchOf a1 (2 * a2) M) = (Tu_pitchOf a1 ((2 * a2) + 1) M))))]) (rest := []) (n := 0) hx hb hml hown hts hX hP hS hl (c_Hp_flag Mr Mo (decide ((Tu_pitchOf a1 (2 * a2) M) = (Tu_pitchOf a1 ((2 * a2) + 1) M))) M rfl) m_Hp_flag q_603 rfl rfl (Nat.le_of_ble_eq_true rfl) dX10_headsOf_89 ⟨Nat.le_of_ble_eq_true rfl, Nat.le_of_ble_eq_true rfl⟩ ⟨Nat.zero_le _, Nat.zero_le _⟩) hS (fun H locs hP hS => ?_)
      refine lv_iconst (v := 2) hx hb dX10_headsOf_92 rfl ?_
      refine lv_iload hx hb dX10_headsOf_93 (lv_at hl 0 rfl) ?_
      refine hy_ret (hy_rS0 (T := (M, Mr, Mo)) (v := some (.int (Hp_flag (if (decide ((Tu_pitchOf a1 (2 * a2) M) = (Tu_pitchOf a1 ((2 * a2) + 1) M))) then false else (!decide (1 < (jabs (v1 - v2))))) M))) (T2 := (M, Mr, Mo)) (As := [.int (bI (if (decide ((Tu_pitchOf a1 (2 * a2) M) = (Tu_pitchOf a1 ((2 * a2) + 1) M))) then false else (!decide (1 < (jabs (v1 - v2))))))]) (rest := [.int 2, .int (Hp_flag (decide ((Tu_pitchOf a1 (2 * a2) M) = (Tu_pitchOf a1 ((2 * a2) + 1) M))) M)]) (n := 0) hx hb hml hown hts hX hP hS hl (c_Hp_flag Mr Mo (if (decide ((Tu_pitchOf a1 (2 * a2) M) = (Tu_pitchOf a1 ((2 * a2) + 1) M))) then false else (!decide (1 < (jabs (v1 - v2))))) M rfl) m_Hp_flag q_603 rfl rfl (Nat.le_of_ble_eq_true rfl) dX10_headsOf_95 ⟨Nat.le_of_ble_eq_true rfl, Nat.le_of_ble_eq_true rfl⟩ ⟨Nat.zero_le _, Nat.zero_le _⟩) hS (fun H locs hP hS => ?_)
      refine lv_imul hx hb dX10_headsOf_98 ?_
      refine lv_iadd hx hb dX10_headsOf_99 ?_
      refine lv_iconst (v := 4) hx hb dX10_headsOf_100 rfl ?_
      refine lv_iload hx hb dX10_headsOf_101 (lv_at hl 5 rfl) ?_
      refine lv_iload_n hx hb dX10_headsOf_103 rfl (lv_at hl 4 rfl) ?_
      have J7 : ∀ (H : Heap) (locs : List Loc) (ls : Array Slot) (u1 : Int32), u1 = (bI (!decide ((Tu_pitchOf a1 ((2 * a2) + 1) M) ≤ (Tu_pitchOf a1 (2 * a2) M)))) → va_P G.1 vwCl (wld G (M, Mr, Mo)) H → va_S (hyA G) s.heap H locs → lv_has ls 8 [(0, .ref (adr G 0)), (1, .int a1), (2, .int a2), (3, .int (Tu_pitchOf a1 (2 * a2) M)), (4, .int (Tu_pitchOf a1 ((2 * a2) + 1) M)), (5, .int (v1 - v2)), (6, .int (bI (decide ((Tu_pitchOf a1 (2 * a2) M) = (Tu_pitchOf a1 ((2 * a2) + 1) M))))), (7, .int (bI (if (decide ((Tu_pitchOf a1 (2 * a2) M) = (Tu_pitchOf a1 ((2 * a2) + 1) M))) then false else (!decide (1 < (jabs (v1 - v2)))))))] → W p l e { frames := 4, cells := 0, slots := 6 * 0, locals := 90 } s m ([.ref (adr G 0), .int a1, .int a2] : List Value).toArray below meth c H locs 0 0 (vx_MQ below (hyQ G (.inr (some (.int res)), (M, Mr, Mo))) (hyXQ G (.inr (some (.int res)), (M, Mr, Mo))) ([.ref (adr G 0), .int a1, .int a2] : List Value).toArray s 0 (6 * 0) (hyA G)) (F0 m 112 ls [.int u1, .int 4, .int ((Hp_flag (decide ((Tu_pitchOf a1 (2 * a2) M) = (Tu_pitchOf a1 ((2 * a2) + 1) M))) M) + (2 * (Hp_flag (if (decide ((Tu_pitchOf a1 (2 * a2) M) = (Tu_pitchOf a1 ((2 * a2) + 1) M))) then false else (!decide (1 < (jabs (v1 - v2))))) M)))]) := by
        intro H locs ls u1 eu1 hP hS hl
        subst eu1
        refine hy_ret (hy_rS0 (T := (M, Mr, Mo)) (v := some (.int (Hp_flag (!decide ((Tu_pitchOf a1 ((2 * a2) + 1) M) ≤ (Tu_pitchOf a1 (2 * a2) M))) M))) (T2 := (M, Mr, Mo)) (As := [.int (bI (!decide ((Tu_pitchOf a1 ((2 * a2) + 1) M) ≤ (Tu_pitchOf a1 (2 * a2) M))))]) (rest := [.int 4, .int ((Hp_flag (decide ((Tu_pitchOf a1 (2 * a2) M) = (Tu_pitchOf a1 ((2 * a2) + 1) M))) M) + (2 * (Hp_flag (if (decide ((Tu_pitchOf a1 (2 * a2) M) = (Tu_pitchOf a1 ((2 * a2) + 1) M))) then false else (!decide (1 < (jabs (v1 - v2))))) M)))]) (n := 0) hx hb hml hown hts hX hP hS hl (c_Hp_flag Mr Mo (!decide ((Tu_pitchOf a1 ((2 * a2) + 1) M) ≤ (Tu_pitchOf a1 (2 * a2) M))) M rfl) m_Hp_flag q_603 rfl rfl (Nat.le_of_ble_eq_true rfl) dX10_headsOf_112 ⟨Nat.le_of_ble_eq_true rfl, Nat.le_of_ble_eq_true rfl⟩ ⟨Nat.zero_le _, Nat.zero_le _⟩) hS (fun H locs hP hS => ?_)
        refine lv_imul hx hb dX10_headsOf_115 ?_
        refine lv_iadd hx hb dX10_headsOf_116 ?_
        exact hy_iret (T := (M, Mr, Mo)) hx hb hr hlocks hP hS (Nat.zero_le _) (Nat.zero_le _) (by rw [← (Option.some.inj h)] <;> rfl) dX10_headsOf_117
      refine lv_icmp_le (tgt := 111) hx hb dX10_headsOf_104 (by decide) (fun c6 => ?_) (fun c6 => ?_)
      · refine lv_iconst (v := 0) hx hb dX10_headsOf_111 rfl ?_
        exact J7 _ _ ls 0 (by rw [decide_eq_true c6] <;> rfl) hP hS (lv_sub hl [1, 2, 3, 4, 5, 6, 7, 0] rfl)
      · refine lv_iconst (v := 1) hx hb dX10_headsOf_107 rfl ?_
        refine lv_goto (tgt := 112) hx hb dX10_headsOf_108 (by decide) ?_
        exact J7 _ _ ls 1 (by rw [decide_eq_false c6] <;> rfl) hP hS (lv_sub hl [1, 2, 3, 4, 5, 6, 7, 0] rfl)
    refine lv_if_ne (tgt := 84) hx hb dX10_headsOf_68 (by decide) (fun c4 => ?_) (fun c4 => ?_)
    · refine lv_iconst (v := 0) hx hb dX10_headsOf_84 rfl ?_
      exact J8 _ _ ls 0 (by rw [if_pos (bI_1 c4)] <;> rfl) hP hS (lv_sub hl [1, 2, 3, 4, 5, 6, 0] rfl)
    · refine lv_iload hx hb dX10_headsOf_71 (lv_at hl 6 rfl) ?_
      refine va_mabs hx hb (hml.trans hl.1.symm) hown (hts _ q_575) (hts _ q_576) (hts _ q_98) (hts _ q_577) (by decide) (Nat.le_of_ble_eq_true rfl) (Nat.zero_le _) (Nat.zero_le _) dX10_headsOf_73 ?_
      refine W.eq (g2 := F0 m 76 ls (.int (jabs (v1 - v2)) :: _)) rfl ?_
      refine lv_iconst (v := 1) hx hb dX10_headsOf_76 rfl ?_
      refine lv_icmp_gt (tgt := 84) hx hb dX10_headsOf_77 (by decide) (fun c5 => ?_) (fun c5 => ?_)
      · refine lv_iconst (v := 0) hx hb dX10_headsOf_84 rfl ?_
        exact J8 _ _ ls 0 (by rw [if_neg (bI_0 c4), decide_eq_true c5] <;> rfl) hP hS (lv_sub hl [1, 2, 3, 4, 5, 6, 0] rfl)
      · refine lv_iconst (v := 1) hx hb dX10_headsOf_80 rfl ?_
        refine lv_goto (tgt := 85) hx hb dX10_headsOf_81 (by decide) ?_
        exact J8 _ _ ls 1 (by rw [if_neg (bI_0 c4), decide_eq_false c5] <;> rfl) hP hS (lv_sub hl [1, 2, 3, 4, 5, 6, 0] rfl)
  refine lv_icmp_ne (tgt := 63) hx hb dX10_headsOf_56 (by decide) (fun c3 => ?_) (fun c3 => ?_)
  · refine lv_iconst (v := 0) hx hb dX10_headsOf_63 rfl ?_
    exact J9 _ _ ls 0 (by rw [decide_eq_false c3] <;> rfl) hP hS (lv_sub hl [3, 4, 5, 2, 1, 0] rfl)
  · refine lv_iconst (v := 1) hx hb dX10_headsOf_59 rfl ?_
    refine lv_goto (tgt := 64) hx hb dX10_headsOf_60 (by decide) ?_
    exact J9 _ _ ls 1 (by rw [decide_eq_true c3] <;> rfl) hP hS (lv_sub hl [3, 4, 5, 2, 1, 0] rfl)
set_option maxHeartbeats 1000000 in
set_option maxRecDepth 100000 in
theorem c_Hp_heads {l : Launch} {G : hyG} (hlt : l.stackTraces = false) (Mr Mo : hyM) (a1 : Int32) (a2 : Int32) (M : hyM) {res : (Nat ⊕ Int32)} (h : Hp_heads a1 a2 M = some res) : hyC l yX10_heads (.code yX10_heads cX10_heads 3 (some .int)) 7 117 (hyNo res) G [.ref (adr G 0), .int a1, .int a2] (M, Mr, Mo) (hyoI res, (M, Mr, Mo)) := by
  refine hy_of (by decide +kernel) (Nat.le_of_ble_eq_true rfl) ?_
  intro p e s m below meth c hx hb hml hown hts hr hlocks ht hX hP hS ls hl
  have hl : lv_has ls 3 [(0, .ref (adr G 0)), (1, .int a1), (2, .int a2)] := hl
  rw [Hp_heads] at h
  refine lv_iload_n hx hb dX10_heads_0 rfl (lv_at hl 1 rfl) ?_
  refine lv_aload_n hx hb dX10_heads_1 rfl (lv_at hl 0 rfl) ?_
  refine hy_get (T := (M, Mr, Mo)) (o := 0) (k := 0) (v := .ref (adr G 1)) hx hb hown hts hX hP (by decide) rfl rfl inX10g (by decide) q_293 rfl dX10_heads_2 ?_
  refine hy_getN (T := (M, Mr, Mo)) (o := 1) (k := 4) (v := .int (M.1 1 4)) hx hb hown hts hX hP (by decide) rfl rfl inX8g (by decide) q_125 rfl dX10_heads_5 ?_
  obtain ⟨u1, hu1⟩ : ∃ z, Hp_checkIndex a1 (M.1 1 4) M = z := ⟨_, rfl⟩
  rw [hu1] at h
  rcases u1 with k2 | r3
  all_goals try dsimp only at h
  · have er := (Option.some.inj h)
    refine hy_retX (ou := (.inl k2, (M, Mr, Mo))) (n := 1) (k := 0) (hy_rS (T := (M, Mr, Mo)) (ou := (.inl k2, (M, Mr, Mo))) (As := [.int a1, .int (M.1 1 4)]) (rest := []) (n := 1) hx hb hml hown hts hX hP hS hl (c_Hp_checkIndex hlt Mr Mo a1 (M.1 1 4) M (res := .inl k2) hu1) m_Hp_checkIndex q_666 rfl rfl (Nat.le_of_ble_eq_true rfl) dX10_heads_8 ⟨Nat.le_of_ble_eq_true rfl, Nat.le_of_ble_eq_true rfl⟩ ⟨by rw [← er]; exact Nat.le_of_ble_eq_true rfl, by rw [← er]; exact Nat.le_of_ble_eq_true rfl⟩) hS (fun k hk q ce H locs hP hS hce hcv hcl => ?_) (fun v hv => by cases hv)
    cases hk
    exact hy_out (T := (M, Mr, Mo)) ht hlocks hP hS (by rw [← er]; exact Nat.le_of_ble_eq_true rfl) (by rw [← er]; exact Nat.le_of_ble_eq_true rfl) (by rw [← er] <;> rfl) hce hcv hcl
  · refine hy_retX (ou := (.inr (none), (M, Mr, Mo))) (n := 0) (k := 0) (hy_rS (T := (M, Mr, Mo)) (ou := (.inr (none), (M, Mr, Mo))) (As := [.int a1, .int (M.1 1 4)]) (rest := []) (n := 0) hx hb hml hown hts hX hP hS hl (c_Hp_checkIndex hlt Mr Mo a1 (M.1 1 4) M (res := .inr r3) hu1) m_Hp_checkIndex q_666 rfl rfl (Nat.le_of_ble_eq_true rfl) dX10_heads_8 ⟨Nat.le_of_ble_eq_true rfl, Nat.le_of_ble_eq_true rfl⟩ ⟨Nat.zero_le _, Nat.zero_le _⟩) hS (fun k hk => by cases hk) (fun v hv H locs hP hS => ?_)
    cases hv
    refine lv_iload_n hx hb dX10_heads_11 rfl (lv_at hl 2 rfl) ?_
    refine lv_iconst (v := 2) hx hb dX10_heads_12 rfl ?_
    obtain ⟨u4, hu4⟩ : ∃ z, Hp_checkIndex a2 2 M = z := ⟨_, rfl⟩
    rw [hu4] at h
    rcases u4 with k5 | r6
    all_goals try dsimp only at h
    · have er := (Option.some.inj h)
      refine hy_retX (ou := (.inl k5, (M, Mr, Mo))) (n := 1) (k := 0) (hy_rS (T := (M, Mr, Mo)) (ou := (.inl k5, (M, Mr, Mo))) (As := [.int a2, .int 2]) (rest := []) (n := 1) hx hb hml hown hts hX hP hS hl (c_Hp_checkIndex hlt Mr Mo a2 2 M (res := .inl k5) hu4) m_Hp_checkIndex q_666 rfl rfl (Nat.le_of_ble_eq_true rfl) dX10_heads_13 ⟨Nat.le_of_ble_eq_true rfl, Nat.le_of_ble_eq_true rfl⟩ ⟨by rw [← er]; exact Nat.le_of_ble_eq_true rfl, by rw [← er]; exact Nat.le_of_ble_eq_true rfl⟩) hS (fun k hk q ce H locs hP hS hce hcv hcl => ?_) (fun v hv => by cases hv)
      cases hk
      exact hy_out (T := (M, Mr, Mo)) ht hlocks hP hS (by rw [← er]; exact Nat.le_of_ble_eq_true rfl) (by rw [← er]; exact Nat.le_of_ble_eq_true rfl) (by rw [← er] <;> rfl) hce hcv hcl
    · refine hy_retX (ou := (.inr (none), (M, Mr, Mo))) (n := 0) (k := 0) (hy_rS (T := (M, Mr, Mo)) (ou := (.inr (none), (M, Mr, Mo))) (As := [.int a2, .int 2]) (rest := []) (n := 0) hx hb hml hown hts hX hP hS hl (c_Hp_checkIndex hlt Mr Mo a2 2 M (res := .inr r6) hu4) m_Hp_checkIndex q_666 rfl rfl (Nat.le_of_ble_eq_true rfl) dX10_heads_13 ⟨Nat.le_of_ble_eq_true rfl, Nat.le_of_ble_eq_true rfl⟩ ⟨Nat.zero_le _, Nat.zero_le _⟩) hS (fun k hk => by cases hk) (fun v hv H locs hP hS => ?_)
      cases hv
      refine lv_aload_n hx hb dX10_heads_16 rfl (lv_at hl 0 rfl) ?_
      refine lv_iload_n hx hb dX10_heads_17 rfl (lv_at hl 1 rfl) ?_
      refine lv_iload_n hx hb dX10_heads_18 rfl (lv_at hl 2 rfl) ?_
      obtain ⟨v7, hv7, h⟩ := hy_bind h
      refine hy_ret (hy_rV0 (T := (M, Mr, Mo)) (v := some (.int v7)) (T2 := (M, Mr, Mo)) (As := [.int a1, .int a2]) (rest := []) (n := 0) hx hb hml hown hts hX hP hS hl (c_Hp_headsOf Mr Mo a1 a2 M hv7) m_Hp_headsOf q_792 (hy_recv hX hP 0 9 (by decide) rfl rfl) rfl rfl (Nat.le_of_ble_eq_true rfl) dX10_heads_19 ⟨Nat.le_of_ble_eq_true rfl, Nat.le_of_ble_eq_true rfl⟩ ⟨Nat.zero_le _, Nat.zero_le _⟩) hS (fun H locs hP hS => ?_)
      exact hy_iret (T := (M, Mr, Mo)) hx hb hr hlocks hP hS (Nat.zero_le _) (Nat.zero_le _) (by rw [← (Option.some.inj h)] <;> rfl) dX10_heads_22
set_option maxHeartbeats 1000000 in
set_option maxRecDepth 100000 in
theorem c_Hp_phraseProperty {l : Launch} {G : hyG} (Mr Mo : hyM) (a1 : Int32) (a2 : Int32) (M : hyM) {res : Int32} (h : Hp_phraseProperty a1 a2 M = res) : hyC l yX10_phraseProperty (.code yX10_phraseProperty cX10_phraseProperty 3 (some .int)) 2 42 (0) G [.ref (adr G 0), .int a1, .int a2] (M, Mr, Mo) (.inr (some (.int res)), (M, Mr, Mo)) := by
  refine hy_of (by decide +kernel) (Nat.le_of_ble_eq_true rfl) ?_
  intro p e s m below meth c hx hb hml hown hts hr hlocks ht hX hP hS ls hl
  have hl : lv_has ls 3 [(0, .ref (adr G 0)), (1, .int a1), (2, .int a2)] := hl
  rw [Hp_phraseProperty] at h
  refine lv_iload_n hx hb dX10_phraseProperty_0 rfl (lv_at hl 2 rfl) ?_
  by_cases c1 : a2 = 0
  · rw [if_pos c1] at h
    refine lv_tableIn (tgt := 36) (off := 35) hx hb dX10_phraseProperty_1 (by rw [c1]; decide) (by rw [c1]; decide) (by rw [c1]; rfl) (by decide) ?_
    refine lv_aload_n hx hb dX10_phraseProperty_36 rfl (lv_at hl 0 rfl) ?_
    refine hy_get (T := (M, Mr, Mo)) (o := 0) (k := 4) (v := .ref (adr G 12)) hx hb hown hts hX hP (by decide) rfl rfl inX10g (by decide) q_297 rfl dX10_phraseProperty_37 ?_
    refine lv_iload_n hx hb dX10_phraseProperty_40 rfl (lv_at hl 1 rfl) ?_
    refine hy_ret (hy_rVN (T := (M, Mr, Mo)) (v := some (.int (Ph_firstOf a1 M))) (T2 := (M, Mr, Mo)) (As := [.int a1]) (rest := []) (n := 0) hx hb hml hown hts hX hP hS hl (c_Ph_firstOf Mr Mo a1 M rfl) m_Ph_firstOf q_695 (hy_recv hX hP 12 5 (by decide) rfl rfl) rfl rfl (Nat.le_of_ble_eq_true rfl) dX10_phraseProperty_41 ⟨Nat.le_of_ble_eq_true rfl, Nat.le_of_ble_eq_true rfl⟩ ⟨Nat.zero_le _, Nat.zero_le _⟩) hS (fun H locs hP hS => ?_)
    exact hy_iret (T := (M, Mr, Mo)) hx hb hr hlocks hP hS (Nat.zero_le _) (Nat.zero_le _) (by rw [← h] <;> rfl) dX10_phraseProperty_44
  · rw [if_neg c1] at h
    by_cases c2 : a2 = 1
    · rw [if_pos c2] at h
      refine lv_tableIn (tgt := 45) (off := 44) hx hb dX10_phraseProperty_1 (by rw [c2]; decide) (by rw [c2]; decide) (by rw [c2]; rfl) (by decide) ?_
      refine lv_aload_n hx hb dX10_phraseProperty_45 rfl (lv_at hl 0 rfl) ?_
      refine hy_get (T := (M, Mr, Mo)) (o := 0) (k := 4) (v := .ref (adr G 12)) hx hb hown hts hX hP (by decide) rfl rfl inX10g (by decide) q_297 rfl dX10_phraseProperty_46 ?_
      refine lv_iload_n hx hb dX10_phraseProperty_49 rfl (lv_at hl 1 rfl) ?_
      refine hy_ret (hy_rVN (T := (M, Mr, Mo)) (v := some (.int (Ph_lastOf a1 M))) (T2 := (M, Mr, Mo)) (As := [.int a1]) (rest := []) (n := 0) hx hb hml hown hts hX hP hS hl (c_Ph_lastOf Mr Mo a1 M rfl) m_Ph_lastOf q_810 (hy_recv hX hP 12 5 (by decide) rfl rfl) rfl rfl (Nat.le_of_ble_eq_true rfl) dX10_phraseProperty_50 ⟨Nat.le_of_ble_eq_true rfl, Nat.le_of_ble_eq_true rfl⟩ ⟨Nat.zero_le _, Nat.zero_le _⟩) hS (fun H locs hP hS => ?_)
      exact hy_iret (T := (M, Mr, Mo)) hx hb hr hlocks hP hS (Nat.zero_le _) (Nat.zero_le _) (by rw [← h] <;> rfl) dX10_phraseProperty_53
    · rw [if_neg c2] at h
      by_cases c3 : a2 = 2
      · rw [if_pos c3] at h
        refine lv_tableIn (tgt := 54) (off := 53) hx hb dX10_phraseProperty_1 (by rw [c3]; decide) (by rw [c3]; decide) (by rw [c3]; rfl) (by decide) ?_
        refine lv_aload_n hx hb dX10_phraseProperty_54 rfl (lv_at hl 0 rfl) ?_
        refine hy_get (T := (M, Mr, Mo)) (o := 0) (k := 4) (v := .ref (adr G 12)) hx hb hown hts hX hP (by decide) rfl rfl inX10g (by decide) q_297 rfl dX10_phraseProperty_55 ?_
        refine lv_iload_n hx hb dX10_phraseProperty_58 rfl (lv_at hl 1 rfl) ?_
        refine hy_ret (hy_rVN (T := (M, Mr, Mo)) (v := some (.int (Ph_syllablesOf a1 M))) (T2 := (M, Mr, Mo)) (As := [.int a1]) (rest := []) (n := 0) hx hb hml hown hts hX hP hS hl (c_Ph_syllablesOf Mr Mo a1 M rfl) m_Ph_syllablesOf q_574 (hy_recv hX hP 12 5 (by decide) rfl rfl) rfl rfl (Nat.le_of_ble_eq_true rfl) dX10_phraseProperty_59 ⟨Nat.le_of_ble_eq_true rfl, Nat.le_of_ble_eq_true rfl⟩ ⟨Nat.zero_le _, Nat.zero_le _⟩) hS (fun H locs hP hS => ?_)
        exact hy_iret (T := (M, Mr, Mo)) hx hb hr hlocks hP hS (Nat.zero_le _) (Nat.zero_le _) (by rw [← h] <;> rfl) dX10_phraseProperty_62
      · rw [if_neg c3] at h
        by_cases c4 : a2 = 3
        · rw [if_pos c4] at h
          refine lv_tableIn (tgt := 63) (off := 62) hx hb dX10_phraseProperty_1 (by rw [c4]; decide) (by rw [c4]; decide) (by rw [c4]; rfl) (by decide) ?_
          refine lv_aload_n hx hb dX10_phraseProperty_63 rfl (lv_at hl 0 rfl) ?_
          refine hy_get (T := (M, Mr, Mo)) (o := 0) (k := 6) (v := .ref (adr G 21)) hx hb hown hts hX hP (by decide) rfl rfl inX10g (by decide) q_299 rfl dX10_phraseProperty_64 ?_
          refine lv_iload_n hx hb dX10_phraseProperty_67 rfl (lv_at hl 1 rfl) ?_
          refine hy_ret (hy_rVN (T := (M, Mr, Mo)) (v := some (.int (Co_widthOfPhrase a1 M))) (T2 := (M, Mr, Mo)) (As := [.int a1]) (rest := []) (n := 0) hx hb hml hown hts hX hP hS hl (c_Co_widthOfPhrase Mr Mo a1 M rfl) m_Co_widthOfPhrase q_811 (hy_recv hX hP 21 2 (by decide) rfl rfl) rfl rfl (Nat.le_of_ble_eq_true rfl) dX10_phraseProperty_68 ⟨Nat.le_of_ble_eq_true rfl, Nat.le_of_ble_eq_true rfl⟩ ⟨Nat.zero_le _, Nat.zero_le _⟩) hS (fun H locs hP hS => ?_)
          exact hy_iret (T := (M, Mr, Mo)) hx hb hr hlocks hP hS (Nat.zero_le _) (Nat.zero_le _) (by rw [← h] <;> rfl) dX10_phraseProperty_71
        · rw [if_neg c4] at h
          by_cases c5 : a2 = 4
          · rw [if_pos c5] at h
            refine lv_tableIn (tgt := 72) (off := 71) hx hb dX10_phraseProperty_1 (by rw [c5]; decide) (by rw [c5]; decide) (by rw [c5]; rfl) (by decide) ?_
            refine lv_aload_n hx hb dX10_phraseProperty_72 rfl (lv_at hl 0 rfl) ?_
            refine hy_get (T := (M, Mr, Mo)) (o := 0) (k := 6) (v := .ref (adr G 21)) hx hb hown hts hX hP (by decide) rfl rfl inX10g (by decide) q_299 rfl dX10_phraseProperty_73 ?_
            refine lv_iload_n hx hb dX10_phraseProperty_76 rfl (lv_at hl 1 rfl) ?_
            refine hy_ret (hy_rVN (T := (M, Mr, Mo)) (v := some (.int (Co_systemOf a1 M))) (T2 := (M, Mr, Mo)) (As := [.int a1]) (rest := []) (n := 0) hx hb hml hown hts hX hP hS hl (c_Co_systemOf Mr Mo a1 M rfl) m_Co_systemOf q_815 (hy_recv hX hP 21 2 (by decide) rfl rfl) rfl rfl (Nat.le_of_ble_eq_true rfl) dX10_phraseProperty_77 ⟨Nat.le_of_ble_eq_true rfl, Nat.le_of_ble_eq_true rfl⟩ ⟨Nat.zero_le _, Nat.zero_le _⟩) hS (fun H locs hP hS => ?_)
            exact hy_iret (T := (M, Mr, Mo)) hx hb hr hlocks hP hS (Nat.zero_le _) (Nat.zero_le _) (by rw [← h] <;> rfl) dX10_phraseProperty_80
          · rw [if_neg c5] at h
            refine lv_tableOut (tgt := 81) hx hb dX10_phraseProperty_1 (hy_tabOut 0 a2 5 (fun k hk => by match k, hk with | 0, _ => exact c1 | 1, _ => exact c2 | 2, _ => exact c3 | 3, _ => exact c4 | 4, _ => exact c5 | k9 + 5, hk => exact absurd hk (by omega))) (by decide) ?_
            refine lv_aload_n hx hb dX10_phraseProperty_81 rfl (lv_at hl 0 rfl) ?_
            refine hy_get (T := (M, Mr, Mo)) (o := 0) (k := 5) (v := .ref (adr G 18)) hx hb hown hts hX hP (by decide) rfl rfl inX10g (by decide) q_298 rfl dX10_phraseProperty_82 ?_
            refine lv_iload_n hx hb dX10_phraseProperty_85 rfl (lv_at hl 1 rfl) ?_
            refine hy_ret (hy_rVN (T := (M, Mr, Mo)) (v := some (.int (Or_timesOf a1 M))) (T2 := (M, Mr, Mo)) (As := [.int a1]) (rest := []) (n := 0) hx hb hml hown hts hX hP hS hl (c_Or_timesOf Mr Mo a1 M rfl) m_Or_timesOf q_819 (hy_recv hX hP 18 4 (by decide) rfl rfl) rfl rfl (Nat.le_of_ble_eq_true rfl) dX10_phraseProperty_86 ⟨Nat.le_of_ble_eq_true rfl, Nat.le_of_ble_eq_true rfl⟩ ⟨Nat.zero_le _, Nat.zero_le _⟩) hS (fun H locs hP hS => ?_)
            exact hy_iret (T := (M, Mr, Mo)) hx hb hr hlocks hP hS (Nat.zero_le _) (Nat.zero_le _) (by rw [← h] <;> rfl) dX10_phraseProperty_89
set_option maxHeartbeats 1000000 in
set_option maxRecDepth 100000 in
theorem c_Hp_phrase {l : Launch} {G : hyG} (hlt : l.stackTraces = false) (Mr Mo : hyM) (a1 : Int32) (a2 : Int32) (M : hyM) {res : (Nat ⊕ Int32)} (h : Hp_phrase a1 a2 M = res) : hyC l yX10_phrase (.code yX10_phrase cX10_phrase 3 (some .int)) 7 112 (hyNo res) G [.ref (adr G 0), .int a1, .int a2] (M, Mr, Mo) (hyoI res, (M, Mr, Mo)) := by
  refine hy_of (by decide +kernel) (Nat.le_of_ble_eq_true rfl) ?_
  intro p e s m below meth c hx hb hml hown hts hr hlocks ht hX hP hS ls hl
  have hl : lv_has ls 3 [(0, .ref (adr G 0)), (1, .int a1), (2, .int a2)] := hl
  rw [Hp_phrase] at h
  refine lv_iload_n hx hb dX10_phrase_0 rfl (lv_at hl 1 rfl) ?_
  refine lv_aload_n hx hb dX10_phrase_1 rfl (lv_at hl 0 rfl) ?_
  refine hy_get (T := (M, Mr, Mo)) (o := 0) (k := 4) (v := .ref (adr G 12)) hx hb hown hts hX hP (by decide) rfl rfl inX10g (by decide) q_297 rfl dX10_phrase_2 ?_
  refine hy_getN (T := (M, Mr, Mo)) (o := 12) (k := 5) (v := .int (M.1 12 5)) hx hb hown hts hX hP (by decide) rfl rfl inX6g (by decide) q_204 rfl dX10_phrase_5 ?_
  obtain ⟨u1, hu1⟩ : ∃ z, Hp_checkIndex a1 (M.1 12 5) M = z := ⟨_, rfl⟩
  rw [hu1] at h
  rcases u1 with k2 | r3
  all_goals try dsimp only at h
  · have er := h
    refine hy_retX (ou := (.inl k2, (M, Mr, Mo))) (n := 1) (k := 0) (hy_rS (T := (M, Mr, Mo)) (ou := (.inl k2, (M, Mr, Mo))) (As := [.int a1, .int (M.1 12 5)]) (rest := []) (n := 1) hx hb hml hown hts hX hP hS hl (c_Hp_checkIndex hlt Mr Mo a1 (M.1 12 5) M (res := .inl k2) hu1) m_Hp_checkIndex q_666 rfl rfl (Nat.le_of_ble_eq_true rfl) dX10_phrase_8 ⟨Nat.le_of_ble_eq_true rfl, Nat.le_of_ble_eq_true rfl⟩ ⟨by rw [← er]; exact Nat.le_of_ble_eq_true rfl, by rw [← er]; exact Nat.le_of_ble_eq_true rfl⟩) hS (fun k hk q ce H locs hP hS hce hcv hcl => ?_) (fun v hv => by cases hv)
    cases hk
    exact hy_out (T := (M, Mr, Mo)) ht hlocks hP hS (by rw [← er]; exact Nat.le_of_ble_eq_true rfl) (by rw [← er]; exact Nat.le_of_ble_eq_true rfl) (by rw [← er] <;> rfl) hce hcv hcl
  · refine hy_retX (ou := (.inr (none), (M, Mr, Mo))) (n := 0) (k := 0) (hy_rS (T := (M, Mr, Mo)) (ou := (.inr (none), (M, Mr, Mo))) (As := [.int a1, .int (M.1 12 5)]) (rest := []) (n := 0) hx hb hml hown hts hX hP hS hl (c_Hp_checkIndex hlt Mr Mo a1 (M.1 12 5) M (res := .inr r3) hu1) m_Hp_checkIndex q_666 rfl rfl (Nat.le_of_ble_eq_true rfl) dX10_phrase_8 ⟨Nat.le_of_ble_eq_true rfl, Nat.le_of_ble_eq_true rfl⟩ ⟨Nat.zero_le _, Nat.zero_le _⟩) hS (fun k hk => by cases hk) (fun v hv H locs hP hS => ?_)
    cases hv
    refine lv_iload_n hx hb dX10_phrase_11 rfl (lv_at hl 2 rfl) ?_
    refine lv_iconst (v := 0) hx hb dX10_phrase_12 rfl ?_
    refine lv_iconst (v := 5) hx hb dX10_phrase_13 rfl ?_
    obtain ⟨u4, hu4⟩ : ∃ z, Hp_checkRange a2 0 5 M = z := ⟨_, rfl⟩
    rw [hu4] at h
    rcases u4 with k5 | r6
    all_goals try dsimp only at h
    · have er := h
      refine hy_retX (ou := (.inl k5, (M, Mr, Mo))) (n := 1) (k := 0) (hy_rS (T := (M, Mr, Mo)) (ou := (.inl k5, (M, Mr, Mo))) (As := [.int a2, .int 0, .int 5]) (rest := []) (n := 1) hx hb hml hown hts hX hP hS hl (c_Hp_checkRange hlt Mr Mo a2 0 5 M (res := .inl k5) hu4) m_Hp_checkRange q_328 rfl rfl (Nat.le_of_ble_eq_true rfl) dX10_phrase_14 ⟨Nat.le_of_ble_eq_true rfl, Nat.le_of_ble_eq_true rfl⟩ ⟨by rw [← er]; exact Nat.le_of_ble_eq_true rfl, by rw [← er]; exact Nat.le_of_ble_eq_true rfl⟩) hS (fun k hk q ce H locs hP hS hce hcv hcl => ?_) (fun v hv => by cases hv)
      cases hk
      exact hy_out (T := (M, Mr, Mo)) ht hlocks hP hS (by rw [← er]; exact Nat.le_of_ble_eq_true rfl) (by rw [← er]; exact Nat.le_of_ble_eq_true rfl) (by rw [← er] <;> rfl) hce hcv hcl
    · refine hy_retX (ou := (.inr (none), (M, Mr, Mo))) (n := 0) (k := 0) (hy_rS (T := (M, Mr, Mo)) (ou := (.inr (none), (M, Mr, Mo))) (As := [.int a2, .int 0, .int 5]) (rest := []) (n := 0) hx hb hml hown hts hX hP hS hl (c_Hp_checkRange hlt Mr Mo a2 0 5 M (res := .inr r6) hu4) m_Hp_checkRange q_328 rfl rfl (Nat.le_of_ble_eq_true rfl) dX10_phrase_14 ⟨Nat.le_of_ble_eq_true rfl, Nat.le_of_ble_eq_true rfl⟩ ⟨Nat.zero_le _, Nat.zero_le _⟩) hS (fun k hk => by cases hk) (fun v hv H locs hP hS => ?_)
      cases hv
      refine lv_aload_n hx hb dX10_phrase_17 rfl (lv_at hl 0 rfl) ?_
      refine lv_iload_n hx hb dX10_phrase_18 rfl (lv_at hl 1 rfl) ?_
      refine lv_iload_n hx hb dX10_phrase_19 rfl (lv_at hl 2 rfl) ?_
      refine hy_ret (hy_rV0 (T := (M, Mr, Mo)) (v := some (.int (Hp_phraseProperty a1 a2 M))) (T2 := (M, Mr, Mo)) (As := [.int a1, .int a2]) (rest := []) (n := 0) hx hb hml hown hts hX hP hS hl (c_Hp_phraseProperty Mr Mo a1 a2 M rfl) m_Hp_phraseProperty q_806 (hy_recv hX hP 0 9 (by decide) rfl rfl) rfl rfl (Nat.le_of_ble_eq_true rfl) dX10_phrase_20 ⟨Nat.le_of_ble_eq_true rfl, Nat.le_of_ble_eq_true rfl⟩ ⟨Nat.zero_le _, Nat.zero_le _⟩) hS (fun H locs hP hS => ?_)
      exact hy_iret (T := (M, Mr, Mo)) hx hb hr hlocks hP hS (Nat.zero_le _) (Nat.zero_le _) (by rw [← h] <;> rfl) dX10_phrase_23
set_option maxHeartbeats 1000000 in
set_option maxRecDepth 100000 in
theorem c_Hp_sung {l : Launch} {G : hyG} (hlt : l.stackTraces = false) (Mr Mo : hyM) (a1 : Int32) (M : hyM) {res : (Nat ⊕ Int32)} (h : Hp_sung a1 M = res) : hyC l yX10_sung (.code yX10_sung cX10_sung 2 (some .int)) 7 111 (hyNo res) G [.ref (adr G 0), .int a1] (M, Mr, Mo) (hyoI res, (M, Mr, Mo)) := by
  refine hy_of (by decide +kernel) (Nat.le_of_ble_eq_true rfl) ?_
  intro p e s m below meth c hx hb hml hown hts hr hlocks ht hX hP hS ls hl
  have hl : lv_has ls 2 [(0, .ref (adr G 0)), (1, .int a1)] := hl
  rw [Hp_sung] at h
  refine lv_iload_n hx hb dX10_sung_0 rfl (lv_at hl 1 rfl) ?_
  refine lv_aload_n hx hb dX10_sung_1 rfl (lv_at hl 0 rfl) ?_
  refine hy_get (T := (M, Mr, Mo)) (o := 0) (k := 5) (v := .ref (adr G 18)) hx hb hown hts hX hP (by decide) rfl rfl inX10g (by decide) q_298 rfl dX10_sung_2 ?_
  refine hy_getN (T := (M, Mr, Mo)) (o := 18) (k := 2) (v := .int (M.1 18 2)) hx hb hown hts hX hP (by decide) rfl rfl inX5g (by decide) q_228 rfl dX10_sung_5 ?_
  obtain ⟨u1, hu1⟩ : ∃ z, Hp_checkIndex a1 (M.1 18 2) M = z := ⟨_, rfl⟩
  rw [hu1] at h
  rcases u1 with k2 | r3
  all_goals try dsimp only at h
  · have er := h
    refine hy_retX (ou := (.inl k2, (M, Mr, Mo))) (n := 1) (k := 0) (hy_rS (T := (M, Mr, Mo)) (ou := (.inl k2, (M, Mr, Mo))) (As := [.int a1, .int (M.1 18 2)]) (rest := []) (n := 1) hx hb hml hown hts hX hP hS hl (c_Hp_checkIndex hlt Mr Mo a1 (M.1 18 2) M (res := .inl k2) hu1) m_Hp_checkIndex q_666 rfl rfl (Nat.le_of_ble_eq_true rfl) dX10_sung_8 ⟨Nat.le_of_ble_eq_true rfl, Nat.le_of_ble_eq_true rfl⟩ ⟨by rw [← er]; exact Nat.le_of_ble_eq_true rfl, by rw [← er]; exact Nat.le_of_ble_eq_true rfl⟩) hS (fun k hk q ce H locs hP hS hce hcv hcl => ?_) (fun v hv => by cases hv)
    cases hk
    exact hy_out (T := (M, Mr, Mo)) ht hlocks hP hS (by rw [← er]; exact Nat.le_of_ble_eq_true rfl) (by rw [← er]; exact Nat.le_of_ble_eq_true rfl) (by rw [← er] <;> rfl) hce hcv hcl
  · refine hy_retX (ou := (.inr (none), (M, Mr, Mo))) (n := 0) (k := 0) (hy_rS (T := (M, Mr, Mo)) (ou := (.inr (none), (M, Mr, Mo))) (As := [.int a1, .int (M.1 18 2)]) (rest := []) (n := 0) hx hb hml hown hts hX hP hS hl (c_Hp_checkIndex hlt Mr Mo a1 (M.1 18 2) M (res := .inr r3) hu1) m_Hp_checkIndex q_666 rfl rfl (Nat.le_of_ble_eq_true rfl) dX10_sung_8 ⟨Nat.le_of_ble_eq_true rfl, Nat.le_of_ble_eq_true rfl⟩ ⟨Nat.zero_le _, Nat.zero_le _⟩) hS (fun k hk => by cases hk) (fun v hv H locs hP hS => ?_)
    cases hv
    refine lv_aload_n hx hb dX10_sung_11 rfl (lv_at hl 0 rfl) ?_
    refine hy_get (T := (M, Mr, Mo)) (o := 0) (k := 5) (v := .ref (adr G 18)) hx hb hown hts hX hP (by decide) rfl rfl inX10g (by decide) q_298 rfl dX10_sung_12 ?_
    refine lv_iload_n hx hb dX10_sung_15 rfl (lv_at hl 1 rfl) ?_
    refine hy_ret (hy_rVN (T := (M, Mr, Mo)) (v := some (.int (Or_phraseAt a1 M))) (T2 := (M, Mr, Mo)) (As := [.int a1]) (rest := []) (n := 0) hx hb hml hown hts hX hP hS hl (c_Or_phraseAt Mr Mo a1 M rfl) m_Or_phraseAt q_573 (hy_recv hX hP 18 4 (by decide) rfl rfl) rfl rfl (Nat.le_of_ble_eq_true rfl) dX10_sung_16 ⟨Nat.le_of_ble_eq_true rfl, Nat.le_of_ble_eq_true rfl⟩ ⟨Nat.zero_le _, Nat.zero_le _⟩) hS (fun H locs hP hS => ?_)
    exact hy_iret (T := (M, Mr, Mo)) hx hb hr hlocks hP hS (Nat.zero_le _) (Nat.zero_le _) (by rw [← h] <;> rfl) dX10_sung_19
set_option maxHeartbeats 1000000 in
set_option maxRecDepth 100000 in
theorem c_Hp_syllablesSung {l : Launch} {G : hyG} (Mr Mo : hyM) (a1 : Int32) (M : hyM) {res : Int32} (h : Hp_syllablesSung a1 M = res) : hyC l yX10_syllablesSung (.code yX10_syllablesSung cX10_syllablesSung 2 (some .int)) 2 42 (0) G [.ref (adr G 0), .int a1] (M, Mr, Mo) (.inr (some (.int res)), (M, Mr, Mo)) := by
  refine hy_of (by decide +kernel) (Nat.le_of_ble_eq_true rfl) ?_
  intro p e s m below meth c hx hb hml hown hts hr hlocks ht hX hP hS ls hl
  have hl : lv_has ls 2 [(0, .ref (adr G 0)), (1, .int a1)] := hl
  rw [Hp_syllablesSung] at h
  refine lv_aload_n hx hb dX10_syllablesSung_0 rfl (lv_at hl 0 rfl) ?_
  refine hy_get (T := (M, Mr, Mo)) (o := 0) (k := 4) (v := .ref (adr G 12)) hx hb hown hts hX hP (by decide) rfl rfl inX10g (by decide) q_297 rfl dX10_syllablesSung_1 ?_
  refine lv_aload_n hx hb dX10_syllablesSung_4 rfl (lv_at hl 0 rfl) ?_
  refine hy_get (T := (M, Mr, Mo)) (o := 0) (k := 5) (v := .ref (adr G 18)) hx hb hown hts hX hP (by decide) rfl rfl inX10g (by decide) q_298 rfl dX10_syllablesSung_5 ?_
  refine lv_iload_n hx hb dX10_syllablesSung_8 rfl (lv_at hl 1 rfl) ?_
  refine hy_ret (hy_rVN (T := (M, Mr, Mo)) (v := some (.int (Or_phraseAt a1 M))) (T2 := (M, Mr, Mo)) (As := [.int a1]) (rest := [.ref (adr G 12)]) (n := 0) hx hb hml hown hts hX hP hS hl (c_Or_phraseAt Mr Mo a1 M rfl) m_Or_phraseAt q_573 (hy_recv hX hP 18 4 (by decide) rfl rfl) rfl rfl (Nat.le_of_ble_eq_true rfl) dX10_syllablesSung_9 ⟨Nat.le_of_ble_eq_true rfl, Nat.le_of_ble_eq_true rfl⟩ ⟨Nat.zero_le _, Nat.zero_le _⟩) hS (fun H locs hP hS => ?_)
  refine hy_ret (hy_rVN (T := (M, Mr, Mo)) (v := some (.int (Ph_syllablesOf (Or_phraseAt a1 M) M))) (T2 := (M, Mr, Mo)) (As := [.int (Or_phraseAt a1 M)]) (rest := []) (n := 0) hx hb hml hown hts hX hP hS hl (c_Ph_syllablesOf Mr Mo (Or_phraseAt a1 M) M rfl) m_Ph_syllablesOf q_574 (hy_recv hX hP 12 5 (by decide) rfl rfl) rfl rfl (Nat.le_of_ble_eq_true rfl) dX10_syllablesSung_12 ⟨Nat.le_of_ble_eq_true rfl, Nat.le_of_ble_eq_true rfl⟩ ⟨Nat.zero_le _, Nat.zero_le _⟩) hS (fun H locs hP hS => ?_)
  exact hy_iret (T := (M, Mr, Mo)) hx hb hr hlocks hP hS (Nat.zero_le _) (Nat.zero_le _) (by rw [← h] <;> rfl) dX10_syllablesSung_15
set_option maxHeartbeats 1000000 in
set_option maxRecDepth 100000 in
theorem c_Hp_firstMisfit {l : Launch} {G : hyG} (Mr Mo : hyM) (a1 : Int32) (M : hyM) {res : Int32} (h : Hp_firstMisfit a1 M = some res) : hyC l yX10_firstMisfit (.code yX10_firstMisfit cX10_firstMisfit 4 (some .int)) 3 63 (0) G [.ref (adr G 0), .int a1] (M, Mr, Mo) (.inr (some (.int res)), (M, Mr, Mo)) := by
  refine hy_of (by decide +kernel) (Nat.le_of_ble_eq_true rfl) ?_
  intro p e s m below meth c hx hb hml hown hts hr hlocks ht hX hP hS ls hl
  have hl : lv_has ls 4 [(0, .ref (adr G 0)), (1, .int a1)] := hl
  rw [Hp_firstMisfit] at h
  refine lv_iconst (v := 0) hx hb dX10_firstMisfit_0 rfl ?_
  refine lv_istore_n (lv' := [(2, .int 0), (0, .ref (adr G 0)), (1, .int a1)]) hx hb dX10_firstMisfit_1 rfl hl (by decide) rfl (fun ls hl => ?_)
  have L6 : ∀ (f : Nat) (x1 : Int32) (qL : (Int32 ⊕ (Int32))) (h : Hp_firstMisfit_L2 a1 M f x1 = some qL) (hq : ∀ r9, qL = .inl r9 → res = r9) (H : Heap) (locs : List Loc) (ls : Array Slot) (hP : va_P G.1 vwCl (wld G (M, Mr, Mo)) H) (hS : va_S (hyA G) s.heap H locs) (hl : lv_has ls 4 [(0, .ref (adr G 0)), (1, .int a1), (2, .int x1)]) (kk : ∀ (y1 : Int32), qL = .inr (y1) → ∀ (H : Heap) (locs : List Loc) (ls : Array Slot), va_P G.1 vwCl (wld G (M, Mr, Mo)) H → va_S (hyA G) s.heap H locs → lv_has ls 4 [(0, .ref (adr G 0)), (1, .int a1), (2, .int y1)] → W p l e { frames := 3, cells := 0, slots := 6 * 0, locals := 63 } s m ([.ref (adr G 0), .int a1] : List Value).toArray below meth c H locs 0 0 (vx_MQ below (hyQ G (.inr (some (.int res)), (M, Mr, Mo))) (hyXQ G (.inr (some (.int res)), (M, Mr, Mo))) ([.ref (adr G 0), .int a1] : List Value).toArray s 0 (6 * 0) (hyA G)) (F0 m 50 ls [])), W p l e { frames := 3, cells := 0, slots := 6 * 0, locals := 63 } s m ([.ref (adr G 0), .int a1] : List Value).toArray below meth c H locs 0 0 (vx_MQ below (hyQ G (.inr (some (.int res)), (M, Mr, Mo))) (hyXQ G (.inr (some (.int res)), (M, Mr, Mo))) ([.ref (adr G 0), .int a1] : List Value).toArray s 0 (6 * 0) (hyA G)) (F0 m 2 ls []) := by
    intro f
    induction f with
    | zero =>
      intro x1 qL h hq H locs ls hP hS hl kk
      rw [Hp_firstMisfit_L2] at h
      cases h
    | succ f ih =>
      intro x1 qL h hq H locs ls hP hS hl kk
      rw [Hp_firstMisfit_L2] at h
      refine lv_iload_n hx hb dX10_firstMisfit_2 rfl (lv_at hl 2 rfl) ?_
      refine lv_bipush (v := 24) hx hb dX10_firstMisfit_3 rfl ?_
      refine lv_icmp_ge (tgt := 50) hx hb dX10_firstMisfit_5 (by decide) (fun c2 => ?_) (fun c2 => ?_)
      · rw [if_pos c2] at h
        exact kk x1 (Option.some.inj h).symm _ _ ls hP hS (lv_sub hl [0, 1, 2] rfl)
      · rw [if_neg c2] at h
        refine lv_iload_n hx hb dX10_firstMisfit_8 rfl (lv_at hl 2 rfl) ?_
        refine lv_aload_n hx hb dX10_firstMisfit_9 rfl (lv_at hl 0 rfl) ?_
        refine hy_get (T := (M, Mr, Mo)) (o := 0) (k := 5) (v := .ref (adr G 18)) hx hb hown hts hX hP (by decide) rfl rfl inX10g (by decide) q_298 rfl dX10_firstMisfit_10 ?_
        refine hy_getN (T := (M, Mr, Mo)) (o := 18) (k := 2) (v := .int (M.1 18 2)) hx hb hown hts hX hP (by decide) rfl rfl inX5g (by decide) q_228 rfl dX10_firstMisfit_13 ?_
        have J5 : ∀ (H : Heap) (locs : List Loc) (ls : Array Slot) (u1 : Int32), u1 = (if (M.1 18 2) ≤ x1 then 0 else (Hp_syllablesSung x1 M)) → va_P G.1 vwCl (wld G (M, Mr, Mo)) H → va_S (hyA G) s.heap H locs → lv_has ls 4 [(0, .ref (adr G 0)), (1, .int a1), (2, .int x1)] → W p l e { frames := 3, cells := 0, slots := 6 * 0, locals := 63 } s m ([.ref (adr G 0), .int a1] : List Value).toArray below meth c H locs 0 0 (vx_MQ below (hyQ G (.inr (some (.int res)), (M, Mr, Mo))) (hyXQ G (.inr (some (.int res)), (M, Mr, Mo))) ([.ref (adr G 0), .int a1] : List Value).toArray s 0 (6 * 0) (hyA G)) (F0 m 28 ls [.int u1]) := by
          intro H locs ls u1 eu1 hP hS hl
          subst eu1
          refine lv_istore_n (lv' := [(3, .int (if (M.1 18 2) ≤ x1 then 0 else (Hp_syllablesSung x1 M))), (0, .ref (adr G 0)), (1, .int a1), (2, .int x1)]) hx hb dX10_firstMisfit_28 rfl hl (by decide) rfl (fun ls hl => ?_)
          refine lv_aload_n hx hb dX10_firstMisfit_29 rfl (lv_at hl 1 rfl) ?_
          refine hy_get (T := (M, Mr, Mo)) (o := 0) (k := 3) (v := .ref (adr G 9)) hx hb hown hts hX hP (by decide) rfl rfl inX10g (by decide) q_296 rfl dX10_firstMisfit_30 ?_
          refine lv_iload_n hx hb dX10_firstMisfit_33 rfl (lv_at hl 2 rfl) ?_
          refine lv_iload_n hx hb dX10_firstMisfit_34 rfl (lv_at hl 3 rfl) ?_
          refine hy_ret (hy_rVN (T := (M, Mr, Mo)) (v := some (.int (Ve_syllablesOf a1 x1 M))) (T2 := (M, Mr, Mo)) (As := [.int a1, .int x1]) (rest := []) (n := 0) hx hb hml hown hts hX hP hS hl (c_Ve_syllablesOf Mr Mo a1 x1 M rfl) m_Ve_syllablesOf q_612 (hy_recv hX hP 9 8 (by decide) rfl rfl) rfl rfl (Nat.le_of_ble_eq_true rfl) dX10_firstMisfit_35 ⟨Nat.le_of_ble_eq_true rfl, Nat.le_of_ble_eq_true rfl⟩ ⟨Nat.zero_le _, Nat.zero_le _⟩) hS (fun H locs hP hS => ?_)
          refine lv_iload_n hx hb dX10_firstMisfit_38 rfl (lv_at hl 0 rfl) ?_
          refine lv_icmp_eq (tgt := 44) hx hb dX10_firstMisfit_39 (by decide) (fun c4 => ?_) (fun c4 => ?_)
          · rw [if_pos c4] at h
            refine lv_iinc (v := (x1 + 1)) (lv' := [(2, .int (x1 + 1)), (3, .int (if (M.1 18 2) ≤ x1 then 0 else (Hp_syllablesSung x1 M))), (0, .ref (adr G 0)), (1, .int a1)]) hx hb dX10_firstMisfit_44 hl (k := 3) rfl rfl (by decide) rfl (fun ls hl => ?_)
            refine lv_goto (tgt := 2) hx hb dX10_firstMisfit_47 (by decide) ?_
            exact ih (x1 + 1) _ h hq _ _ ls hP hS (lv_sub hl [2, 3, 0] rfl) kk
          · rw [if_neg c4] at h
            refine lv_iload_n hx hb dX10_firstMisfit_42 rfl (lv_at hl 3 rfl) ?_
            exact hy_iret (T := (M, Mr, Mo)) hx hb hr hlocks hP hS (Nat.zero_le _) (Nat.zero_le _) (by rw [← (hq _ (Option.some.inj h).symm).symm] <;> rfl) dX10_firstMisfit_43
        refine lv_icmp_ge (tgt := 27) hx hb dX10_firstMisfit_16 (by decide) (fun c3 => ?_) (fun c3 => ?_)
        · refine lv_iconst (v := 0) hx hb dX10_firstMisfit_27 rfl ?_
          exact J5 _ _ ls 0 (by rw [if_pos c3] <;> rfl) hP hS (lv_sub hl [0, 1, 2] rfl)
        · refine lv_aload_n hx hb dX10_firstMisfit_19 rfl (lv_at hl 0 rfl) ?_
          refine lv_iload_n hx hb dX10_firstMisfit_20 rfl (lv_at hl 2 rfl) ?_
          refine hy_ret (hy_rV0 (T := (M, Mr, Mo)) (v := some (.int (Hp_syllablesSung x1 M))) (T2 := (M, Mr, Mo)) (As := [.int x1]) (rest := []) (n := 0) hx hb hml hown hts hX hP hS hl (c_Hp_syllablesSung Mr Mo x1 M rfl) m_Hp_syllablesSung q_569 (hy_recv hX hP 0 9 (by decide) rfl rfl) rfl rfl (Nat.le_of_ble_eq_true rfl) dX10_firstMisfit_21 ⟨Nat.le_of_ble_eq_true rfl, Nat.le_of_ble_eq_true rfl⟩ ⟨Nat.zero_le _, Nat.zero_le _⟩) hS (fun H locs hP hS => ?_)
          refine lv_goto (tgt := 28) hx hb dX10_firstMisfit_24 (by decide) ?_
          exact J5 _ _ ls (Hp_syllablesSung x1 M) (by rw [if_neg c3] <;> rfl) hP hS (lv_sub hl [0, 1, 2] rfl)
  obtain ⟨q9, hq9, h⟩ := hy_bind h
  refine L6 hyFu 0 q9 hq9 (fun r9 e9 => by subst e9; exact (Option.some.inj h).symm) _ _ ls hP hS (lv_sub hl [1, 2, 0] rfl) ?_
  intro y1 e9 H locs ls hP hS hl
  subst e9
  try dsimp only at h
  refine lv_aload_n hx hb dX10_firstMisfit_50 rfl (lv_at hl 0 rfl) ?_
  refine hy_get (T := (M, Mr, Mo)) (o := 0) (k := 5) (v := .ref (adr G 18)) hx hb hown hts hX hP (by decide) rfl rfl inX10g (by decide) q_298 rfl dX10_firstMisfit_51 ?_
  refine hy_getN (T := (M, Mr, Mo)) (o := 18) (k := 2) (v := .int (M.1 18 2)) hx hb hown hts hX hP (by decide) rfl rfl inX5g (by decide) q_228 rfl dX10_firstMisfit_54 ?_
  refine lv_bipush (v := 24) hx hb dX10_firstMisfit_57 rfl ?_
  have J8 : ∀ (H : Heap) (locs : List Loc) (ls : Array Slot) (u1 : Int32), u1 = (if (M.1 18 2) ≤ 24 then (-1) else 24) → va_P G.1 vwCl (wld G (M, Mr, Mo)) H → va_S (hyA G) s.heap H locs → lv_has ls 4 [(0, .ref (adr G 0)), (1, .int a1), (2, .int y1)] → W p l e { frames := 3, cells := 0, slots := 6 * 0, locals := 63 } s m ([.ref (adr G 0), .int a1] : List Value).toArray below meth c H locs 0 0 (vx_MQ below (hyQ G (.inr (some (.int res)), (M, Mr, Mo))) (hyXQ G (.inr (some (.int res)), (M, Mr, Mo))) ([.ref (adr G 0), .int a1] : List Value).toArray s 0 (6 * 0) (hyA G)) (F0 m 68 ls [.int u1]) := by
    intro H locs ls u1 eu1 hP hS hl
    subst eu1
    exact hy_iret (T := (M, Mr, Mo)) hx hb hr hlocks hP hS (Nat.zero_le _) (Nat.zero_le _) (by rw [← (Option.some.inj h)] <;> rfl) dX10_firstMisfit_68
  refine lv_icmp_le (tgt := 67) hx hb dX10_firstMisfit_59 (by decide) (fun c7 => ?_) (fun c7 => ?_)
  · refine lv_iconst (v := (-1)) hx hb dX10_firstMisfit_67 rfl ?_
    exact J8 _ _ ls (-1) (by rw [if_pos c7] <;> rfl) hP hS (lv_sub hl [0, 1, 2] rfl)
  · refine lv_bipush (v := 24) hx hb dX10_firstMisfit_62 rfl ?_
    refine lv_goto (tgt := 68) hx hb dX10_firstMisfit_64 (by decide) ?_
    exact J8 _ _ ls 24 (by rw [if_neg c7] <;> rfl) hP hS (lv_sub hl [0, 1, 2] rfl)
set_option maxHeartbeats 1000000 in
set_option maxRecDepth 100000 in
theorem c_Hp_fit {l : Launch} {G : hyG} (hlt : l.stackTraces = false) (Mr Mo : hyM) (a1 : Int32) (M : hyM) {res : (Nat ⊕ Int32)} (h : Hp_fit a1 M = some res) : hyC l yX10_fit (.code yX10_fit cX10_fit 2 (some .int)) 7 111 (hyNo res) G [.ref (adr G 0), .int a1] (M, Mr, Mo) (hyoI res, (M, Mr, Mo)) := by
  refine hy_of (by decide +kernel) (Nat.le_of_ble_eq_true rfl) ?_
  intro p e s m below meth c hx hb hml hown hts hr hlocks ht hX hP hS ls hl
  have hl : lv_has ls 2 [(0, .ref (adr G 0)), (1, .int a1)] := hl
  rw [Hp_fit] at h
  refine lv_iload_n hx hb dX10_fit_0 rfl (lv_at hl 1 rfl) ?_
  refine lv_iconst (v := 4) hx hb dX10_fit_1 rfl ?_
  obtain ⟨u1, hu1⟩ : ∃ z, Hp_checkIndex a1 4 M = z := ⟨_, rfl⟩
  rw [hu1] at h
  rcases u1 with k2 | r3
  all_goals try dsimp only at h
  · have er := (Option.some.inj h)
    refine hy_retX (ou := (.inl k2, (M, Mr, Mo))) (n := 1) (k := 0) (hy_rS (T := (M, Mr, Mo)) (ou := (.inl k2, (M, Mr, Mo))) (As := [.int a1, .int 4]) (rest := []) (n := 1) hx hb hml hown hts hX hP hS hl (c_Hp_checkIndex hlt Mr Mo a1 4 M (res := .inl k2) hu1) m_Hp_checkIndex q_666 rfl rfl (Nat.le_of_ble_eq_true rfl) dX10_fit_2 ⟨Nat.le_of_ble_eq_true rfl, Nat.le_of_ble_eq_true rfl⟩ ⟨by rw [← er]; exact Nat.le_of_ble_eq_true rfl, by rw [← er]; exact Nat.le_of_ble_eq_true rfl⟩) hS (fun k hk q ce H locs hP hS hce hcv hcl => ?_) (fun v hv => by cases hv)
    cases hk
    exact hy_out (T := (M, Mr, Mo)) ht hlocks hP hS (by rw [← er]; exact Nat.le_of_ble_eq_true rfl) (by rw [← er]; exact Nat.le_of_ble_eq_true rfl) (by rw [← er] <;> rfl) hce hcv hcl
  · refine hy_retX (ou := (.inr (none), (M, Mr, Mo))) (n := 0) (k := 0) (hy_rS (T := (M, Mr, Mo)) (ou := (.inr (none), (M, Mr, Mo))) (As := [.int a1, .int 4]) (rest := []) (n := 0) hx hb hml hown hts hX hP hS hl (c_Hp_checkIndex hlt Mr Mo a1 4 M (res := .inr r3) hu1) m_Hp_checkIndex q_666 rfl rfl (Nat.le_of_ble_eq_true rfl) dX10_fit_2 ⟨Nat.le_of_ble_eq_true rfl, Nat.le_of_ble_eq_true rfl⟩ ⟨Nat.zero_le _, Nat.zero_le _⟩) hS (fun k hk => by cases hk) (fun v hv H locs hP hS => ?_)
    cases hv
    refine lv_aload_n hx hb dX10_fit_5 rfl (lv_at hl 0 rfl) ?_
    refine lv_iload_n hx hb dX10_fit_6 rfl (lv_at hl 1 rfl) ?_
    obtain ⟨v4, hv4, h⟩ := hy_bind h
    refine hy_ret (hy_rV0 (T := (M, Mr, Mo)) (v := some (.int v4)) (T2 := (M, Mr, Mo)) (As := [.int a1]) (rest := []) (n := 0) hx hb hml hown hts hX hP hS hl (c_Hp_firstMisfit Mr Mo a1 M hv4) m_Hp_firstMisfit q_608 (hy_recv hX hP 0 9 (by decide) rfl rfl) rfl rfl (Nat.le_of_ble_eq_true rfl) dX10_fit_7 ⟨Nat.le_of_ble_eq_true rfl, Nat.le_of_ble_eq_true rfl⟩ ⟨Nat.zero_le _, Nat.zero_le _⟩) hS (fun H locs hP hS => ?_)
    exact hy_iret (T := (M, Mr, Mo)) hx hb hr hlocks hP hS (Nat.zero_le _) (Nat.zero_le _) (by rw [← (Option.some.inj h)] <;> rfl) dX10_fit_10
set_option maxHeartbeats 1000000 in
set_option maxRecDepth 100000 in
theorem c_Hp_lineProperty {l : Launch} {G : hyG} (Mr Mo : hyM) (a1 : Int32) (a2 : Int32) (a3 : Int32) (M : hyM) {res : Int32} (h : Hp_lineProperty a1 a2 a3 M = some res) : hyC l yX10_lineProperty (.code yX10_lineProperty cX10_lineProperty 4 (some .int)) 4 92 (0) G [.ref (adr G 0), .int a1, .int a2, .int a3] (M, Mr, Mo) (.inr (some (.int res)), (M, Mr, Mo)) := by
  refine hy_of (by decide +kernel) (Nat.le_of_ble_eq_true rfl) ?_
  intro p e s m below meth c hx hb hml hown hts hr hlocks ht hX hP hS ls hl
  have hl : lv_has ls 4 [(0, .ref (adr G 0)), (1, .int a1), (2, .int a2), (3, .int a3)] := hl
  rw [Hp_lineProperty] at h
  refine lv_iload_n hx hb dX10_lineProperty_0 rfl (lv_at hl 3 rfl) ?_
  by_cases c1 : a3 = 0
  · rw [if_pos c1] at h
    refine lv_lookup (tgt := 28) (off := 27) hx hb dX10_lineProperty_1 (by decide) (by rw [c1]; rfl) (by decide) ?_
    refine lv_aload_n hx hb dX10_lineProperty_28 rfl (lv_at hl 0 rfl) ?_
    refine hy_get (T := (M, Mr, Mo)) (o := 0) (k := 3) (v := .ref (adr G 9)) hx hb hown hts hX hP (by decide) rfl rfl inX10g (by decide) q_296 rfl dX10_lineProperty_29 ?_
    refine lv_iload_n hx hb dX10_lineProperty_32 rfl (lv_at hl 1 rfl) ?_
    refine lv_iload_n hx hb dX10_lineProperty_33 rfl (lv_at hl 2 rfl) ?_
    refine hy_ret (hy_rVN (T := (M, Mr, Mo)) (v := some (.int (Ve_syllablesOf a1 a2 M))) (T2 := (M, Mr, Mo)) (As := [.int a1, .int a2]) (rest := []) (n := 0) hx hb hml hown hts hX hP hS hl (c_Ve_syllablesOf Mr Mo a1 a2 M rfl) m_Ve_syllablesOf q_612 (hy_recv hX hP 9 8 (by decide) rfl rfl) rfl rfl (Nat.le_of_ble_eq_true rfl) dX10_lineProperty_34 ⟨Nat.le_of_ble_eq_true rfl, Nat.le_of_ble_eq_true rfl⟩ ⟨Nat.zero_le _, Nat.zero_le _⟩) hS (fun H locs hP hS => ?_)
    exact hy_iret (T := (M, Mr, Mo)) hx hb hr hlocks hP hS (Nat.zero_le _) (Nat.zero_le _) (by rw [← (Option.some.inj h)] <;> rfl) dX10_lineProperty_37
  · rw [if_neg c1] at h
    by_cases c2 : a3 = 1
    · rw [if_pos c2] at h
      refine lv_lookup (tgt := 38) (off := 37) hx hb dX10_lineProperty_1 (by decide) (by rw [c2]; rfl) (by decide) ?_
      refine lv_aload_n hx hb dX10_lineProperty_38 rfl (lv_at hl 0 rfl) ?_
      refine hy_get (T := (M, Mr, Mo)) (o := 0) (k := 3) (v := .ref (adr G 9)) hx hb hown hts hX hP (by decide) rfl rfl inX10g (by decide) q_296 rfl dX10_lineProperty_39 ?_
      refine lv_iload_n hx hb dX10_lineProperty_42 rfl (lv_at hl 1 rfl) ?_
      refine lv_iload_n hx hb dX10_lineProperty_43 rfl (lv_at hl 2 rfl) ?_
      obtain ⟨v4, hv4, h⟩ := hy_bind h
      refine hy_ret (hy_rVN (T := (M, Mr, Mo)) (v := some (.int v4)) (T2 := (M, Mr, Mo)) (As := [.int a1, .int a2]) (rest := []) (n := 0) hx hb hml hown hts hX hP hS hl (c_Ve_wordsOf Mr Mo a1 a2 M hv4) m_Ve_wordsOf q_839 (hy_recv hX hP 9 8 (by decide) rfl rfl) rfl rfl (Nat.le_of_ble_eq_true rfl) dX10_lineProperty_44 ⟨Nat.le_of_ble_eq_true rfl, Nat.le_of_ble_eq_true rfl⟩ ⟨Nat.zero_le _, Nat.zero_le _⟩) hS (fun H locs hP hS => ?_)
      exact hy_iret (T := (M, Mr, Mo)) hx hb hr hlocks hP hS (Nat.zero_le _) (Nat.zero_le _) (by rw [← (Option.some.inj h)] <;> rfl) dX10_lineProperty_47
    · rw [if_neg c2] at h
      refine lv_lookup (tgt := 48) (off := 47) hx hb dX10_lineProperty_1 (by decide) (hy_lookOut c1 c2 ) (by decide) ?_
      refine lv_aload_n hx hb dX10_lineProperty_48 rfl (lv_at hl 0 rfl) ?_
      refine hy_get (T := (M, Mr, Mo)) (o := 0) (k := 3) (v := .ref (adr G 9)) hx hb hown hts hX hP (by decide) rfl rfl inX10g (by decide) q_296 rfl dX10_lineProperty_49 ?_
      refine lv_iload_n hx hb dX10_lineProperty_52 rfl (lv_at hl 1 rfl) ?_
      refine lv_iload_n hx hb dX10_lineProperty_53 rfl (lv_at hl 2 rfl) ?_
      obtain ⟨v3, hv3, h⟩ := hy_bind h
      refine hy_ret (hy_rVN (T := (M, Mr, Mo)) (v := some (.int v3)) (T2 := (M, Mr, Mo)) (As := [.int a1, .int a2]) (rest := []) (n := 0) hx hb hml hown hts hX hP hS hl (c_Ve_longestOf Mr Mo a1 a2 M hv3) m_Ve_longestOf q_847 (hy_recv hX hP 9 8 (by decide) rfl rfl) rfl rfl (Nat.le_of_ble_eq_true rfl) dX10_lineProperty_54 ⟨Nat.le_of_ble_eq_true rfl, Nat.le_of_ble_eq_true rfl⟩ ⟨Nat.zero_le _, Nat.zero_le _⟩) hS (fun H locs hP hS => ?_)
      exact hy_iret (T := (M, Mr, Mo)) hx hb hr hlocks hP hS (Nat.zero_le _) (Nat.zero_le _) (by rw [← (Option.some.inj h)] <;> rfl) dX10_lineProperty_57
set_option maxHeartbeats 1000000 in
set_option maxRecDepth 100000 in
theorem c_Hp_line {l : Launch} {G : hyG} (hlt : l.stackTraces = false) (Mr Mo : hyM) (a1 : Int32) (a2 : Int32) (a3 : Int32) (M : hyM) {res : (Nat ⊕ Int32)} (h : Hp_line a1 a2 a3 M = some res) : hyC l yX10_line (.code yX10_line cX10_line 4 (some .int)) 7 115 (hyNo res) G [.ref (adr G 0), .int a1, .int a2, .int a3] (M, Mr, Mo) (hyoI res, (M, Mr, Mo)) := by
  refine hy_of (by decide +kernel) (Nat.le_of_ble_eq_true rfl) ?_
  intro p e s m below meth c hx hb hml hown hts hr hlocks ht hX hP hS ls hl
  have hl : lv_has ls 4 [(0, .ref (adr G 0)), (1, .int a1), (2, .int a2), (3, .int a3)] := hl
  rw [Hp_line] at h
  refine lv_iload_n hx hb dX10_line_0 rfl (lv_at hl 1 rfl) ?_
  refine lv_iconst (v := 4) hx hb dX10_line_1 rfl ?_
  obtain ⟨u1, hu1⟩ : ∃ z, Hp_checkIndex a1 4 M = z := ⟨_, rfl⟩
  rw [hu1] at h
  rcases u1 with k2 | r3
  all_goals try dsimp only at h
  · have er := (Option.some.inj h)
    refine hy_retX (ou := (.inl k2, (M, Mr, Mo))) (n := 1) (k := 0) (hy_rS (T := (M, Mr, Mo)) (ou := (.inl k2, (M, Mr, Mo))) (As := [.int a1, .int 4]) (rest := []) (n := 1) hx hb hml hown hts hX hP hS hl (c_Hp_checkIndex hlt Mr Mo a1 4 M (res := .inl k2) hu1) m_Hp_checkIndex q_666 rfl rfl (Nat.le_of_ble_eq_true rfl) dX10_line_2 ⟨Nat.le_of_ble_eq_true rfl, Nat.le_of_ble_eq_true rfl⟩ ⟨by rw [← er]; exact Nat.le_of_ble_eq_true rfl, by rw [← er]; exact Nat.le_of_ble_eq_true rfl⟩) hS (fun k hk q ce H locs hP hS hce hcv hcl => ?_) (fun v hv => by cases hv)
    cases hk
    exact hy_out (T := (M, Mr, Mo)) ht hlocks hP hS (by rw [← er]; exact Nat.le_of_ble_eq_true rfl) (by rw [← er]; exact Nat.le_of_ble_eq_true rfl) (by rw [← er] <;> rfl) hce hcv hcl
  · refine hy_retX (ou := (.inr (none), (M, Mr, Mo))) (n := 0) (k := 0) (hy_rS (T := (M, Mr, Mo)) (ou := (.inr (none), (M, Mr, Mo))) (As := [.int a1, .int 4]) (rest := []) (n := 0) hx hb hml hown hts hX hP hS hl (c_Hp_checkIndex hlt Mr Mo a1 4 M (res := .inr r3) hu1) m_Hp_checkIndex q_666 rfl rfl (Nat.le_of_ble_eq_true rfl) dX10_line_2 ⟨Nat.le_of_ble_eq_true rfl, Nat.le_of_ble_eq_true rfl⟩ ⟨Nat.zero_le _, Nat.zero_le _⟩) hS (fun k hk => by cases hk) (fun v hv H locs hP hS => ?_)
    cases hv
    refine lv_iload_n hx hb dX10_line_5 rfl (lv_at hl 2 rfl) ?_
    refine lv_bipush (v := 24) hx hb dX10_line_6 rfl ?_
    obtain ⟨u4, hu4⟩ : ∃ z, Hp_checkIndex a2 24 M = z := ⟨_, rfl⟩
    rw [hu4] at h
    rcases u4 with k5 | r6
    all_goals try dsimp only at h
    · have er := (Option.some.inj h)
      refine hy_retX (ou := (.inl k5, (M, Mr, Mo))) (n := 1) (k := 0) (hy_rS (T := (M, Mr, Mo)) (ou := (.inl k5, (M, Mr, Mo))) (As := [.int a2, .int 24]) (rest := []) (n := 1) hx hb hml hown hts hX hP hS hl (c_Hp_checkIndex hlt Mr Mo a2 24 M (res := .inl k5) hu4) m_Hp_checkIndex q_666 rfl rfl (Nat.le_of_ble_eq_true rfl) dX10_line_8 ⟨Nat.le_of_ble_eq_true rfl, Nat.le_of_ble_eq_true rfl⟩ ⟨by rw [← er]; exact Nat.le_of_ble_eq_true rfl, by rw [← er]; exact Nat.le_of_ble_eq_true rfl⟩) hS (fun k hk q ce H locs hP hS hce hcv hcl => ?_) (fun v hv => by cases hv)
      cases hk
      exact hy_out (T := (M, Mr, Mo)) ht hlocks hP hS (by rw [← er]; exact Nat.le_of_ble_eq_true rfl) (by rw [← er]; exact Nat.le_of_ble_eq_true rfl) (by rw [← er] <;> rfl) hce hcv hcl
    · refine hy_retX (ou := (.inr (none), (M, Mr, Mo))) (n := 0) (k := 0) (hy_rS (T := (M, Mr, Mo)) (ou := (.inr (none), (M, Mr, Mo))) (As := [.int a2, .int 24]) (rest := []) (n := 0) hx hb hml hown hts hX hP hS hl (c_Hp_checkIndex hlt Mr Mo a2 24 M (res := .inr r6) hu4) m_Hp_checkIndex q_666 rfl rfl (Nat.le_of_ble_eq_true rfl) dX10_line_8 ⟨Nat.le_of_ble_eq_true rfl, Nat.le_of_ble_eq_true rfl⟩ ⟨Nat.zero_le _, Nat.zero_le _⟩) hS (fun k hk => by cases hk) (fun v hv H locs hP hS => ?_)
      cases hv
      refine lv_iload_n hx hb dX10_line_11 rfl (lv_at hl 3 rfl) ?_
      refine lv_iconst (v := 0) hx hb dX10_line_12 rfl ?_
      refine lv_iconst (v := 2) hx hb dX10_line_13 rfl ?_
      obtain ⟨u7, hu7⟩ : ∃ z, Hp_checkRange a3 0 2 M = z := ⟨_, rfl⟩
      rw [hu7] at h
      rcases u7 with k8 | r9
      all_goals try dsimp only at h
      · have er := (Option.some.inj h)
        refine hy_retX (ou := (.inl k8, (M, Mr, Mo))) (n := 1) (k := 0) (hy_rS (T := (M, Mr, Mo)) (ou := (.inl k8, (M, Mr, Mo))) (As := [.int a3, .int 0, .int 2]) (rest := []) (n := 1) hx hb hml hown hts hX hP hS hl (c_Hp_checkRange hlt Mr Mo a3 0 2 M (res := .inl k8) hu7) m_Hp_checkRange q_328 rfl rfl (Nat.le_of_ble_eq_true rfl) dX10_line_14 ⟨Nat.le_of_ble_eq_true rfl, Nat.le_of_ble_eq_true rfl⟩ ⟨by rw [← er]; exact Nat.le_of_ble_eq_true rfl, by rw [← er]; exact Nat.le_of_ble_eq_true rfl⟩) hS (fun k hk q ce H locs hP hS hce hcv hcl => ?_) (fun v hv => by cases hv)
        cases hk
        exact hy_out (T := (M, Mr, Mo)) ht hlocks hP hS (by rw [← er]; exact Nat.le_of_ble_eq_true rfl) (by rw [← er]; exact Nat.le_of_ble_eq_true rfl) (by rw [← er] <;> rfl) hce hcv hcl
      · refine hy_retX (ou := (.inr (none), (M, Mr, Mo))) (n := 0) (k := 0) (hy_rS (T := (M, Mr, Mo)) (ou := (.inr (none), (M, Mr, Mo))) (As := [.int a3, .int 0, .int 2]) (rest := []) (n := 0) hx hb hml hown hts hX hP hS hl (c_Hp_checkRange hlt Mr Mo a3 0 2 M (res := .inr r9) hu7) m_Hp_checkRange q_328 rfl rfl (Nat.le_of_ble_eq_true rfl) dX10_line_14 ⟨Nat.le_of_ble_eq_true rfl, Nat.le_of_ble_eq_true rfl⟩ ⟨Nat.zero_le _, Nat.zero_le _⟩) hS (fun k hk => by cases hk) (fun v hv H locs hP hS => ?_)
        cases hv
        refine lv_aload_n hx hb dX10_line_17 rfl (lv_at hl 0 rfl) ?_
        refine lv_iload_n hx hb dX10_line_18 rfl (lv_at hl 1 rfl) ?_
        refine lv_iload_n hx hb dX10_line_19 rfl (lv_at hl 2 rfl) ?_
        refine lv_iload_n hx hb dX10_line_20 rfl (lv_at hl 3 rfl) ?_
        obtain ⟨v10, hv10, h⟩ := hy_bind h
        refine hy_ret (hy_rV0 (T := (M, Mr, Mo)) (v := some (.int v10)) (T2 := (M, Mr, Mo)) (As := [.int a1, .int a2, .int a3]) (rest := []) (n := 0) hx hb hml hown hts hX hP hS hl (c_Hp_lineProperty Mr Mo a1 a2 a3 M hv10) m_Hp_lineProperty q_835 (hy_recv hX hP 0 9 (by decide) rfl rfl) rfl rfl (Nat.le_of_ble_eq_true rfl) dX10_line_21 ⟨Nat.le_of_ble_eq_true rfl, Nat.le_of_ble_eq_true rfl⟩ ⟨Nat.zero_le _, Nat.zero_le _⟩) hS (fun H locs hP hS => ?_)
        exact hy_iret (T := (M, Mr, Mo)) hx hb hr hlocks hP hS (Nat.zero_le _) (Nat.zero_le _) (by rw [← (Option.some.inj h)] <;> rfl) dX10_line_24
set_option maxHeartbeats 1000000 in
set_option maxRecDepth 100000 in
theorem c_Hp_belowProperty {l : Launch} {G : hyG} (Mr Mo : hyM) (a1 : Int32) (a2 : Int32) (a3 : Int32) (a4 : Int32) (M : hyM) {res : Int32} (h : Hp_belowProperty a1 a2 a3 a4 M = res) : hyC l yX10_belowProperty (.code yX10_belowProperty cX10_belowProperty 7 (some .int)) 3 68 (0) G [.ref (adr G 0), .int a1, .int a2, .int a3, .int a4] (M, Mr, Mo) (.inr (some (.int res)), (M, Mr, Mo)) := by
  refine hy_of (by decide +kernel) (Nat.le_of_ble_eq_true rfl) ?_
  intro p e s m below meth c hx hb hml hown hts hr hlocks ht hX hP hS ls hl
  have hl : lv_has ls 7 [(0, .ref (adr G 0)), (1, .int a1), (2, .int a2), (3, .int a3), (4, .int a4)] := hl
  rw [Hp_belowProperty] at h
  refine lv_aload_n hx hb dX10_belowProperty_0 rfl (lv_at hl 0 rfl) ?_
  refine hy_get (T := (M, Mr, Mo)) (o := 0) (k := 4) (v := .ref (adr G 12)) hx hb hown hts hX hP (by decide) rfl rfl inX10g (by decide) q_297 rfl dX10_belowProperty_1 ?_
  refine lv_aload_n hx hb dX10_belowProperty_4 rfl (lv_at hl 0 rfl) ?_
  refine hy_get (T := (M, Mr, Mo)) (o := 0) (k := 5) (v := .ref (adr G 18)) hx hb hown hts hX hP (by decide) rfl rfl inX10g (by decide) q_298 rfl dX10_belowProperty_5 ?_
  refine lv_iload_n hx hb dX10_belowProperty_8 rfl (lv_at hl 2 rfl) ?_
  refine hy_ret (hy_rVN (T := (M, Mr, Mo)) (v := some (.int (Or_phraseAt a2 M))) (T2 := (M, Mr, Mo)) (As := [.int a2]) (rest := [.ref (adr G 12)]) (n := 0) hx hb hml hown hts hX hP hS hl (c_Or_phraseAt Mr Mo a2 M rfl) m_Or_phraseAt q_573 (hy_recv hX hP 18 4 (by decide) rfl rfl) rfl rfl (Nat.le_of_ble_eq_true rfl) dX10_belowProperty_9 ⟨Nat.le_of_ble_eq_true rfl, Nat.le_of_ble_eq_true rfl⟩ ⟨Nat.zero_le _, Nat.zero_le _⟩) hS (fun H locs hP hS => ?_)
  refine hy_ret (hy_rVN (T := (M, Mr, Mo)) (v := some (.int (Ph_firstOf (Or_phraseAt a2 M) M))) (T2 := (M, Mr, Mo)) (As := [.int (Or_phraseAt a2 M)]) (rest := []) (n := 0) hx hb hml hown hts hX hP hS hl (c_Ph_firstOf Mr Mo (Or_phraseAt a2 M) M rfl) m_Ph_firstOf q_695 (hy_recv hX hP 12 5 (by decide) rfl rfl) rfl rfl (Nat.le_of_ble_eq_true rfl) dX10_belowProperty_12 ⟨Nat.le_of_ble_eq_true rfl, Nat.le_of_ble_eq_true rfl⟩ ⟨Nat.zero_le _, Nat.zero_le _⟩) hS (fun H locs hP hS => ?_)
  refine lv_iload_n hx hb dX10_belowProperty_15 rfl (lv_at hl 3 rfl) ?_
  refine lv_iadd hx hb dX10_belowProperty_16 ?_
  refine lv_istore (lv' := [(5, .int ((Ph_firstOf (Or_phraseAt a2 M) M) + a3)), (0, .ref (adr G 0)), (1, .int a1), (2, .int a2), (3, .int a3), (4, .int a4)]) hx hb dX10_belowProperty_17 hl (by decide) rfl (fun ls hl => ?_)
  refine lv_aload_n hx hb dX10_belowProperty_19 rfl (lv_at hl 1 rfl) ?_
  refine hy_get (T := (M, Mr, Mo)) (o := 0) (k := 4) (v := .ref (adr G 12)) hx hb hown hts hX hP (by decide) rfl rfl inX10g (by decide) q_297 rfl dX10_belowProperty_20 ?_
  refine lv_iload hx hb dX10_belowProperty_23 (lv_at hl 0 rfl) ?_
  refine hy_ret (hy_rVN (T := (M, Mr, Mo)) (v := some (.int (Ph_syllableOf ((Ph_firstOf (Or_phraseAt a2 M) M) + a3) M))) (T2 := (M, Mr, Mo)) (As := [.int ((Ph_firstOf (Or_phraseAt a2 M) M) + a3)]) (rest := []) (n := 0) hx hb hml hown hts hX hP hS hl (c_Ph_syllableOf Mr Mo ((Ph_firstOf (Or_phraseAt a2 M) M) + a3) M rfl) m_Ph_syllableOf q_690 (hy_recv hX hP 12 5 (by decide) rfl rfl) rfl rfl (Nat.le_of_ble_eq_true rfl) dX10_belowProperty_25 ⟨Nat.le_of_ble_eq_true rfl, Nat.le_of_ble_eq_true rfl⟩ ⟨Nat.zero_le _, Nat.zero_le _⟩) hS (fun H locs hP hS => ?_)
  refine lv_istore (lv' := [(6, .int (Ph_syllableOf ((Ph_firstOf (Or_phraseAt a2 M) M) + a3) M)), (5, .int ((Ph_firstOf (Or_phraseAt a2 M) M) + a3)), (0, .ref (adr G 0)), (1, .int a1), (2, .int a2), (3, .int a3), (4, .int a4)]) hx hb dX10_belowProperty_28 hl (by decide) rfl (fun ls hl => ?_)
  refine lv_aload_n hx hb dX10_belowProperty_30 rfl (lv_at hl 2 rfl) ?_
  refine hy_get (T := (M, Mr, Mo)) (o := 0) (k := 3) (v := .ref (adr G 9)) hx hb hown hts hX hP (by decide) rfl rfl inX10g (by decide) q_296 rfl dX10_belowProperty_31 ?_
  refine lv_iload_n hx hb dX10_belowProperty_34 rfl (lv_at hl 3 rfl) ?_
  refine lv_iload_n hx hb dX10_belowProperty_35 rfl (lv_at hl 4 rfl) ?_
  refine lv_iload hx hb dX10_belowProperty_36 (lv_at hl 0 rfl) ?_
  refine hy_ret (hy_rVN (T := (M, Mr, Mo)) (v := some (.int (bI (Ve_hasSyllable a1 a2 (Ph_syllableOf ((Ph_firstOf (Or_phraseAt a2 M) M) + a3) M) M)))) (T2 := (M, Mr, Mo)) (As := [.int a1, .int a2, .int (Ph_syllableOf ((Ph_firstOf (Or_phraseAt a2 M) M) + a3) M)]) (rest := []) (n := 0) hx hb hml hown hts hX hP hS hl (c_Ve_hasSyllable Mr Mo a1 a2 (Ph_syllableOf ((Ph_firstOf (Or_phraseAt a2 M) M) + a3) M) M rfl) m_Ve_hasSyllable q_865 (hy_recv hX hP 9 8 (by decide) rfl rfl) rfl rfl (Nat.le_of_ble_eq_true rfl) dX10_belowProperty_38 ⟨Nat.le_of_ble_eq_true rfl, Nat.le_of_ble_eq_true rfl⟩ ⟨Nat.zero_le _, Nat.zero_le _⟩) hS (fun H locs hP hS => ?_)
  refine lv_if_ne (tgt := 46) hx hb dX10_belowProperty_41 (by decide) (fun c1 => ?_) (fun c1 => ?_)
  · rw [if_pos (bI_1 c1)] at h
    refine lv_iload hx hb dX10_belowProperty_46 (lv_at hl 6 rfl) ?_
    by_cases c2 : a4 = 0
    · rw [if_pos c2] at h
      refine lv_tableIn (tgt := 76) (off := 28) hx hb dX10_belowProperty_48 (by rw [c2]; decide) (by rw [c2]; decide) (by rw [c2]; rfl) (by decide) ?_
      refine lv_iload hx hb dX10_belowProperty_76 (lv_at hl 0 rfl) ?_
      exact hy_iret (T := (M, Mr, Mo)) hx hb hr hlocks hP hS (Nat.zero_le _) (Nat.zero_le _) (by rw [← h] <;> rfl) dX10_belowProperty_78
    · rw [if_neg c2] at h
      by_cases c3 : a4 = 1
      · rw [if_pos c3] at h
        refine lv_tableIn (tgt := 79) (off := 31) hx hb dX10_belowProperty_48 (by rw [c3]; decide) (by rw [c3]; decide) (by rw [c3]; rfl) (by decide) ?_
        refine lv_aload_n hx hb dX10_belowProperty_79 rfl (lv_at hl 2 rfl) ?_
        refine hy_get (T := (M, Mr, Mo)) (o := 0) (k := 3) (v := .ref (adr G 9)) hx hb hown hts hX hP (by decide) rfl rfl inX10g (by decide) q_296 rfl dX10_belowProperty_80 ?_
        refine lv_iload_n hx hb dX10_belowProperty_83 rfl (lv_at hl 3 rfl) ?_
        refine lv_iload_n hx hb dX10_belowProperty_84 rfl (lv_at hl 4 rfl) ?_
        refine lv_iload hx hb dX10_belowProperty_85 (lv_at hl 0 rfl) ?_
        refine hy_ret (hy_rVN (T := (M, Mr, Mo)) (v := some (.int (Ve_lengthAt a1 a2 (Ph_syllableOf ((Ph_firstOf (Or_phraseAt a2 M) M) + a3) M) M))) (T2 := (M, Mr, Mo)) (As := [.int a1, .int a2, .int (Ph_syllableOf ((Ph_firstOf (Or_phraseAt a2 M) M) + a3) M)]) (rest := []) (n := 0) hx hb hml hown hts hX hP hS hl (c_Ve_lengthAt Mr Mo a1 a2 (Ph_syllableOf ((Ph_firstOf (Or_phraseAt a2 M) M) + a3) M) M rfl) m_Ve_lengthAt q_866 (hy_recv hX hP 9 8 (by decide) rfl rfl) rfl rfl (Nat.le_of_ble_eq_true rfl) dX10_belowProperty_87 ⟨Nat.le_of_ble_eq_true rfl, Nat.le_of_ble_eq_true rfl⟩ ⟨Nat.zero_le _, Nat.zero_le _⟩) hS (fun H locs hP hS => ?_)
        exact hy_iret (T := (M, Mr, Mo)) hx hb hr hlocks hP hS (Nat.zero_le _) (Nat.zero_le _) (by rw [← h] <;> rfl) dX10_belowProperty_90
      · rw [if_neg c3] at h
        by_cases c4 : a4 = 2
        · rw [if_pos c4] at h
          refine lv_tableIn (tgt := 91) (off := 43) hx hb dX10_belowProperty_48 (by rw [c4]; decide) (by rw [c4]; decide) (by rw [c4]; rfl) (by decide) ?_
          refine lv_aload_n hx hb dX10_belowProperty_91 rfl (lv_at hl 2 rfl) ?_
          refine hy_get (T := (M, Mr, Mo)) (o := 0) (k := 3) (v := .ref (adr G 9)) hx hb hown hts hX hP (by decide) rfl rfl inX10g (by decide) q_296 rfl dX10_belowProperty_92 ?_
          refine lv_iload_n hx hb dX10_belowProperty_95 rfl (lv_at hl 3 rfl) ?_
          refine lv_iload_n hx hb dX10_belowProperty_96 rfl (lv_at hl 4 rfl) ?_
          refine lv_iload hx hb dX10_belowProperty_97 (lv_at hl 0 rfl) ?_
          refine hy_ret (hy_rVN (T := (M, Mr, Mo)) (v := some (.int (Ve_signAt a1 a2 (Ph_syllableOf ((Ph_firstOf (Or_phraseAt a2 M) M) + a3) M) M))) (T2 := (M, Mr, Mo)) (As := [.int a1, .int a2, .int (Ph_syllableOf ((Ph_firstOf (Or_phraseAt a2 M) M) + a3) M)]) (rest := []) (n := 0) hx hb hml hown hts hX hP hS hl (c_Ve_signAt Mr Mo a1 a2 (Ph_syllableOf ((Ph_firstOf (Or_phraseAt a2 M) M) + a3) M) M rfl) m_Ve_signAt q_867 (hy_recv hX hP 9 8 (by decide) rfl rfl) rfl rfl (Nat.le_of_ble_eq_true rfl) dX10_belowProperty_99 ⟨Nat.le_of_ble_eq_true rfl, Nat.le_of_ble_eq_true rfl⟩ ⟨Nat.zero_le _, Nat.zero_le _⟩) hS (fun H locs hP hS => ?_)
          exact hy_iret (T := (M, Mr, Mo)) hx hb hr hlocks hP hS (Nat.zero_le _) (Nat.zero_le _) (by rw [← h] <;> rfl) dX10_belowProperty_102
        · rw [if_neg c4] at h
          refine lv_tableOut (tgt := 103) hx hb dX10_belowProperty_48 (hy_tabOut 0 a4 3 (fun k hk => by match k, hk with | 0, _ => exact c2 | 1, _ => exact c3 | 2, _ => exact c4 | k9 + 3, hk => exact absurd hk (by omega))) (by decide) ?_
          refine lv_aload_n hx hb dX10_belowProperty_103 rfl (lv_at hl 2 rfl) ?_
          refine hy_get (T := (M, Mr, Mo)) (o := 0) (k := 3) (v := .ref (adr G 9)) hx hb hown hts hX hP (by decide) rfl rfl inX10g (by decide) q_296 rfl dX10_belowProperty_104 ?_
          refine lv_iload_n hx hb dX10_belowProperty_107 rfl (lv_at hl 3 rfl) ?_
          refine lv_iload_n hx hb dX10_belowProperty_108 rfl (lv_at hl 4 rfl) ?_
          refine lv_iload hx hb dX10_belowProperty_109 (lv_at hl 0 rfl) ?_
          refine hy_ret (hy_rVN (T := (M, Mr, Mo)) (v := some (.int (bI (Ve_isLinked a1 a2 (Ph_syllableOf ((Ph_firstOf (Or_phraseAt a2 M) M) + a3) M) M)))) (T2 := (M, Mr, Mo)) (As := [.int a1, .int a2, .int (Ph_syllableOf ((Ph_firstOf (Or_phraseAt a2 M) M) + a3) M)]) (rest := []) (n := 0) hx hb hml hown hts hX hP hS hl (c_Ve_isLinked Mr Mo a1 a2 (Ph_syllableOf ((Ph_firstOf (Or_phraseAt a2 M) M) + a3) M) M rfl) m_Ve_isLinked q_871 (hy_recv hX hP 9 8 (by decide) rfl rfl) rfl rfl (Nat.le_of_ble_eq_true rfl) dX10_belowProperty_111 ⟨Nat.le_of_ble_eq_true rfl, Nat.le_of_ble_eq_true rfl⟩ ⟨Nat.zero_le _, Nat.zero_le _⟩) hS (fun H locs hP hS => ?_)
          refine hy_ret (hy_rS0 (T := (M, Mr, Mo)) (v := some (.int (Hp_flag (Ve_isLinked a1 a2 (Ph_syllableOf ((Ph_firstOf (Or_phraseAt a2 M) M) + a3) M) M) M))) (T2 := (M, Mr, Mo)) (As := [.int (bI (Ve_isLinked a1 a2 (Ph_syllableOf ((Ph_firstOf (Or_phraseAt a2 M) M) + a3) M) M))]) (rest := []) (n := 0) hx hb hml hown hts hX hP hS hl (c_Hp_flag Mr Mo (Ve_isLinked a1 a2 (Ph_syllableOf ((Ph_firstOf (Or_phraseAt a2 M) M) + a3) M) M) M rfl) m_Hp_flag q_603 rfl rfl (Nat.le_of_ble_eq_true rfl) dX10_belowProperty_114 ⟨Nat.le_of_ble_eq_true rfl, Nat.le_of_ble_eq_true rfl⟩ ⟨Nat.zero_le _, Nat.zero_le _⟩) hS (fun H locs hP hS => ?_)
          exact hy_iret (T := (M, Mr, Mo)) hx hb hr hlocks hP hS (Nat.zero_le _) (Nat.zero_le _) (by rw [← h] <;> rfl) dX10_belowProperty_117
  · rw [if_neg (bI_0 c1)] at h
    refine lv_iconst (v := (-1)) hx hb dX10_belowProperty_44 rfl ?_
    exact hy_iret (T := (M, Mr, Mo)) hx hb hr hlocks hP hS (Nat.zero_le _) (Nat.zero_le _) (by rw [← h] <;> rfl) dX10_belowProperty_45
