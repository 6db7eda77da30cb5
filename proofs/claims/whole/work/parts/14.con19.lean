set_option maxHeartbeats 1000000 in
set_option maxRecDepth 100000 in
theorem c_La_append {l : Launch} {G : hyG} (hlt : l.stackTraces = false) (a1 : Int32) (T : hyT) {res : (Int32 × hyT)} (h : La_append a1 T = some res) : hyC2 l yL_append (.codeWith yL_append cL_append 4 (some .int) [(0, 9, 12, 13), (0, 9, 15, 19)]) 8 133 (1) G [.ref (adr G 0), .int a1, .ref (adr G 51)] T (.inr (some (.int res.1)), res.2) := by
  refine hy_ofH2 (by decide +kernel) (Nat.le_of_ble_eq_true rfl) ?_
  intro p e s m below meth c hx hb hml hown hts hr hlocks ht hX hP hS hN ls hl
  have hl : lv_has ls 4 [(0, .ref (adr G 0)), (1, .int a1), (2, .ref (adr G 51))] := hl
  rw [La_append] at h
  refine lv_aload_n hx hb dL_append_0 rfl (lv_at hl 2 rfl) ?_
  refine lv_iconst (v := 0) hx hb dL_append_1 rfl ?_
  refine lv_aload_n hx hb dL_append_2 rfl (lv_at hl 0 rfl) ?_
  refine lv_iload_n hx hb dL_append_3 rfl (lv_at hl 1 rfl) ?_
  obtain ⟨u1, hu1⟩ : ∃ z, Hp_append a1 T.1 = z := ⟨_, rfl⟩
  rw [hu1] at h
  obtain ⟨u1, Zu1⟩ := u1
  rcases u1 with k2 | r3
  all_goals try dsimp only at h
  · refine hy_retX (ou := (.inl k2, (Zu1, T.2))) (n := 1) (k := 0) (hy_rV (T := T) (ou := (.inl k2, (Zu1, T.2))) (As := [.int a1]) (rest := [.int 0, .ref (adr G 51)]) (n := 1) hx hb hml hown hts hX hP hS hl (c_Hp_append hlt T.2.1 T.2.2 a1 T.1 (res := (.inl k2, Zu1)) hu1) m_Hp_append q_1027 (hy_recv hX hP 0 9 (by decide) rfl rfl) rfl rfl (Nat.le_of_ble_eq_true rfl) dL_append_4 ⟨Nat.le_of_ble_eq_true rfl, Nat.le_of_ble_eq_true rfl⟩ ⟨by decide, by decide⟩) hS (fun k hk q ce H locs hP hS hce hcv hcl => ?_) (fun v hv => by cases hv)
    cases hk
    by_cases hk0 : k2 = 1
    · subst hk0
      rw [if_pos rfl] at h
      refine vx_catch (name := "java/lang/IllegalArgumentException") hown [] ⟨0, 9, 12, 13⟩ [⟨0, 9, 15, 19⟩] ht (fun z hz => by cases hz) (by decide) (by decide) (hts _ q_803) (hX.2.2.2.1.use q_813 _) hce hcv hcl ?_
      refine lv_astore_n (lv' := [(3, .ref q), (0, .ref (adr G 0)), (1, .int a1), (2, .ref (adr G 51))]) hx hb dL_append_12 rfl hl (by decide) rfl (fun ls hl => ?_)
      refine lv_iconst (v := 1) hx hb dL_append_13 rfl ?_
      exact hy_iret (T := (Zu1, T.2)) hx hb hr hlocks hP hS (by decide) (by decide) (by rw [← (Option.some.inj h)] <;> rfl) dL_append_14
    · rw [if_neg hk0] at h
      by_cases hk1 : k2 = 2
      · subst hk1
        rw [if_pos rfl] at h
        refine vx_catch (name := "java/lang/IllegalStateException") hown [⟨0, 9, 12, 13⟩] ⟨0, 9, 15, 19⟩ [] ht (fun z hz => by
      rcases List.mem_cons.mp hz with rfl | hz
      · exact Or.inr ⟨by decide, _, hts _ q_803, hN 2 1 (by decide) (by decide) (by decide)⟩
      · cases hz) (by decide) (by decide) (hts _ q_895) (hX.2.2.2.1.use q_905 _) hce hcv hcl ?_
        refine lv_astore_n (lv' := [(3, .ref q), (0, .ref (adr G 0)), (1, .int a1), (2, .ref (adr G 51))]) hx hb dL_append_15 rfl hl (by decide) rfl (fun ls hl => ?_)
        refine lv_iconst (v := 2) hx hb dL_append_16 rfl ?_
        exact hy_iret (T := (Zu1, T.2)) hx hb hr hlocks hP hS (by decide) (by decide) (by rw [← (Option.some.inj h)] <;> rfl) dL_append_17
      · rw [if_neg hk1] at h
        cases h
  · refine hy_retX (ou := (.inr (some (.int r3)), (Zu1, T.2))) (n := 0) (k := 0) (hy_rV (T := T) (ou := (.inr (some (.int r3)), (Zu1, T.2))) (As := [.int a1]) (rest := [.int 0, .ref (adr G 51)]) (n := 0) hx hb hml hown hts hX hP hS hl (c_Hp_append hlt T.2.1 T.2.2 a1 T.1 (res := (.inr r3, Zu1)) hu1) m_Hp_append q_1027 (hy_recv hX hP 0 9 (by decide) rfl rfl) rfl rfl (Nat.le_of_ble_eq_true rfl) dL_append_4 ⟨Nat.le_of_ble_eq_true rfl, Nat.le_of_ble_eq_true rfl⟩ ⟨Nat.zero_le _, Nat.zero_le _⟩) hS (fun k hk => by cases hk) (fun v hv H locs hP hS => ?_)
    cases hv
    refine lv_i2l (v := r3.toInt64) hx hb dL_append_7 rfl ?_
    refine hy_last (T := (Zu1, T.2)) (T2 := (wTL (Zu1, T.2) 51 0 r3.toInt64)) hx hb hX hP hS (by decide) rfl dL_append_8 (fun H locs hP hS => ?_)
    obtain ⟨T4, hT4, h⟩ := hy_bind h
    rw [Option.some.inj hT4] at hP
    refine lv_goto (tgt := 18) hx hb dL_append_9 (by decide) ?_
    refine lv_iconst (v := 0) hx hb dL_append_18 rfl ?_
    exact hy_iret (T := T4) hx hb hr hlocks hP hS (by decide) (by decide) (by rw [← (Option.some.inj h)] <;> rfl) dL_append_19
set_option maxHeartbeats 1000000 in
set_option maxRecDepth 100000 in
theorem c_La_setLine {l : Launch} {G : hyG} (hlt : l.stackTraces = false) (a1 : Int32) (a2 : Int32) (T : hyT) {res : (Int32 × hyT)} (h : La_setLine a1 a2 T = some res) : hyC2 l yL_setLine (.codeWith yL_setLine cL_setLine 5 (some .int) [(0, 10, 13, 29), (0, 10, 17, 13)]) 8 160 (1) G [.ref (adr G 0), .int a1, .int a2, .ref (adr G 51)] T (.inr (some (.int res.1)), res.2) := by
  refine hy_ofH2 (by decide +kernel) (Nat.le_of_ble_eq_true rfl) ?_
  intro p e s m below meth c hx hb hml hown hts hr hlocks ht hX hP hS hN ls hl
  have hl : lv_has ls 5 [(0, .ref (adr G 0)), (1, .int a1), (2, .int a2), (3, .ref (adr G 51))] := hl
  rw [La_setLine] at h
  refine lv_aload_n hx hb dL_setLine_0 rfl (lv_at hl 3 rfl) ?_
  refine lv_iconst (v := 0) hx hb dL_setLine_1 rfl ?_
  refine lv_aload_n hx hb dL_setLine_2 rfl (lv_at hl 0 rfl) ?_
  refine lv_iload_n hx hb dL_setLine_3 rfl (lv_at hl 1 rfl) ?_
  refine lv_iload_n hx hb dL_setLine_4 rfl (lv_at hl 2 rfl) ?_
  obtain ⟨u1, hu1, h⟩ := hy_bind h
  obtain ⟨u1, Zu1⟩ := u1
  rcases u1 with k2 | r3
  all_goals try dsimp only at h
  · refine hy_retX (ou := (.inl k2, (Zu1, T.2))) (n := 1) (k := 0) (hy_rV (T := T) (ou := (.inl k2, (Zu1, T.2))) (As := [.int a1, .int a2]) (rest := [.int 0, .ref (adr G 51)]) (n := 1) hx hb hml hown hts hX hP hS hl (c_Hp_setLine hlt T.2.1 T.2.2 a1 a2 T.1 (res := (.inl k2, Zu1)) hu1) m_Hp_setLine q_1040 (hy_recv hX hP 0 9 (by decide) rfl rfl) rfl rfl (Nat.le_of_ble_eq_true rfl) dL_setLine_5 ⟨Nat.le_of_ble_eq_true rfl, Nat.le_of_ble_eq_true rfl⟩ ⟨by decide, by decide⟩) hS (fun k hk q ce H locs hP hS hce hcv hcl => ?_) (fun v hv => by cases hv)
    cases hk
    by_cases hk0 : k2 = 3
    · subst hk0
      rw [if_pos rfl] at h
      refine vx_catch (name := "java/lang/IndexOutOfBoundsException") hown [] ⟨0, 10, 13, 29⟩ [⟨0, 10, 17, 13⟩] ht (fun z hz => by cases hz) (by decide) (by decide) (hts _ q_947) (hX.2.2.2.1.use q_957 _) hce hcv hcl ?_
      refine lv_astore (lv' := [(4, .ref q), (0, .ref (adr G 0)), (1, .int a1), (2, .int a2), (3, .ref (adr G 51))]) hx hb dL_setLine_13 hl (by decide) rfl (fun ls hl => ?_)
      refine lv_iconst (v := 1) hx hb dL_setLine_15 rfl ?_
      exact hy_iret (T := (Zu1, T.2)) hx hb hr hlocks hP hS (by decide) (by decide) (by rw [← (Option.some.inj h)] <;> rfl) dL_setLine_16
    · rw [if_neg hk0] at h
      by_cases hk1 : k2 = 1
      · subst hk1
        rw [if_pos rfl] at h
        refine vx_catch (name := "java/lang/IllegalArgumentException") hown [⟨0, 10, 13, 29⟩] ⟨0, 10, 17, 13⟩ [] ht (fun z hz => by
      rcases List.mem_cons.mp hz with rfl | hz
      · exact Or.inr ⟨by decide, _, hts _ q_947, hN 1 3 (by decide) (by decide) (by decide)⟩
      · cases hz) (by decide) (by decide) (hts _ q_803) (hX.2.2.2.1.use q_813 _) hce hcv hcl ?_
        refine lv_astore (lv' := [(4, .ref q), (0, .ref (adr G 0)), (1, .int a1), (2, .int a2), (3, .ref (adr G 51))]) hx hb dL_setLine_17 hl (by decide) rfl (fun ls hl => ?_)
        refine lv_iconst (v := 2) hx hb dL_setLine_19 rfl ?_
        exact hy_iret (T := (Zu1, T.2)) hx hb hr hlocks hP hS (by decide) (by decide) (by rw [← (Option.some.inj h)] <;> rfl) dL_setLine_20
      · rw [if_neg hk1] at h
        cases h
  · refine hy_retX (ou := (.inr (some (.int r3)), (Zu1, T.2))) (n := 0) (k := 0) (hy_rV (T := T) (ou := (.inr (some (.int r3)), (Zu1, T.2))) (As := [.int a1, .int a2]) (rest := [.int 0, .ref (adr G 51)]) (n := 0) hx hb hml hown hts hX hP hS hl (c_Hp_setLine hlt T.2.1 T.2.2 a1 a2 T.1 (res := (.inr r3, Zu1)) hu1) m_Hp_setLine q_1040 (hy_recv hX hP 0 9 (by decide) rfl rfl) rfl rfl (Nat.le_of_ble_eq_true rfl) dL_setLine_5 ⟨Nat.le_of_ble_eq_true rfl, Nat.le_of_ble_eq_true rfl⟩ ⟨Nat.zero_le _, Nat.zero_le _⟩) hS (fun k hk => by cases hk) (fun v hv H locs hP hS => ?_)
    cases hv
    refine lv_i2l (v := r3.toInt64) hx hb dL_setLine_8 rfl ?_
    refine hy_last (T := (Zu1, T.2)) (T2 := (wTL (Zu1, T.2) 51 0 r3.toInt64)) hx hb hX hP hS (by decide) rfl dL_setLine_9 (fun H locs hP hS => ?_)
    obtain ⟨T4, hT4, h⟩ := hy_bind h
    rw [Option.some.inj hT4] at hP
    refine lv_goto (tgt := 21) hx hb dL_setLine_10 (by decide) ?_
    refine lv_iconst (v := 0) hx hb dL_setLine_21 rfl ?_
    exact hy_iret (T := T4) hx hb hr hlocks hP hS (by decide) (by decide) (by rw [← (Option.some.inj h)] <;> rfl) dL_setLine_22
set_option maxHeartbeats 1000000 in
set_option maxRecDepth 100000 in
theorem c_La_clearVerse {l : Launch} {G : hyG} (hlt : l.stackTraces = false) (a1 : Int32) (T : hyT) {res : (Int32 × hyT)} (h : La_clearVerse a1 T = some res) : hyC2 l yL_clearVerse (.codeWith yL_clearVerse cL_clearVerse 4 (some .int) [(0, 9, 12, 29)]) 8 160 (1) G [.ref (adr G 0), .int a1, .ref (adr G 51)] T (.inr (some (.int res.1)), res.2) := by
  refine hy_ofH2 (by decide +kernel) (Nat.le_of_ble_eq_true rfl) ?_
  intro p e s m below meth c hx hb hml hown hts hr hlocks ht hX hP hS hN ls hl
  have hl : lv_has ls 4 [(0, .ref (adr G 0)), (1, .int a1), (2, .ref (adr G 51))] := hl
  rw [La_clearVerse] at h
  refine lv_aload_n hx hb dL_clearVerse_0 rfl (lv_at hl 2 rfl) ?_
  refine lv_iconst (v := 0) hx hb dL_clearVerse_1 rfl ?_
  refine lv_aload_n hx hb dL_clearVerse_2 rfl (lv_at hl 0 rfl) ?_
  refine lv_iload_n hx hb dL_clearVerse_3 rfl (lv_at hl 1 rfl) ?_
  obtain ⟨u1, hu1, h⟩ := hy_bind h
  obtain ⟨u1, Zu1⟩ := u1
  rcases u1 with k2 | r3
  all_goals try dsimp only at h
  · refine hy_retX (ou := (.inl k2, (Zu1, T.2))) (n := 1) (k := 0) (hy_rV (T := T) (ou := (.inl k2, (Zu1, T.2))) (As := [.int a1]) (rest := [.int 0, .ref (adr G 51)]) (n := 1) hx hb hml hown hts hX hP hS hl (c_Hp_clearVerse hlt T.2.1 T.2.2 a1 T.1 (res := (.inl k2, Zu1)) hu1) m_Hp_clearVerse q_1063 (hy_recv hX hP 0 9 (by decide) rfl rfl) rfl rfl (Nat.le_of_ble_eq_true rfl) dL_clearVerse_4 ⟨Nat.le_of_ble_eq_true rfl, Nat.le_of_ble_eq_true rfl⟩ ⟨by decide, by decide⟩) hS (fun k hk q ce H locs hP hS hce hcv hcl => ?_) (fun v hv => by cases hv)
    cases hk
    by_cases hk0 : k2 = 3
    · subst hk0
      rw [if_pos rfl] at h
      refine vx_catch (name := "java/lang/IndexOutOfBoundsException") hown [] ⟨0, 9, 12, 29⟩ [] ht (fun z hz => by cases hz) (by decide) (by decide) (hts _ q_947) (hX.2.2.2.1.use q_957 _) hce hcv hcl ?_
      refine lv_astore_n (lv' := [(3, .ref q), (0, .ref (adr G 0)), (1, .int a1), (2, .ref (adr G 51))]) hx hb dL_clearVerse_12 rfl hl (by decide) rfl (fun ls hl => ?_)
      refine lv_iconst (v := 1) hx hb dL_clearVerse_13 rfl ?_
      exact hy_iret (T := (Zu1, T.2)) hx hb hr hlocks hP hS (by decide) (by decide) (by rw [← (Option.some.inj h)] <;> rfl) dL_clearVerse_14
    · rw [if_neg hk0] at h
      cases h
  · refine hy_retX (ou := (.inr (some (.int r3)), (Zu1, T.2))) (n := 0) (k := 0) (hy_rV (T := T) (ou := (.inr (some (.int r3)), (Zu1, T.2))) (As := [.int a1]) (rest := [.int 0, .ref (adr G 51)]) (n := 0) hx hb hml hown hts hX hP hS hl (c_Hp_clearVerse hlt T.2.1 T.2.2 a1 T.1 (res := (.inr r3, Zu1)) hu1) m_Hp_clearVerse q_1063 (hy_recv hX hP 0 9 (by decide) rfl rfl) rfl rfl (Nat.le_of_ble_eq_true rfl) dL_clearVerse_4 ⟨Nat.le_of_ble_eq_true rfl, Nat.le_of_ble_eq_true rfl⟩ ⟨Nat.zero_le _, Nat.zero_le _⟩) hS (fun k hk => by cases hk) (fun v hv H locs hP hS => ?_)
    cases hv
    refine lv_i2l (v := r3.toInt64) hx hb dL_clearVerse_7 rfl ?_
    refine hy_last (T := (Zu1, T.2)) (T2 := (wTL (Zu1, T.2) 51 0 r3.toInt64)) hx hb hX hP hS (by decide) rfl dL_clearVerse_8 (fun H locs hP hS => ?_)
    obtain ⟨T4, hT4, h⟩ := hy_bind h
    rw [Option.some.inj hT4] at hP
    refine lv_goto (tgt := 15) hx hb dL_clearVerse_9 (by decide) ?_
    refine lv_iconst (v := 0) hx hb dL_clearVerse_15 rfl ?_
    exact hy_iret (T := T4) hx hb hr hlocks hP hS (by decide) (by decide) (by rw [← (Option.some.inj h)] <;> rfl) dL_clearVerse_16
set_option maxHeartbeats 1000000 in
set_option maxRecDepth 100000 in
theorem c_La_addMetre {l : Launch} {G : hyG} (hlt : l.stackTraces = false) (T : hyT) {res : (Int32 × hyT)} (h : La_addMetre T = some res) : hyC2 l yL_addMetre (.codeWith yL_addMetre cL_addMetre 3 (some .int) [(0, 8, 11, 13), (0, 8, 14, 19)]) 7 130 (1) G [.ref (adr G 0), .ref (adr G 51)] T (.inr (some (.int res.1)), res.2) := by
  refine hy_ofH2 (by decide +kernel) (Nat.le_of_ble_eq_true rfl) ?_
  intro p e s m below meth c hx hb hml hown hts hr hlocks ht hX hP hS hN ls hl
  have hl : lv_has ls 3 [(0, .ref (adr G 0)), (1, .ref (adr G 51))] := hl
  rw [La_addMetre] at h
  refine lv_aload_n hx hb dL_addMetre_0 rfl (lv_at hl 1 rfl) ?_
  refine lv_iconst (v := 0) hx hb dL_addMetre_1 rfl ?_
  refine lv_aload_n hx hb dL_addMetre_2 rfl (lv_at hl 0 rfl) ?_
  obtain ⟨u1, hu1, h⟩ := hy_bind h
  obtain ⟨u1, Zu1⟩ := u1
  rcases u1 with k2 | r3
  all_goals try dsimp only at h
  · refine hy_retX (ou := (.inl k2, (Zu1, T.2))) (n := 1) (k := 0) (hy_rV (T := T) (ou := (.inl k2, (Zu1, T.2))) (As := []) (rest := [.int 0, .ref (adr G 51)]) (n := 1) hx hb hml hown hts hX hP hS hl (c_Hp_addMetre hlt T.2.1 T.2.2 T.1 (res := (.inl k2, Zu1)) hu1) m_Hp_addMetre q_1070 (hy_recv hX hP 0 9 (by decide) rfl rfl) rfl rfl (Nat.le_of_ble_eq_true rfl) dL_addMetre_3 ⟨Nat.le_of_ble_eq_true rfl, Nat.le_of_ble_eq_true rfl⟩ ⟨by decide, by decide⟩) hS (fun k hk q ce H locs hP hS hce hcv hcl => ?_) (fun v hv => by cases hv)
    cases hk
    by_cases hk0 : k2 = 1
    · subst hk0
      rw [if_pos rfl] at h
      refine vx_catch (name := "java/lang/IllegalArgumentException") hown [] ⟨0, 8, 11, 13⟩ [⟨0, 8, 14, 19⟩] ht (fun z hz => by cases hz) (by decide) (by decide) (hts _ q_803) (hX.2.2.2.1.use q_813 _) hce hcv hcl ?_
      refine lv_astore_n (lv' := [(2, .ref q), (0, .ref (adr G 0)), (1, .ref (adr G 51))]) hx hb dL_addMetre_11 rfl hl (by decide) rfl (fun ls hl => ?_)
      refine lv_iconst (v := 1) hx hb dL_addMetre_12 rfl ?_
      exact hy_iret (T := (Zu1, T.2)) hx hb hr hlocks hP hS (by decide) (by decide) (by rw [← (Option.some.inj h)] <;> rfl) dL_addMetre_13
    · rw [if_neg hk0] at h
      by_cases hk1 : k2 = 2
      · subst hk1
        rw [if_pos rfl] at h
        refine vx_catch (name := "java/lang/IllegalStateException") hown [⟨0, 8, 11, 13⟩] ⟨0, 8, 14, 19⟩ [] ht (fun z hz => by
      rcases List.mem_cons.mp hz with rfl | hz
      · exact Or.inr ⟨by decide, _, hts _ q_803, hN 2 1 (by decide) (by decide) (by decide)⟩
      · cases hz) (by decide) (by decide) (hts _ q_895) (hX.2.2.2.1.use q_905 _) hce hcv hcl ?_
        refine lv_astore_n (lv' := [(2, .ref q), (0, .ref (adr G 0)), (1, .ref (adr G 51))]) hx hb dL_addMetre_14 rfl hl (by decide) rfl (fun ls hl => ?_)
        refine lv_iconst (v := 2) hx hb dL_addMetre_15 rfl ?_
        exact hy_iret (T := (Zu1, T.2)) hx hb hr hlocks hP hS (by decide) (by decide) (by rw [← (Option.some.inj h)] <;> rfl) dL_addMetre_16
      · rw [if_neg hk1] at h
        cases h
  · refine hy_retX (ou := (.inr (some (.int r3)), (Zu1, T.2))) (n := 0) (k := 0) (hy_rV (T := T) (ou := (.inr (some (.int r3)), (Zu1, T.2))) (As := []) (rest := [.int 0, .ref (adr G 51)]) (n := 0) hx hb hml hown hts hX hP hS hl (c_Hp_addMetre hlt T.2.1 T.2.2 T.1 (res := (.inr r3, Zu1)) hu1) m_Hp_addMetre q_1070 (hy_recv hX hP 0 9 (by decide) rfl rfl) rfl rfl (Nat.le_of_ble_eq_true rfl) dL_addMetre_3 ⟨Nat.le_of_ble_eq_true rfl, Nat.le_of_ble_eq_true rfl⟩ ⟨Nat.zero_le _, Nat.zero_le _⟩) hS (fun k hk => by cases hk) (fun v hv H locs hP hS => ?_)
    cases hv
    refine lv_i2l (v := r3.toInt64) hx hb dL_addMetre_6 rfl ?_
    refine hy_last (T := (Zu1, T.2)) (T2 := (wTL (Zu1, T.2) 51 0 r3.toInt64)) hx hb hX hP hS (by decide) rfl dL_addMetre_7 (fun H locs hP hS => ?_)
    obtain ⟨T4, hT4, h⟩ := hy_bind h
    rw [Option.some.inj hT4] at hP
    refine lv_goto (tgt := 17) hx hb dL_addMetre_8 (by decide) ?_
    refine lv_iconst (v := 0) hx hb dL_addMetre_17 rfl ?_
    exact hy_iret (T := T4) hx hb hr hlocks hP hS (by decide) (by decide) (by rw [← (Option.some.inj h)] <;> rfl) dL_addMetre_18
set_option maxHeartbeats 1000000 in
set_option maxRecDepth 100000 in
theorem c_La_dropMetre {l : Launch} {G : hyG} (hlt : l.stackTraces = false) (a1 : Int32) (T : hyT) {res : (Int32 × hyT)} (h : La_dropMetre a1 T = some res) : hyC2 l yL_dropMetre (.codeWith yL_dropMetre cL_dropMetre 4 (some .int) [(0, 9, 12, 29)]) 8 132 (1) G [.ref (adr G 0), .int a1, .ref (adr G 51)] T (.inr (some (.int res.1)), res.2) := by
  refine hy_ofH2 (by decide +kernel) (Nat.le_of_ble_eq_true rfl) ?_
  intro p e s m below meth c hx hb hml hown hts hr hlocks ht hX hP hS hN ls hl
  have hl : lv_has ls 4 [(0, .ref (adr G 0)), (1, .int a1), (2, .ref (adr G 51))] := hl
  rw [La_dropMetre] at h
  refine lv_aload_n hx hb dL_dropMetre_0 rfl (lv_at hl 2 rfl) ?_
  refine lv_iconst (v := 0) hx hb dL_dropMetre_1 rfl ?_
  refine lv_aload_n hx hb dL_dropMetre_2 rfl (lv_at hl 0 rfl) ?_
  refine lv_iload_n hx hb dL_dropMetre_3 rfl (lv_at hl 1 rfl) ?_
  obtain ⟨u1, hu1, h⟩ := hy_bind h
  obtain ⟨u1, Zu1⟩ := u1
  rcases u1 with k2 | r3
  all_goals try dsimp only at h
  · refine hy_retX (ou := (.inl k2, (Zu1, T.2))) (n := 1) (k := 0) (hy_rV (T := T) (ou := (.inl k2, (Zu1, T.2))) (As := [.int a1]) (rest := [.int 0, .ref (adr G 51)]) (n := 1) hx hb hml hown hts hX hP hS hl (c_Hp_dropMetre hlt T.2.1 T.2.2 a1 T.1 (res := (.inl k2, Zu1)) hu1) m_Hp_dropMetre q_1101 (hy_recv hX hP 0 9 (by decide) rfl rfl) rfl rfl (Nat.le_of_ble_eq_true rfl) dL_dropMetre_4 ⟨Nat.le_of_ble_eq_true rfl, Nat.le_of_ble_eq_true rfl⟩ ⟨by decide, by decide⟩) hS (fun k hk q ce H locs hP hS hce hcv hcl => ?_) (fun v hv => by cases hv)
    cases hk
    by_cases hk0 : k2 = 3
    · subst hk0
      rw [if_pos rfl] at h
      refine vx_catch (name := "java/lang/IndexOutOfBoundsException") hown [] ⟨0, 9, 12, 29⟩ [] ht (fun z hz => by cases hz) (by decide) (by decide) (hts _ q_947) (hX.2.2.2.1.use q_957 _) hce hcv hcl ?_
      refine lv_astore_n (lv' := [(3, .ref q), (0, .ref (adr G 0)), (1, .int a1), (2, .ref (adr G 51))]) hx hb dL_dropMetre_12 rfl hl (by decide) rfl (fun ls hl => ?_)
      refine lv_iconst (v := 1) hx hb dL_dropMetre_13 rfl ?_
      exact hy_iret (T := (Zu1, T.2)) hx hb hr hlocks hP hS (by decide) (by decide) (by rw [← (Option.some.inj h)] <;> rfl) dL_dropMetre_14
    · rw [if_neg hk0] at h
      cases h
  · refine hy_retX (ou := (.inr (some (.int r3)), (Zu1, T.2))) (n := 0) (k := 0) (hy_rV (T := T) (ou := (.inr (some (.int r3)), (Zu1, T.2))) (As := [.int a1]) (rest := [.int 0, .ref (adr G 51)]) (n := 0) hx hb hml hown hts hX hP hS hl (c_Hp_dropMetre hlt T.2.1 T.2.2 a1 T.1 (res := (.inr r3, Zu1)) hu1) m_Hp_dropMetre q_1101 (hy_recv hX hP 0 9 (by decide) rfl rfl) rfl rfl (Nat.le_of_ble_eq_true rfl) dL_dropMetre_4 ⟨Nat.le_of_ble_eq_true rfl, Nat.le_of_ble_eq_true rfl⟩ ⟨Nat.zero_le _, Nat.zero_le _⟩) hS (fun k hk => by cases hk) (fun v hv H locs hP hS => ?_)
    cases hv
    refine lv_i2l (v := r3.toInt64) hx hb dL_dropMetre_7 rfl ?_
    refine hy_last (T := (Zu1, T.2)) (T2 := (wTL (Zu1, T.2) 51 0 r3.toInt64)) hx hb hX hP hS (by decide) rfl dL_dropMetre_8 (fun H locs hP hS => ?_)
    obtain ⟨T4, hT4, h⟩ := hy_bind h
    rw [Option.some.inj hT4] at hP
    refine lv_goto (tgt := 15) hx hb dL_dropMetre_9 (by decide) ?_
    refine lv_iconst (v := 0) hx hb dL_dropMetre_15 rfl ?_
    exact hy_iret (T := T4) hx hb hr hlocks hP hS (by decide) (by decide) (by rw [← (Option.some.inj h)] <;> rfl) dL_dropMetre_16
set_option maxHeartbeats 1000000 in
set_option maxRecDepth 100000 in
theorem c_La_note {l : Launch} {G : hyG} (hlt : l.stackTraces = false) (a1 : Int32) (a2 : Int32) (T : hyT) {res : (Int32 × hyT)} (h : La_note a1 a2 T = some res) : hyC2 l yL_note (.codeWith yL_note cL_note 5 (some .int) [(0, 10, 13, 29), (0, 10, 17, 13)]) 8 143 (1) G [.ref (adr G 0), .int a1, .int a2, .ref (adr G 51)] T (.inr (some (.int res.1)), res.2) := by
  refine hy_ofH2 (by decide +kernel) (Nat.le_of_ble_eq_true rfl) ?_
  intro p e s m below meth c hx hb hml hown hts hr hlocks ht hX hP hS hN ls hl
  have hl : lv_has ls 5 [(0, .ref (adr G 0)), (1, .int a1), (2, .int a2), (3, .ref (adr G 51))] := hl
  rw [La_note] at h
  refine lv_aload_n hx hb dL_note_0 rfl (lv_at hl 3 rfl) ?_
  refine lv_iconst (v := 0) hx hb dL_note_1 rfl ?_
  refine lv_aload_n hx hb dL_note_2 rfl (lv_at hl 0 rfl) ?_
  refine lv_iload_n hx hb dL_note_3 rfl (lv_at hl 1 rfl) ?_
  refine lv_iload_n hx hb dL_note_4 rfl (lv_at hl 2 rfl) ?_
  obtain ⟨u1, hu1, h⟩ := hy_bind h
  rcases u1 with k2 | r3
  all_goals try dsimp only at h
  · refine hy_retX (ou := (.inl k2, T)) (n := 1) (k := 0) (hy_rV (T := T) (ou := (.inl k2, T)) (As := [.int a1, .int a2]) (rest := [.int 0, .ref (adr G 51)]) (n := 1) hx hb hml hown hts hX hP hS hl (c_Hp_note hlt T.2.1 T.2.2 a1 a2 T.1 (res := .inl k2) hu1) m_Hp_note q_1112 (hy_recv hX hP 0 9 (by decide) rfl rfl) rfl rfl (Nat.le_of_ble_eq_true rfl) dL_note_5 ⟨Nat.le_of_ble_eq_true rfl, Nat.le_of_ble_eq_true rfl⟩ ⟨by decide, by decide⟩) hS (fun k hk q ce H locs hP hS hce hcv hcl => ?_) (fun v hv => by cases hv)
    cases hk
    by_cases hk0 : k2 = 3
    · subst hk0
      rw [if_pos rfl] at h
      refine vx_catch (name := "java/lang/IndexOutOfBoundsException") hown [] ⟨0, 10, 13, 29⟩ [⟨0, 10, 17, 13⟩] ht (fun z hz => by cases hz) (by decide) (by decide) (hts _ q_947) (hX.2.2.2.1.use q_957 _) hce hcv hcl ?_
      refine lv_astore (lv' := [(4, .ref q), (0, .ref (adr G 0)), (1, .int a1), (2, .int a2), (3, .ref (adr G 51))]) hx hb dL_note_13 hl (by decide) rfl (fun ls hl => ?_)
      refine lv_iconst (v := 1) hx hb dL_note_15 rfl ?_
      exact hy_iret (T := T) hx hb hr hlocks hP hS (by decide) (by decide) (by rw [← (Option.some.inj h)] <;> rfl) dL_note_16
    · rw [if_neg hk0] at h
      by_cases hk1 : k2 = 1
      · subst hk1
        rw [if_pos rfl] at h
        refine vx_catch (name := "java/lang/IllegalArgumentException") hown [⟨0, 10, 13, 29⟩] ⟨0, 10, 17, 13⟩ [] ht (fun z hz => by
      rcases List.mem_cons.mp hz with rfl | hz
      · exact Or.inr ⟨by decide, _, hts _ q_947, hN 1 3 (by decide) (by decide) (by decide)⟩
      · cases hz) (by decide) (by decide) (hts _ q_803) (hX.2.2.2.1.use q_813 _) hce hcv hcl ?_
        refine lv_astore (lv' := [(4, .ref q), (0, .ref (adr G 0)), (1, .int a1), (2, .int a2), (3, .ref (adr G 51))]) hx hb dL_note_17 hl (by decide) rfl (fun ls hl => ?_)
        refine lv_iconst (v := 2) hx hb dL_note_19 rfl ?_
        exact hy_iret (T := T) hx hb hr hlocks hP hS (by decide) (by decide) (by rw [← (Option.some.inj h)] <;> rfl) dL_note_20
      · rw [if_neg hk1] at h
        cases h
  · refine hy_retX (ou := (.inr (some (.int r3)), T)) (n := 0) (k := 0) (hy_rV (T := T) (ou := (.inr (some (.int r3)), T)) (As := [.int a1, .int a2]) (rest := [.int 0, .ref (adr G 51)]) (n := 0) hx hb hml hown hts hX hP hS hl (c_Hp_note hlt T.2.1 T.2.2 a1 a2 T.1 (res := .inr r3) hu1) m_Hp_note q_1112 (hy_recv hX hP 0 9 (by decide) rfl rfl) rfl rfl (Nat.le_of_ble_eq_true rfl) dL_note_5 ⟨Nat.le_of_ble_eq_true rfl, Nat.le_of_ble_eq_true rfl⟩ ⟨Nat.zero_le _, Nat.zero_le _⟩) hS (fun k hk => by cases hk) (fun v hv H locs hP hS => ?_)
    cases hv
    refine lv_i2l (v := r3.toInt64) hx hb dL_note_8 rfl ?_
    refine hy_last (T := T) (T2 := (wTL T 51 0 r3.toInt64)) hx hb hX hP hS (by decide) rfl dL_note_9 (fun H locs hP hS => ?_)
    obtain ⟨T4, hT4, h⟩ := hy_bind h
    rw [Option.some.inj hT4] at hP
    refine lv_goto (tgt := 21) hx hb dL_note_10 (by decide) ?_
    refine lv_iconst (v := 0) hx hb dL_note_21 rfl ?_
    exact hy_iret (T := T4) hx hb hr hlocks hP hS (by decide) (by decide) (by rw [← (Option.some.inj h)] <;> rfl) dL_note_22
set_option maxHeartbeats 1000000 in
set_option maxRecDepth 100000 in
theorem c_La_part {l : Launch} {G : hyG} (hlt : l.stackTraces = false) (a1 : Int32) (a2 : Int32) (a3 : Int32) (T : hyT) {res : (Int32 × hyT)} (h : La_part a1 a2 a3 T = some res) : hyC2 l yL_part (.codeWith yL_part cL_part 6 (some .int) [(0, 12, 15, 29), (0, 12, 19, 13)]) 8 138 (1) G [.ref (adr G 0), .int a1, .int a2, .int a3, .ref (adr G 51)] T (.inr (some (.int res.1)), res.2) := by
  refine hy_ofH2 (by decide +kernel) (Nat.le_of_ble_eq_true rfl) ?_
  intro p e s m below meth c hx hb hml hown hts hr hlocks ht hX hP hS hN ls hl
  have hl : lv_has ls 6 [(0, .ref (adr G 0)), (1, .int a1), (2, .int a2), (3, .int a3), (4, .ref (adr G 51))] := hl
  rw [La_part] at h
  refine lv_aload hx hb dL_part_0 (lv_at hl 4 rfl) ?_
  refine lv_iconst (v := 0) hx hb dL_part_2 rfl ?_
  refine lv_aload_n hx hb dL_part_3 rfl (lv_at hl 0 rfl) ?_
  refine lv_iload_n hx hb dL_part_4 rfl (lv_at hl 1 rfl) ?_
  refine lv_iload_n hx hb dL_part_5 rfl (lv_at hl 2 rfl) ?_
  refine lv_iload_n hx hb dL_part_6 rfl (lv_at hl 3 rfl) ?_
  obtain ⟨u1, hu1, h⟩ := hy_bind h
  rcases u1 with k2 | r3
  all_goals try dsimp only at h
  · refine hy_retX (ou := (.inl k2, T)) (n := 1) (k := 0) (hy_rV (T := T) (ou := (.inl k2, T)) (As := [.int a1, .int a2, .int a3]) (rest := [.int 0, .ref (adr G 51)]) (n := 1) hx hb hml hown hts hX hP hS hl (c_Hp_part hlt T.2.1 T.2.2 a1 a2 a3 T.1 (res := .inl k2) hu1) m_Hp_part q_1119 (hy_recv hX hP 0 9 (by decide) rfl rfl) rfl rfl (Nat.le_of_ble_eq_true rfl) dL_part_7 ⟨Nat.le_of_ble_eq_true rfl, Nat.le_of_ble_eq_true rfl⟩ ⟨by decide, by decide⟩) hS (fun k hk q ce H locs hP hS hce hcv hcl => ?_) (fun v hv => by cases hv)
    cases hk
    by_cases hk0 : k2 = 3
    · subst hk0
      rw [if_pos rfl] at h
      refine vx_catch (name := "java/lang/IndexOutOfBoundsException") hown [] ⟨0, 12, 15, 29⟩ [⟨0, 12, 19, 13⟩] ht (fun z hz => by cases hz) (by decide) (by decide) (hts _ q_947) (hX.2.2.2.1.use q_957 _) hce hcv hcl ?_
      refine lv_astore (lv' := [(5, .ref q), (0, .ref (adr G 0)), (1, .int a1), (2, .int a2), (3, .int a3), (4, .ref (adr G 51))]) hx hb dL_part_15 hl (by decide) rfl (fun ls hl => ?_)
      refine lv_iconst (v := 1) hx hb dL_part_17 rfl ?_
      exact hy_iret (T := T) hx hb hr hlocks hP hS (by decide) (by decide) (by rw [← (Option.some.inj h)] <;> rfl) dL_part_18
    · rw [if_neg hk0] at h
      by_cases hk1 : k2 = 1
      · subst hk1
        rw [if_pos rfl] at h
        refine vx_catch (name := "java/lang/IllegalArgumentException") hown [⟨0, 12, 15, 29⟩] ⟨0, 12, 19, 13⟩ [] ht (fun z hz => by
      rcases List.mem_cons.mp hz with rfl | hz
      · exact Or.inr ⟨by decide, _, hts _ q_947, hN 1 3 (by decide) (by decide) (by decide)⟩
      · cases hz) (by decide) (by decide) (hts _ q_803) (hX.2.2.2.1.use q_813 _) hce hcv hcl ?_
        refine lv_astore (lv' := [(5, .ref q), (0, .ref (adr G 0)), (1, .int a1), (2, .int a2), (3, .int a3), (4, .ref (adr G 51))]) hx hb dL_part_19 hl (by decide) rfl (fun ls hl => ?_)
        refine lv_iconst (v := 2) hx hb dL_part_21 rfl ?_
        exact hy_iret (T := T) hx hb hr hlocks hP hS (by decide) (by decide) (by rw [← (Option.some.inj h)] <;> rfl) dL_part_22
      · rw [if_neg hk1] at h
        cases h
  · refine hy_retX (ou := (.inr (some (.int r3)), T)) (n := 0) (k := 0) (hy_rV (T := T) (ou := (.inr (some (.int r3)), T)) (As := [.int a1, .int a2, .int a3]) (rest := [.int 0, .ref (adr G 51)]) (n := 0) hx hb hml hown hts hX hP hS hl (c_Hp_part hlt T.2.1 T.2.2 a1 a2 a3 T.1 (res := .inr r3) hu1) m_Hp_part q_1119 (hy_recv hX hP 0 9 (by decide) rfl rfl) rfl rfl (Nat.le_of_ble_eq_true rfl) dL_part_7 ⟨Nat.le_of_ble_eq_true rfl, Nat.le_of_ble_eq_true rfl⟩ ⟨Nat.zero_le _, Nat.zero_le _⟩) hS (fun k hk => by cases hk) (fun v hv H locs hP hS => ?_)
    cases hv
    refine lv_i2l (v := r3.toInt64) hx hb dL_part_10 rfl ?_
    refine hy_last (T := T) (T2 := (wTL T 51 0 r3.toInt64)) hx hb hX hP hS (by decide) rfl dL_part_11 (fun H locs hP hS => ?_)
    obtain ⟨T4, hT4, h⟩ := hy_bind h
    rw [Option.some.inj hT4] at hP
    refine lv_goto (tgt := 23) hx hb dL_part_12 (by decide) ?_
    refine lv_iconst (v := 0) hx hb dL_part_23 rfl ?_
    exact hy_iret (T := T4) hx hb hr hlocks hP hS (by decide) (by decide) (by rw [← (Option.some.inj h)] <;> rfl) dL_part_24
set_option maxHeartbeats 1000000 in
set_option maxRecDepth 100000 in
theorem c_La_heads {l : Launch} {G : hyG} (hlt : l.stackTraces = false) (a1 : Int32) (a2 : Int32) (T : hyT) {res : (Int32 × hyT)} (h : La_heads a1 a2 T = some res) : hyC2 l yL_heads (.codeWith yL_heads cL_heads 5 (some .int) [(0, 10, 13, 29)]) 8 139 (1) G [.ref (adr G 0), .int a1, .int a2, .ref (adr G 51)] T (.inr (some (.int res.1)), res.2) := by
  refine hy_ofH2 (by decide +kernel) (Nat.le_of_ble_eq_true rfl) ?_
  intro p e s m below meth c hx hb hml hown hts hr hlocks ht hX hP hS hN ls hl
  have hl : lv_has ls 5 [(0, .ref (adr G 0)), (1, .int a1), (2, .int a2), (3, .ref (adr G 51))] := hl
  rw [La_heads] at h
  refine lv_aload_n hx hb dL_heads_0 rfl (lv_at hl 3 rfl) ?_
  refine lv_iconst (v := 0) hx hb dL_heads_1 rfl ?_
  refine lv_aload_n hx hb dL_heads_2 rfl (lv_at hl 0 rfl) ?_
  refine lv_iload_n hx hb dL_heads_3 rfl (lv_at hl 1 rfl) ?_
  refine lv_iload_n hx hb dL_heads_4 rfl (lv_at hl 2 rfl) ?_
  obtain ⟨u1, hu1, h⟩ := hy_bind h
  rcases u1 with k2 | r3
  all_goals try dsimp only at h
  · refine hy_retX (ou := (.inl k2, T)) (n := 1) (k := 0) (hy_rV (T := T) (ou := (.inl k2, T)) (As := [.int a1, .int a2]) (rest := [.int 0, .ref (adr G 51)]) (n := 1) hx hb hml hown hts hX hP hS hl (c_Hp_heads hlt T.2.1 T.2.2 a1 a2 T.1 (res := .inl k2) hu1) m_Hp_heads q_1126 (hy_recv hX hP 0 9 (by decide) rfl rfl) rfl rfl (Nat.le_of_ble_eq_true rfl) dL_heads_5 ⟨Nat.le_of_ble_eq_true rfl, Nat.le_of_ble_eq_true rfl⟩ ⟨by decide, by decide⟩) hS (fun k hk q ce H locs hP hS hce hcv hcl => ?_) (fun v hv => by cases hv)
    cases hk
    by_cases hk0 : k2 = 3
    · subst hk0
      rw [if_pos rfl] at h
      refine vx_catch (name := "java/lang/IndexOutOfBoundsException") hown [] ⟨0, 10, 13, 29⟩ [] ht (fun z hz => by cases hz) (by decide) (by decide) (hts _ q_947) (hX.2.2.2.1.use q_957 _) hce hcv hcl ?_
      refine lv_astore (lv' := [(4, .ref q), (0, .ref (adr G 0)), (1, .int a1), (2, .int a2), (3, .ref (adr G 51))]) hx hb dL_heads_13 hl (by decide) rfl (fun ls hl => ?_)
      refine lv_iconst (v := 1) hx hb dL_heads_15 rfl ?_
      exact hy_iret (T := T) hx hb hr hlocks hP hS (by decide) (by decide) (by rw [← (Option.some.inj h)] <;> rfl) dL_heads_16
    · rw [if_neg hk0] at h
      cases h
  · refine hy_retX (ou := (.inr (some (.int r3)), T)) (n := 0) (k := 0) (hy_rV (T := T) (ou := (.inr (some (.int r3)), T)) (As := [.int a1, .int a2]) (rest := [.int 0, .ref (adr G 51)]) (n := 0) hx hb hml hown hts hX hP hS hl (c_Hp_heads hlt T.2.1 T.2.2 a1 a2 T.1 (res := .inr r3) hu1) m_Hp_heads q_1126 (hy_recv hX hP 0 9 (by decide) rfl rfl) rfl rfl (Nat.le_of_ble_eq_true rfl) dL_heads_5 ⟨Nat.le_of_ble_eq_true rfl, Nat.le_of_ble_eq_true rfl⟩ ⟨Nat.zero_le _, Nat.zero_le _⟩) hS (fun k hk => by cases hk) (fun v hv H locs hP hS => ?_)
    cases hv
    refine lv_i2l (v := r3.toInt64) hx hb dL_heads_8 rfl ?_
    refine hy_last (T := T) (T2 := (wTL T 51 0 r3.toInt64)) hx hb hX hP hS (by decide) rfl dL_heads_9 (fun H locs hP hS => ?_)
    obtain ⟨T4, hT4, h⟩ := hy_bind h
    rw [Option.some.inj hT4] at hP
    refine lv_goto (tgt := 17) hx hb dL_heads_10 (by decide) ?_
    refine lv_iconst (v := 0) hx hb dL_heads_17 rfl ?_
    exact hy_iret (T := T4) hx hb hr hlocks hP hS (by decide) (by decide) (by rw [← (Option.some.inj h)] <;> rfl) dL_heads_18
set_option maxHeartbeats 1000000 in
set_option maxRecDepth 100000 in
theorem c_La_phrase {l : Launch} {G : hyG} (hlt : l.stackTraces = false) (a1 : Int32) (a2 : Int32) (T : hyT) {res : (Int32 × hyT)} (h : La_phrase a1 a2 T = some res) : hyC2 l yL_phrase (.codeWith yL_phrase cL_phrase 5 (some .int) [(0, 10, 13, 29), (0, 10, 17, 13)]) 8 134 (1) G [.ref (adr G 0), .int a1, .int a2, .ref (adr G 51)] T (.inr (some (.int res.1)), res.2) := by
  refine hy_ofH2 (by decide +kernel) (Nat.le_of_ble_eq_true rfl) ?_
  intro p e s m below meth c hx hb hml hown hts hr hlocks ht hX hP hS hN ls hl
  have hl : lv_has ls 5 [(0, .ref (adr G 0)), (1, .int a1), (2, .int a2), (3, .ref (adr G 51))] := hl
  rw [La_phrase] at h
  refine lv_aload_n hx hb dL_phrase_0 rfl (lv_at hl 3 rfl) ?_
  refine lv_iconst (v := 0) hx hb dL_phrase_1 rfl ?_
  refine lv_aload_n hx hb dL_phrase_2 rfl (lv_at hl 0 rfl) ?_
  refine lv_iload_n hx hb dL_phrase_3 rfl (lv_at hl 1 rfl) ?_
  refine lv_iload_n hx hb dL_phrase_4 rfl (lv_at hl 2 rfl) ?_
  obtain ⟨u1, hu1⟩ : ∃ z, Hp_phrase a1 a2 T.1 = z := ⟨_, rfl⟩
  rw [hu1] at h
  rcases u1 with k2 | r3
  all_goals try dsimp only at h
  · refine hy_retX (ou := (.inl k2, T)) (n := 1) (k := 0) (hy_rV (T := T) (ou := (.inl k2, T)) (As := [.int a1, .int a2]) (rest := [.int 0, .ref (adr G 51)]) (n := 1) hx hb hml hown hts hX hP hS hl (c_Hp_phrase hlt T.2.1 T.2.2 a1 a2 T.1 (res := .inl k2) hu1) m_Hp_phrase q_1133 (hy_recv hX hP 0 9 (by decide) rfl rfl) rfl rfl (Nat.le_of_ble_eq_true rfl) dL_phrase_5 ⟨Nat.le_of_ble_eq_true rfl, Nat.le_of_ble_eq_true rfl⟩ ⟨by decide, by decide⟩) hS (fun k hk q ce H locs hP hS hce hcv hcl => ?_) (fun v hv => by cases hv)
    cases hk
    by_cases hk0 : k2 = 3
    · subst hk0
      rw [if_pos rfl] at h
      refine vx_catch (name := "java/lang/IndexOutOfBoundsException") hown [] ⟨0, 10, 13, 29⟩ [⟨0, 10, 17, 13⟩] ht (fun z hz => by cases hz) (by decide) (by decide) (hts _ q_947) (hX.2.2.2.1.use q_957 _) hce hcv hcl ?_
      refine lv_astore (lv' := [(4, .ref q), (0, .ref (adr G 0)), (1, .int a1), (2, .int a2), (3, .ref (adr G 51))]) hx hb dL_phrase_13 hl (by decide) rfl (fun ls hl => ?_)
      refine lv_iconst (v := 1) hx hb dL_phrase_15 rfl ?_
      exact hy_iret (T := T) hx hb hr hlocks hP hS (by decide) (by decide) (by rw [← (Option.some.inj h)] <;> rfl) dL_phrase_16
    · rw [if_neg hk0] at h
      by_cases hk1 : k2 = 1
      · subst hk1
        rw [if_pos rfl] at h
        refine vx_catch (name := "java/lang/IllegalArgumentException") hown [⟨0, 10, 13, 29⟩] ⟨0, 10, 17, 13⟩ [] ht (fun z hz => by
      rcases List.mem_cons.mp hz with rfl | hz
      · exact Or.inr ⟨by decide, _, hts _ q_947, hN 1 3 (by decide) (by decide) (by decide)⟩
      · cases hz) (by decide) (by decide) (hts _ q_803) (hX.2.2.2.1.use q_813 _) hce hcv hcl ?_
        refine lv_astore (lv' := [(4, .ref q), (0, .ref (adr G 0)), (1, .int a1), (2, .int a2), (3, .ref (adr G 51))]) hx hb dL_phrase_17 hl (by decide) rfl (fun ls hl => ?_)
        refine lv_iconst (v := 2) hx hb dL_phrase_19 rfl ?_
        exact hy_iret (T := T) hx hb hr hlocks hP hS (by decide) (by decide) (by rw [← (Option.some.inj h)] <;> rfl) dL_phrase_20
      · rw [if_neg hk1] at h
        cases h
  · refine hy_retX (ou := (.inr (some (.int r3)), T)) (n := 0) (k := 0) (hy_rV (T := T) (ou := (.inr (some (.int r3)), T)) (As := [.int a1, .int a2]) (rest := [.int 0, .ref (adr G 51)]) (n := 0) hx hb hml hown hts hX hP hS hl (c_Hp_phrase hlt T.2.1 T.2.2 a1 a2 T.1 (res := .inr r3) hu1) m_Hp_phrase q_1133 (hy_recv hX hP 0 9 (by decide) rfl rfl) rfl rfl (Nat.le_of_ble_eq_true rfl) dL_phrase_5 ⟨Nat.le_of_ble_eq_true rfl, Nat.le_of_ble_eq_true rfl⟩ ⟨Nat.zero_le _, Nat.zero_le _⟩) hS (fun k hk => by cases hk) (fun v hv H locs hP hS => ?_)
    cases hv
    refine lv_i2l (v := r3.toInt64) hx hb dL_phrase_8 rfl ?_
    refine hy_last (T := T) (T2 := (wTL T 51 0 r3.toInt64)) hx hb hX hP hS (by decide) rfl dL_phrase_9 (fun H locs hP hS => ?_)
    obtain ⟨T4, hT4, h⟩ := hy_bind h
    rw [Option.some.inj hT4] at hP
    refine lv_goto (tgt := 21) hx hb dL_phrase_10 (by decide) ?_
    refine lv_iconst (v := 0) hx hb dL_phrase_21 rfl ?_
    exact hy_iret (T := T4) hx hb hr hlocks hP hS (by decide) (by decide) (by rw [← (Option.some.inj h)] <;> rfl) dL_phrase_22
set_option maxHeartbeats 1000000 in
set_option maxRecDepth 100000 in
theorem c_La_sung {l : Launch} {G : hyG} (hlt : l.stackTraces = false) (a1 : Int32) (T : hyT) {res : (Int32 × hyT)} (h : La_sung a1 T = some res) : hyC2 l yL_sung (.codeWith yL_sung cL_sung 4 (some .int) [(0, 9, 12, 29)]) 8 132 (1) G [.ref (adr G 0), .int a1, .ref (adr G 51)] T (.inr (some (.int res.1)), res.2) := by
  refine hy_ofH2 (by decide +kernel) (Nat.le_of_ble_eq_true rfl) ?_
  intro p e s m below meth c hx hb hml hown hts hr hlocks ht hX hP hS hN ls hl
  have hl : lv_has ls 4 [(0, .ref (adr G 0)), (1, .int a1), (2, .ref (adr G 51))] := hl
  rw [La_sung] at h
  refine lv_aload_n hx hb dL_sung_0 rfl (lv_at hl 2 rfl) ?_
  refine lv_iconst (v := 0) hx hb dL_sung_1 rfl ?_
  refine lv_aload_n hx hb dL_sung_2 rfl (lv_at hl 0 rfl) ?_
  refine lv_iload_n hx hb dL_sung_3 rfl (lv_at hl 1 rfl) ?_
  obtain ⟨u1, hu1⟩ : ∃ z, Hp_sung a1 T.1 = z := ⟨_, rfl⟩
  rw [hu1] at h
  rcases u1 with k2 | r3
  all_goals try dsimp only at h
  · refine hy_retX (ou := (.inl k2, T)) (n := 1) (k := 0) (hy_rV (T := T) (ou := (.inl k2, T)) (As := [.int a1]) (rest := [.int 0, .ref (adr G 51)]) (n := 1) hx hb hml hown hts hX hP hS hl (c_Hp_sung hlt T.2.1 T.2.2 a1 T.1 (res := .inl k2) hu1) m_Hp_sung q_1140 (hy_recv hX hP 0 9 (by decide) rfl rfl) rfl rfl (Nat.le_of_ble_eq_true rfl) dL_sung_4 ⟨Nat.le_of_ble_eq_true rfl, Nat.le_of_ble_eq_true rfl⟩ ⟨by decide, by decide⟩) hS (fun k hk q ce H locs hP hS hce hcv hcl => ?_) (fun v hv => by cases hv)
    cases hk
    by_cases hk0 : k2 = 3
    · subst hk0
      rw [if_pos rfl] at h
      refine vx_catch (name := "java/lang/IndexOutOfBoundsException") hown [] ⟨0, 9, 12, 29⟩ [] ht (fun z hz => by cases hz) (by decide) (by decide) (hts _ q_947) (hX.2.2.2.1.use q_957 _) hce hcv hcl ?_
      refine lv_astore_n (lv' := [(3, .ref q), (0, .ref (adr G 0)), (1, .int a1), (2, .ref (adr G 51))]) hx hb dL_sung_12 rfl hl (by decide) rfl (fun ls hl => ?_)
      refine lv_iconst (v := 1) hx hb dL_sung_13 rfl ?_
      exact hy_iret (T := T) hx hb hr hlocks hP hS (by decide) (by decide) (by rw [← (Option.some.inj h)] <;> rfl) dL_sung_14
    · rw [if_neg hk0] at h
      cases h
  · refine hy_retX (ou := (.inr (some (.int r3)), T)) (n := 0) (k := 0) (hy_rV (T := T) (ou := (.inr (some (.int r3)), T)) (As := [.int a1]) (rest := [.int 0, .ref (adr G 51)]) (n := 0) hx hb hml hown hts hX hP hS hl (c_Hp_sung hlt T.2.1 T.2.2 a1 T.1 (res := .inr r3) hu1) m_Hp_sung q_1140 (hy_recv hX hP 0 9 (by decide) rfl rfl) rfl rfl (Nat.le_of_ble_eq_true rfl) dL_sung_4 ⟨Nat.le_of_ble_eq_true rfl, Nat.le_of_ble_eq_true rfl⟩ ⟨Nat.zero_le _, Nat.zero_le _⟩) hS (fun k hk => by cases hk) (fun v hv H locs hP hS => ?_)
    cases hv
    refine lv_i2l (v := r3.toInt64) hx hb dL_sung_7 rfl ?_
    refine hy_last (T := T) (T2 := (wTL T 51 0 r3.toInt64)) hx hb hX hP hS (by decide) rfl dL_sung_8 (fun H locs hP hS => ?_)
    obtain ⟨T4, hT4, h⟩ := hy_bind h
    rw [Option.some.inj hT4] at hP
    refine lv_goto (tgt := 15) hx hb dL_sung_9 (by decide) ?_
    refine lv_iconst (v := 0) hx hb dL_sung_15 rfl ?_
    exact hy_iret (T := T4) hx hb hr hlocks hP hS (by decide) (by decide) (by rw [← (Option.some.inj h)] <;> rfl) dL_sung_16
set_option maxHeartbeats 1000000 in
set_option maxRecDepth 100000 in
theorem c_La_fit {l : Launch} {G : hyG} (hlt : l.stackTraces = false) (a1 : Int32) (T : hyT) {res : (Int32 × hyT)} (h : La_fit a1 T = some res) : hyC2 l yL_fit (.codeWith yL_fit cL_fit 4 (some .int) [(0, 9, 12, 29)]) 8 132 (1) G [.ref (adr G 0), .int a1, .ref (adr G 51)] T (.inr (some (.int res.1)), res.2) := by
  refine hy_ofH2 (by decide +kernel) (Nat.le_of_ble_eq_true rfl) ?_
  intro p e s m below meth c hx hb hml hown hts hr hlocks ht hX hP hS hN ls hl
  have hl : lv_has ls 4 [(0, .ref (adr G 0)), (1, .int a1), (2, .ref (adr G 51))] := hl
  rw [La_fit] at h
  refine lv_aload_n hx hb dL_fit_0 rfl (lv_at hl 2 rfl) ?_
  refine lv_iconst (v := 0) hx hb dL_fit_1 rfl ?_
  refine lv_aload_n hx hb dL_fit_2 rfl (lv_at hl 0 rfl) ?_
  refine lv_iload_n hx hb dL_fit_3 rfl (lv_at hl 1 rfl) ?_
  obtain ⟨u1, hu1, h⟩ := hy_bind h
  rcases u1 with k2 | r3
  all_goals try dsimp only at h
  · refine hy_retX (ou := (.inl k2, T)) (n := 1) (k := 0) (hy_rV (T := T) (ou := (.inl k2, T)) (As := [.int a1]) (rest := [.int 0, .ref (adr G 51)]) (n := 1) hx hb hml hown hts hX hP hS hl (c_Hp_fit hlt T.2.1 T.2.2 a1 T.1 (res := .inl k2) hu1) m_Hp_fit q_1147 (hy_recv hX hP 0 9 (by decide) rfl rfl) rfl rfl (Nat.le_of_ble_eq_true rfl) dL_fit_4 ⟨Nat.le_of_ble_eq_true rfl, Nat.le_of_ble_eq_true rfl⟩ ⟨by decide, by decide⟩) hS (fun k hk q ce H locs hP hS hce hcv hcl => ?_) (fun v hv => by cases hv)
    cases hk
    by_cases hk0 : k2 = 3
    · subst hk0
      rw [if_pos rfl] at h
      refine vx_catch (name := "java/lang/IndexOutOfBoundsException") hown [] ⟨0, 9, 12, 29⟩ [] ht (fun z hz => by cases hz) (by decide) (by decide) (hts _ q_947) (hX.2.2.2.1.use q_957 _) hce hcv hcl ?_
      refine lv_astore_n (lv' := [(3, .ref q), (0, .ref (adr G 0)), (1, .int a1), (2, .ref (adr G 51))]) hx hb dL_fit_12 rfl hl (by decide) rfl (fun ls hl => ?_)
      refine lv_iconst (v := 1) hx hb dL_fit_13 rfl ?_
      exact hy_iret (T := T) hx hb hr hlocks hP hS (by decide) (by decide) (by rw [← (Option.some.inj h)] <;> rfl) dL_fit_14
    · rw [if_neg hk0] at h
      cases h
  · refine hy_retX (ou := (.inr (some (.int r3)), T)) (n := 0) (k := 0) (hy_rV (T := T) (ou := (.inr (some (.int r3)), T)) (As := [.int a1]) (rest := [.int 0, .ref (adr G 51)]) (n := 0) hx hb hml hown hts hX hP hS hl (c_Hp_fit hlt T.2.1 T.2.2 a1 T.1 (res := .inr r3) hu1) m_Hp_fit q_1147 (hy_recv hX hP 0 9 (by decide) rfl rfl) rfl rfl (Nat.le_of_ble_eq_true rfl) dL_fit_4 ⟨Nat.le_of_ble_eq_true rfl, Nat.le_of_ble_eq_true rfl⟩ ⟨Nat.zero_le _, Nat.zero_le _⟩) hS (fun k hk => by cases hk) (fun v hv H locs hP hS => ?_)
    cases hv
    refine lv_i2l (v := r3.toInt64) hx hb dL_fit_7 rfl ?_
    refine hy_last (T := T) (T2 := (wTL T 51 0 r3.toInt64)) hx hb hX hP hS (by decide) rfl dL_fit_8 (fun H locs hP hS => ?_)
    obtain ⟨T4, hT4, h⟩ := hy_bind h
    rw [Option.some.inj hT4] at hP
    refine lv_goto (tgt := 15) hx hb dL_fit_9 (by decide) ?_
    refine lv_iconst (v := 0) hx hb dL_fit_15 rfl ?_
    exact hy_iret (T := T4) hx hb hr hlocks hP hS (by decide) (by decide) (by rw [← (Option.some.inj h)] <;> rfl) dL_fit_16
set_option maxHeartbeats 1000000 in
set_option maxRecDepth 100000 in
theorem c_La_line {l : Launch} {G : hyG} (hlt : l.stackTraces = false) (a1 : Int32) (a2 : Int32) (a3 : Int32) (T : hyT) {res : (Int32 × hyT)} (h : La_line a1 a2 a3 T = some res) : hyC2 l yL_line (.codeWith yL_line cL_line 6 (some .int) [(0, 12, 15, 29), (0, 12, 19, 13)]) 8 138 (1) G [.ref (adr G 0), .int a1, .int a2, .int a3, .ref (adr G 51)] T (.inr (some (.int res.1)), res.2) := by
  refine hy_ofH2 (by decide +kernel) (Nat.le_of_ble_eq_true rfl) ?_
  intro p e s m below meth c hx hb hml hown hts hr hlocks ht hX hP hS hN ls hl
  have hl : lv_has ls 6 [(0, .ref (adr G 0)), (1, .int a1), (2, .int a2), (3, .int a3), (4, .ref (adr G 51))] := hl
  rw [La_line] at h
  refine lv_aload hx hb dL_line_0 (lv_at hl 4 rfl) ?_
  refine lv_iconst (v := 0) hx hb dL_line_2 rfl ?_
  refine lv_aload_n hx hb dL_line_3 rfl (lv_at hl 0 rfl) ?_
  refine lv_iload_n hx hb dL_line_4 rfl (lv_at hl 1 rfl) ?_
  refine lv_iload_n hx hb dL_line_5 rfl (lv_at hl 2 rfl) ?_
  refine lv_iload_n hx hb dL_line_6 rfl (lv_at hl 3 rfl) ?_
  obtain ⟨u1, hu1, h⟩ := hy_bind h
  rcases u1 with k2 | r3
  all_goals try dsimp only at h
  · refine hy_retX (ou := (.inl k2, T)) (n := 1) (k := 0) (hy_rV (T := T) (ou := (.inl k2, T)) (As := [.int a1, .int a2, .int a3]) (rest := [.int 0, .ref (adr G 51)]) (n := 1) hx hb hml hown hts hX hP hS hl (c_Hp_line hlt T.2.1 T.2.2 a1 a2 a3 T.1 (res := .inl k2) hu1) m_Hp_line q_1154 (hy_recv hX hP 0 9 (by decide) rfl rfl) rfl rfl (Nat.le_of_ble_eq_true rfl) dL_line_7 ⟨Nat.le_of_ble_eq_true rfl, Nat.le_of_ble_eq_true rfl⟩ ⟨by decide, by decide⟩) hS (fun k hk q ce H locs hP hS hce hcv hcl => ?_) (fun v hv => by cases hv)
    cases hk
    by_cases hk0 : k2 = 3
    · subst hk0
      rw [if_pos rfl] at h
      refine vx_catch (name := "java/lang/IndexOutOfBoundsException") hown [] ⟨0, 12, 15, 29⟩ [⟨0, 12, 19, 13⟩] ht (fun z hz => by cases hz) (by decide) (by decide) (hts _ q_947) (hX.2.2.2.1.use q_957 _) hce hcv hcl ?_
      refine lv_astore (lv' := [(5, .ref q), (0, .ref (adr G 0)), (1, .int a1), (2, .int a2), (3, .int a3), (4, .ref (adr G 51))]) hx hb dL_line_15 hl (by decide) rfl (fun ls hl => ?_)
      refine lv_iconst (v := 1) hx hb dL_line_17 rfl ?_
      exact hy_iret (T := T) hx hb hr hlocks hP hS (by decide) (by decide) (by rw [← (Option.some.inj h)] <;> rfl) dL_line_18
    · rw [if_neg hk0] at h
      by_cases hk1 : k2 = 1
      · subst hk1
        rw [if_pos rfl] at h
        refine vx_catch (name := "java/lang/IllegalArgumentException") hown [⟨0, 12, 15, 29⟩] ⟨0, 12, 19, 13⟩ [] ht (fun z hz => by
      rcases List.mem_cons.mp hz with rfl | hz
      · exact Or.inr ⟨by decide, _, hts _ q_947, hN 1 3 (by decide) (by decide) (by decide)⟩
      · cases hz) (by decide) (by decide) (hts _ q_803) (hX.2.2.2.1.use q_813 _) hce hcv hcl ?_
        refine lv_astore (lv' := [(5, .ref q), (0, .ref (adr G 0)), (1, .int a1), (2, .int a2), (3, .int a3), (4, .ref (adr G 51))]) hx hb dL_line_19 hl (by decide) rfl (fun ls hl => ?_)
        refine lv_iconst (v := 2) hx hb dL_line_21 rfl ?_
        exact hy_iret (T := T) hx hb hr hlocks hP hS (by decide) (by decide) (by rw [← (Option.some.inj h)] <;> rfl) dL_line_22
      · rw [if_neg hk1] at h
        cases h
  · refine hy_retX (ou := (.inr (some (.int r3)), T)) (n := 0) (k := 0) (hy_rV (T := T) (ou := (.inr (some (.int r3)), T)) (As := [.int a1, .int a2, .int a3]) (rest := [.int 0, .ref (adr G 51)]) (n := 0) hx hb hml hown hts hX hP hS hl (c_Hp_line hlt T.2.1 T.2.2 a1 a2 a3 T.1 (res := .inr r3) hu1) m_Hp_line q_1154 (hy_recv hX hP 0 9 (by decide) rfl rfl) rfl rfl (Nat.le_of_ble_eq_true rfl) dL_line_7 ⟨Nat.le_of_ble_eq_true rfl, Nat.le_of_ble_eq_true rfl⟩ ⟨Nat.zero_le _, Nat.zero_le _⟩) hS (fun k hk => by cases hk) (fun v hv H locs hP hS => ?_)
    cases hv
    refine lv_i2l (v := r3.toInt64) hx hb dL_line_10 rfl ?_
    refine hy_last (T := T) (T2 := (wTL T 51 0 r3.toInt64)) hx hb hX hP hS (by decide) rfl dL_line_11 (fun H locs hP hS => ?_)
    obtain ⟨T4, hT4, h⟩ := hy_bind h
    rw [Option.some.inj hT4] at hP
    refine lv_goto (tgt := 23) hx hb dL_line_12 (by decide) ?_
    refine lv_iconst (v := 0) hx hb dL_line_23 rfl ?_
    exact hy_iret (T := T4) hx hb hr hlocks hP hS (by decide) (by decide) (by rw [← (Option.some.inj h)] <;> rfl) dL_line_24
set_option maxHeartbeats 1000000 in
set_option maxRecDepth 100000 in
theorem c_La_below {l : Launch} {G : hyG} (hlt : l.stackTraces = false) (a1 : Int32) (a2 : Int32) (a3 : Int32) (a4 : Int32) (T : hyT) {res : (Int32 × hyT)} (h : La_below a1 a2 a3 a4 T = some res) : hyC2 l yL_below (.codeWith yL_below cL_below 7 (some .int) [(0, 14, 17, 29), (0, 14, 21, 13)]) 8 136 (1) G [.ref (adr G 0), .int a1, .int a2, .int a3, .int a4, .ref (adr G 51)] T (.inr (some (.int res.1)), res.2) := by
  refine hy_ofH2 (by decide +kernel) (Nat.le_of_ble_eq_true rfl) ?_
  intro p e s m below meth c hx hb hml hown hts hr hlocks ht hX hP hS hN ls hl
  have hl : lv_has ls 7 [(0, .ref (adr G 0)), (1, .int a1), (2, .int a2), (3, .int a3), (4, .int a4), (5, .ref (adr G 51))] := hl
  rw [La_below] at h
  refine lv_aload hx hb dL_below_0 (lv_at hl 5 rfl) ?_
  refine lv_iconst (v := 0) hx hb dL_below_2 rfl ?_
  refine lv_aload_n hx hb dL_below_3 rfl (lv_at hl 0 rfl) ?_
  refine lv_iload_n hx hb dL_below_4 rfl (lv_at hl 1 rfl) ?_
  refine lv_iload_n hx hb dL_below_5 rfl (lv_at hl 2 rfl) ?_
  refine lv_iload_n hx hb dL_below_6 rfl (lv_at hl 3 rfl) ?_
  refine lv_iload hx hb dL_below_7 (lv_at hl 4 rfl) ?_
  obtain ⟨u1, hu1⟩ : ∃ z, Hp_below a1 a2 a3 a4 T.1 = z := ⟨_, rfl⟩
  rw [hu1] at h
  rcases u1 with k2 | r3
  all_goals try dsimp only at h
  · refine hy_retX (ou := (.inl k2, T)) (n := 1) (k := 0) (hy_rV (T := T) (ou := (.inl k2, T)) (As := [.int a1, .int a2, .int a3, .int a4]) (rest := [.int 0, .ref (adr G 51)]) (n := 1) hx hb hml hown hts hX hP hS hl (c_Hp_below hlt T.2.1 T.2.2 a1 a2 a3 a4 T.1 (res := .inl k2) hu1) m_Hp_below q_1161 (hy_recv hX hP 0 9 (by decide) rfl rfl) rfl rfl (Nat.le_of_ble_eq_true rfl) dL_below_9 ⟨Nat.le_of_ble_eq_true rfl, Nat.le_of_ble_eq_true rfl⟩ ⟨by decide, by decide⟩) hS (fun k hk q ce H locs hP hS hce hcv hcl => ?_) (fun v hv => by cases hv)
    cases hk
    by_cases hk0 : k2 = 3
    · subst hk0
      rw [if_pos rfl] at h
      refine vx_catch (name := "java/lang/IndexOutOfBoundsException") hown [] ⟨0, 14, 17, 29⟩ [⟨0, 14, 21, 13⟩] ht (fun z hz => by cases hz) (by decide) (by decide) (hts _ q_947) (hX.2.2.2.1.use q_957 _) hce hcv hcl ?_
      refine lv_astore (lv' := [(6, .ref q), (0, .ref (adr G 0)), (1, .int a1), (2, .int a2), (3, .int a3), (4, .int a4), (5, .ref (adr G 51))]) hx hb dL_below_17 hl (by decide) rfl (fun ls hl => ?_)
      refine lv_iconst (v := 1) hx hb dL_below_19 rfl ?_
      exact hy_iret (T := T) hx hb hr hlocks hP hS (by decide) (by decide) (by rw [← (Option.some.inj h)] <;> rfl) dL_below_20
    · rw [if_neg hk0] at h
      by_cases hk1 : k2 = 1
      · subst hk1
        rw [if_pos rfl] at h
        refine vx_catch (name := "java/lang/IllegalArgumentException") hown [⟨0, 14, 17, 29⟩] ⟨0, 14, 21, 13⟩ [] ht (fun z hz => by
      rcases List.mem_cons.mp hz with rfl | hz
      · exact Or.inr ⟨by decide, _, hts _ q_947, hN 1 3 (by decide) (by decide) (by decide)⟩
      · cases hz) (by decide) (by decide) (hts _ q_803) (hX.2.2.2.1.use q_813 _) hce hcv hcl ?_
        refine lv_astore (lv' := [(6, .ref q), (0, .ref (adr G 0)), (1, .int a1), (2, .int a2), (3, .int a3), (4, .int a4), (5, .ref (adr G 51))]) hx hb dL_below_21 hl (by decide) rfl (fun ls hl => ?_)
        refine lv_iconst (v := 2) hx hb dL_below_23 rfl ?_
        exact hy_iret (T := T) hx hb hr hlocks hP hS (by decide) (by decide) (by rw [← (Option.some.inj h)] <;> rfl) dL_below_24
      · rw [if_neg hk1] at h
        cases h
  · refine hy_retX (ou := (.inr (some (.int r3)), T)) (n := 0) (k := 0) (hy_rV (T := T) (ou := (.inr (some (.int r3)), T)) (As := [.int a1, .int a2, .int a3, .int a4]) (rest := [.int 0, .ref (adr G 51)]) (n := 0) hx hb hml hown hts hX hP hS hl (c_Hp_below hlt T.2.1 T.2.2 a1 a2 a3 a4 T.1 (res := .inr r3) hu1) m_Hp_below q_1161 (hy_recv hX hP 0 9 (by decide) rfl rfl) rfl rfl (Nat.le_of_ble_eq_true rfl) dL_below_9 ⟨Nat.le_of_ble_eq_true rfl, Nat.le_of_ble_eq_true rfl⟩ ⟨Nat.zero_le _, Nat.zero_le _⟩) hS (fun k hk => by cases hk) (fun v hv H locs hP hS => ?_)
    cases hv
    refine lv_i2l (v := r3.toInt64) hx hb dL_below_12 rfl ?_
    refine hy_last (T := T) (T2 := (wTL T 51 0 r3.toInt64)) hx hb hX hP hS (by decide) rfl dL_below_13 (fun H locs hP hS => ?_)
    obtain ⟨T4, hT4, h⟩ := hy_bind h
    rw [Option.some.inj hT4] at hP
    refine lv_goto (tgt := 25) hx hb dL_below_14 (by decide) ?_
    refine lv_iconst (v := 0) hx hb dL_below_25 rfl ?_
    exact hy_iret (T := T4) hx hb hr hlocks hP hS (by decide) (by decide) (by rw [← (Option.some.inj h)] <;> rfl) dL_below_26
set_option maxHeartbeats 1000000 in
set_option maxRecDepth 100000 in
theorem c_La_distance {l : Launch} {G : hyG} (hlt : l.stackTraces = false) (a1 : Int32) (T : hyT) {res : (Int32 × hyT)} (h : La_distance a1 T = some res) : hyC2 l yL_distance (.codeWith yL_distance cL_distance 4 (some .int) [(0, 9, 12, 29)]) 8 132 (1) G [.ref (adr G 0), .int a1, .ref (adr G 51)] T (.inr (some (.int res.1)), res.2) := by
  refine hy_ofH2 (by decide +kernel) (Nat.le_of_ble_eq_true rfl) ?_
  intro p e s m below meth c hx hb hml hown hts hr hlocks ht hX hP hS hN ls hl
  have hl : lv_has ls 4 [(0, .ref (adr G 0)), (1, .int a1), (2, .ref (adr G 51))] := hl
  rw [La_distance] at h
  refine lv_aload_n hx hb dL_distance_0 rfl (lv_at hl 2 rfl) ?_
  refine lv_iconst (v := 0) hx hb dL_distance_1 rfl ?_
  refine lv_aload_n hx hb dL_distance_2 rfl (lv_at hl 0 rfl) ?_
  refine lv_iload_n hx hb dL_distance_3 rfl (lv_at hl 1 rfl) ?_
  obtain ⟨u1, hu1, h⟩ := hy_bind h
  rcases u1 with k2 | r3
  all_goals try dsimp only at h
  · refine hy_retX (ou := (.inl k2, T)) (n := 1) (k := 0) (hy_rV (T := T) (ou := (.inl k2, T)) (As := [.int a1]) (rest := [.int 0, .ref (adr G 51)]) (n := 1) hx hb hml hown hts hX hP hS hl (c_Hp_distance hlt T.2.1 T.2.2 a1 T.1 (res := .inl k2) hu1) m_Hp_distance q_1168 (hy_recv hX hP 0 9 (by decide) rfl rfl) rfl rfl (Nat.le_of_ble_eq_true rfl) dL_distance_4 ⟨Nat.le_of_ble_eq_true rfl, Nat.le_of_ble_eq_true rfl⟩ ⟨by decide, by decide⟩) hS (fun k hk q ce H locs hP hS hce hcv hcl => ?_) (fun v hv => by cases hv)
    cases hk
    by_cases hk0 : k2 = 3
    · subst hk0
      rw [if_pos rfl] at h
      refine vx_catch (name := "java/lang/IndexOutOfBoundsException") hown [] ⟨0, 9, 12, 29⟩ [] ht (fun z hz => by cases hz) (by decide) (by decide) (hts _ q_947) (hX.2.2.2.1.use q_957 _) hce hcv hcl ?_
      refine lv_astore_n (lv' := [(3, .ref q), (0, .ref (adr G 0)), (1, .int a1), (2, .ref (adr G 51))]) hx hb dL_distance_12 rfl hl (by decide) rfl (fun ls hl => ?_)
      refine lv_iconst (v := 1) hx hb dL_distance_13 rfl ?_
      exact hy_iret (T := T) hx hb hr hlocks hP hS (by decide) (by decide) (by rw [← (Option.some.inj h)] <;> rfl) dL_distance_14
    · rw [if_neg hk0] at h
      cases h
  · refine hy_retX (ou := (.inr (some (.int r3)), T)) (n := 0) (k := 0) (hy_rV (T := T) (ou := (.inr (some (.int r3)), T)) (As := [.int a1]) (rest := [.int 0, .ref (adr G 51)]) (n := 0) hx hb hml hown hts hX hP hS hl (c_Hp_distance hlt T.2.1 T.2.2 a1 T.1 (res := .inr r3) hu1) m_Hp_distance q_1168 (hy_recv hX hP 0 9 (by decide) rfl rfl) rfl rfl (Nat.le_of_ble_eq_true rfl) dL_distance_4 ⟨Nat.le_of_ble_eq_true rfl, Nat.le_of_ble_eq_true rfl⟩ ⟨Nat.zero_le _, Nat.zero_le _⟩) hS (fun k hk => by cases hk) (fun v hv H locs hP hS => ?_)
    cases hv
    refine lv_i2l (v := r3.toInt64) hx hb dL_distance_7 rfl ?_
    refine hy_last (T := T) (T2 := (wTL T 51 0 r3.toInt64)) hx hb hX hP hS (by decide) rfl dL_distance_8 (fun H locs hP hS => ?_)
    obtain ⟨T4, hT4, h⟩ := hy_bind h
    rw [Option.some.inj hT4] at hP
    refine lv_goto (tgt := 15) hx hb dL_distance_9 (by decide) ?_
    refine lv_iconst (v := 0) hx hb dL_distance_15 rfl ?_
    exact hy_iret (T := T4) hx hb hr hlocks hP hS (by decide) (by decide) (by rw [← (Option.some.inj h)] <;> rfl) dL_distance_16
set_option maxHeartbeats 1000000 in
set_option maxRecDepth 100000 in
theorem c_La_metre {l : Launch} {G : hyG} (hlt : l.stackTraces = false) (a1 : Int32) (a2 : Int32) (T : hyT) {res : (Int32 × hyT)} (h : La_metre a1 a2 T = some res) : hyC2 l yL_metre (.codeWith yL_metre cL_metre 5 (some .int) [(0, 10, 13, 29)]) 8 133 (1) G [.ref (adr G 0), .int a1, .int a2, .ref (adr G 51)] T (.inr (some (.int res.1)), res.2) := by
  refine hy_ofH2 (by decide +kernel) (Nat.le_of_ble_eq_true rfl) ?_
  intro p e s m below meth c hx hb hml hown hts hr hlocks ht hX hP hS hN ls hl
  have hl : lv_has ls 5 [(0, .ref (adr G 0)), (1, .int a1), (2, .int a2), (3, .ref (adr G 51))] := hl
  rw [La_metre] at h
  refine lv_aload_n hx hb dL_metre_0 rfl (lv_at hl 3 rfl) ?_
  refine lv_iconst (v := 0) hx hb dL_metre_1 rfl ?_
  refine lv_aload_n hx hb dL_metre_2 rfl (lv_at hl 0 rfl) ?_
  refine lv_iload_n hx hb dL_metre_3 rfl (lv_at hl 1 rfl) ?_
  refine lv_iload_n hx hb dL_metre_4 rfl (lv_at hl 2 rfl) ?_
  obtain ⟨u1, hu1⟩ : ∃ z, Hp_metre a1 a2 T.1 = z := ⟨_, rfl⟩
  rw [hu1] at h
  rcases u1 with k2 | r3
  all_goals try dsimp only at h
  · refine hy_retX (ou := (.inl k2, T)) (n := 1) (k := 0) (hy_rV (T := T) (ou := (.inl k2, T)) (As := [.int a1, .int a2]) (rest := [.int 0, .ref (adr G 51)]) (n := 1) hx hb hml hown hts hX hP hS hl (c_Hp_metre hlt T.2.1 T.2.2 a1 a2 T.1 (res := .inl k2) hu1) m_Hp_metre q_1175 (hy_recv hX hP 0 9 (by decide) rfl rfl) rfl rfl (Nat.le_of_ble_eq_true rfl) dL_metre_5 ⟨Nat.le_of_ble_eq_true rfl, Nat.le_of_ble_eq_true rfl⟩ ⟨by decide, by decide⟩) hS (fun k hk q ce H locs hP hS hce hcv hcl => ?_) (fun v hv => by cases hv)
    cases hk
    by_cases hk0 : k2 = 3
    · subst hk0
      rw [if_pos rfl] at h
      refine vx_catch (name := "java/lang/IndexOutOfBoundsException") hown [] ⟨0, 10, 13, 29⟩ [] ht (fun z hz => by cases hz) (by decide) (by decide) (hts _ q_947) (hX.2.2.2.1.use q_957 _) hce hcv hcl ?_
      refine lv_astore (lv' := [(4, .ref q), (0, .ref (adr G 0)), (1, .int a1), (2, .int a2), (3, .ref (adr G 51))]) hx hb dL_metre_13 hl (by decide) rfl (fun ls hl => ?_)
      refine lv_iconst (v := 1) hx hb dL_metre_15 rfl ?_
      exact hy_iret (T := T) hx hb hr hlocks hP hS (by decide) (by decide) (by rw [← (Option.some.inj h)] <;> rfl) dL_metre_16
    · rw [if_neg hk0] at h
      cases h
  · refine hy_retX (ou := (.inr (some (.int r3)), T)) (n := 0) (k := 0) (hy_rV (T := T) (ou := (.inr (some (.int r3)), T)) (As := [.int a1, .int a2]) (rest := [.int 0, .ref (adr G 51)]) (n := 0) hx hb hml hown hts hX hP hS hl (c_Hp_metre hlt T.2.1 T.2.2 a1 a2 T.1 (res := .inr r3) hu1) m_Hp_metre q_1175 (hy_recv hX hP 0 9 (by decide) rfl rfl) rfl rfl (Nat.le_of_ble_eq_true rfl) dL_metre_5 ⟨Nat.le_of_ble_eq_true rfl, Nat.le_of_ble_eq_true rfl⟩ ⟨Nat.zero_le _, Nat.zero_le _⟩) hS (fun k hk => by cases hk) (fun v hv H locs hP hS => ?_)
    cases hv
    refine lv_i2l (v := r3.toInt64) hx hb dL_metre_8 rfl ?_
    refine hy_last (T := T) (T2 := (wTL T 51 0 r3.toInt64)) hx hb hX hP hS (by decide) rfl dL_metre_9 (fun H locs hP hS => ?_)
    obtain ⟨T4, hT4, h⟩ := hy_bind h
    rw [Option.some.inj hT4] at hP
    refine lv_goto (tgt := 17) hx hb dL_metre_10 (by decide) ?_
    refine lv_iconst (v := 0) hx hb dL_metre_17 rfl ?_
    exact hy_iret (T := T4) hx hb hr hlocks hP hS (by decide) (by decide) (by rw [← (Option.some.inj h)] <;> rfl) dL_metre_18
set_option maxHeartbeats 1000000 in
set_option maxRecDepth 100000 in
theorem c_La_count {l : Launch} {G : hyG} (hlt : l.stackTraces = false) (a1 : Int32) (T : hyT) {res : (Int32 × hyT)} (h : La_count a1 T = some res) : hyC2 l yL_count (.codeWith yL_count cL_count 4 (some .int) [(0, 9, 12, 13)]) 8 163 (1) G [.ref (adr G 0), .int a1, .ref (adr G 51)] T (.inr (some (.int res.1)), res.2) := by
  refine hy_ofH2 (by decide +kernel) (Nat.le_of_ble_eq_true rfl) ?_
  intro p e s m below meth c hx hb hml hown hts hr hlocks ht hX hP hS hN ls hl
  have hl : lv_has ls 4 [(0, .ref (adr G 0)), (1, .int a1), (2, .ref (adr G 51))] := hl
  rw [La_count] at h
  refine lv_aload_n hx hb dL_count_0 rfl (lv_at hl 2 rfl) ?_
  refine lv_iconst (v := 0) hx hb dL_count_1 rfl ?_
  refine lv_aload_n hx hb dL_count_2 rfl (lv_at hl 0 rfl) ?_
  refine lv_iload_n hx hb dL_count_3 rfl (lv_at hl 1 rfl) ?_
  obtain ⟨u1, hu1, h⟩ := hy_bind h
  rcases u1 with k2 | r3
  all_goals try dsimp only at h
  · refine hy_retX (ou := (.inl k2, T)) (n := 1) (k := 0) (hy_rV (T := T) (ou := (.inl k2, T)) (As := [.int a1]) (rest := [.int 0, .ref (adr G 51)]) (n := 1) hx hb hml hown hts hX hP hS hl (c_Hp_count hlt T.2.1 T.2.2 a1 T.1 (res := .inl k2) hu1) m_Hp_count q_1182 (hy_recv hX hP 0 9 (by decide) rfl rfl) rfl rfl (Nat.le_of_ble_eq_true rfl) dL_count_4 ⟨Nat.le_of_ble_eq_true rfl, Nat.le_of_ble_eq_true rfl⟩ ⟨by decide, by decide⟩) hS (fun k hk q ce H locs hP hS hce hcv hcl => ?_) (fun v hv => by cases hv)
    cases hk
    by_cases hk0 : k2 = 1
    · subst hk0
      rw [if_pos rfl] at h
      refine vx_catch (name := "java/lang/IllegalArgumentException") hown [] ⟨0, 9, 12, 13⟩ [] ht (fun z hz => by cases hz) (by decide) (by decide) (hts _ q_803) (hX.2.2.2.1.use q_813 _) hce hcv hcl ?_
      refine lv_astore_n (lv' := [(3, .ref q), (0, .ref (adr G 0)), (1, .int a1), (2, .ref (adr G 51))]) hx hb dL_count_12 rfl hl (by decide) rfl (fun ls hl => ?_)
      refine lv_iconst (v := 1) hx hb dL_count_13 rfl ?_
      exact hy_iret (T := T) hx hb hr hlocks hP hS (by decide) (by decide) (by rw [← (Option.some.inj h)] <;> rfl) dL_count_14
    · rw [if_neg hk0] at h
      cases h
  · refine hy_retX (ou := (.inr (some (.int r3)), T)) (n := 0) (k := 0) (hy_rV (T := T) (ou := (.inr (some (.int r3)), T)) (As := [.int a1]) (rest := [.int 0, .ref (adr G 51)]) (n := 0) hx hb hml hown hts hX hP hS hl (c_Hp_count hlt T.2.1 T.2.2 a1 T.1 (res := .inr r3) hu1) m_Hp_count q_1182 (hy_recv hX hP 0 9 (by decide) rfl rfl) rfl rfl (Nat.le_of_ble_eq_true rfl) dL_count_4 ⟨Nat.le_of_ble_eq_true rfl, Nat.le_of_ble_eq_true rfl⟩ ⟨Nat.zero_le _, Nat.zero_le _⟩) hS (fun k hk => by cases hk) (fun v hv H locs hP hS => ?_)
    cases hv
    refine lv_i2l (v := r3.toInt64) hx hb dL_count_7 rfl ?_
    refine hy_last (T := T) (T2 := (wTL T 51 0 r3.toInt64)) hx hb hX hP hS (by decide) rfl dL_count_8 (fun H locs hP hS => ?_)
    obtain ⟨T4, hT4, h⟩ := hy_bind h
    rw [Option.some.inj hT4] at hP
    refine lv_goto (tgt := 15) hx hb dL_count_9 (by decide) ?_
    refine lv_iconst (v := 0) hx hb dL_count_15 rfl ?_
    exact hy_iret (T := T4) hx hb hr hlocks hP hS (by decide) (by decide) (by rw [← (Option.some.inj h)] <;> rfl) dL_count_16
