set_option maxHeartbeats 1000000 in
set_option maxRecDepth 100000 in
theorem c_Hp_below {l : Launch} {G : hyG} (hlt : l.stackTraces = false) (Mr Mo : hyM) (a1 : Int32) (a2 : Int32) (a3 : Int32) (a4 : Int32) (M : hyM) {res : (Nat ⊕ Int32)} (h : Hp_below a1 a2 a3 a4 M = res) : hyC l yX10_below (.code yX10_below cX10_below 5 (some .int)) 7 112 (hyNo res) G [.ref (adr G 0), .int a1, .int a2, .int a3, .int a4] (M, Mr, Mo) (hyoI res, (M, Mr, Mo)) := by
  refine hy_of (by decide +kernel) (Nat.le_of_ble_eq_true rfl) ?_
  intro p e s m below meth c hx hb hml hown hts hr hlocks ht hX hP hS ls hl
  have hl : lv_has ls 5 [(0, .ref (adr G 0)), (1, .int a1), (2, .int a2), (3, .int a3), (4, .int a4)] := hl
  rw [Hp_below] at h
  refine lv_iload_n hx hb dX10_below_0 rfl (lv_at hl 1 rfl) ?_
  refine lv_iconst (v := 4) hx hb dX10_below_1 rfl ?_
  obtain ⟨u1, hu1⟩ : ∃ z, Hp_checkIndex a1 4 M = z := ⟨_, rfl⟩
  rw [hu1] at h
  rcases u1 with k2 | r3
  all_goals try dsimp only at h
  · have er := h
    refine hy_retX (ou := (.inl k2, (M, Mr, Mo))) (n := 1) (k := 0) (hy_rS (T := (M, Mr, Mo)) (ou := (.inl k2, (M, Mr, Mo))) (As := [.int a1, .int 4]) (rest := []) (n := 1) hx hb hml hown hts hX hP hS hl (c_Hp_checkIndex hlt Mr Mo a1 4 M (res := .inl k2) hu1) m_Hp_checkIndex q_666 rfl rfl (Nat.le_of_ble_eq_true rfl) dX10_below_2 ⟨Nat.le_of_ble_eq_true rfl, Nat.le_of_ble_eq_true rfl⟩ ⟨by rw [← er]; exact Nat.le_of_ble_eq_true rfl, by rw [← er]; exact Nat.le_of_ble_eq_true rfl⟩) hS (fun k hk q ce H locs hP hS hce hcv hcl => ?_) (fun v hv => by cases hv)
    cases hk
    exact hy_out (T := (M, Mr, Mo)) ht hlocks hP hS (by rw [← er]; exact Nat.le_of_ble_eq_true rfl) (by rw [← er]; exact Nat.le_of_ble_eq_true rfl) (by rw [← er] <;> rfl) hce hcv hcl
  · refine hy_retX (ou := (.inr (none), (M, Mr, Mo))) (n := 0) (k := 0) (hy_rS (T := (M, Mr, Mo)) (ou := (.inr (none), (M, Mr, Mo))) (As := [.int a1, .int 4]) (rest := []) (n := 0) hx hb hml hown hts hX hP hS hl (c_Hp_checkIndex hlt Mr Mo a1 4 M (res := .inr r3) hu1) m_Hp_checkIndex q_666 rfl rfl (Nat.le_of_ble_eq_true rfl) dX10_below_2 ⟨Nat.le_of_ble_eq_true rfl, Nat.le_of_ble_eq_true rfl⟩ ⟨Nat.zero_le _, Nat.zero_le _⟩) hS (fun k hk => by cases hk) (fun v hv H locs hP hS => ?_)
    cases hv
    refine lv_iload_n hx hb dX10_below_5 rfl (lv_at hl 2 rfl) ?_
    refine lv_aload_n hx hb dX10_below_6 rfl (lv_at hl 0 rfl) ?_
    refine hy_get (T := (M, Mr, Mo)) (o := 0) (k := 5) (v := .ref (adr G 18)) hx hb hown hts hX hP (by decide) rfl rfl inX10g (by decide) q_298 rfl dX10_below_7 ?_
    refine hy_getN (T := (M, Mr, Mo)) (o := 18) (k := 2) (v := .int (M.1 18 2)) hx hb hown hts hX hP (by decide) rfl rfl inX5g (by decide) q_228 rfl dX10_below_10 ?_
    obtain ⟨u4, hu4⟩ : ∃ z, Hp_checkIndex a2 (M.1 18 2) M = z := ⟨_, rfl⟩
    rw [hu4] at h
    rcases u4 with k5 | r6
    all_goals try dsimp only at h
    · have er := h
      refine hy_retX (ou := (.inl k5, (M, Mr, Mo))) (n := 1) (k := 0) (hy_rS (T := (M, Mr, Mo)) (ou := (.inl k5, (M, Mr, Mo))) (As := [.int a2, .int (M.1 18 2)]) (rest := []) (n := 1) hx hb hml hown hts hX hP hS hl (c_Hp_checkIndex hlt Mr Mo a2 (M.1 18 2) M (res := .inl k5) hu4) m_Hp_checkIndex q_666 rfl rfl (Nat.le_of_ble_eq_true rfl) dX10_below_13 ⟨Nat.le_of_ble_eq_true rfl, Nat.le_of_ble_eq_true rfl⟩ ⟨by rw [← er]; exact Nat.le_of_ble_eq_true rfl, by rw [← er]; exact Nat.le_of_ble_eq_true rfl⟩) hS (fun k hk q ce H locs hP hS hce hcv hcl => ?_) (fun v hv => by cases hv)
      cases hk
      exact hy_out (T := (M, Mr, Mo)) ht hlocks hP hS (by rw [← er]; exact Nat.le_of_ble_eq_true rfl) (by rw [← er]; exact Nat.le_of_ble_eq_true rfl) (by rw [← er] <;> rfl) hce hcv hcl
    · refine hy_retX (ou := (.inr (none), (M, Mr, Mo))) (n := 0) (k := 0) (hy_rS (T := (M, Mr, Mo)) (ou := (.inr (none), (M, Mr, Mo))) (As := [.int a2, .int (M.1 18 2)]) (rest := []) (n := 0) hx hb hml hown hts hX hP hS hl (c_Hp_checkIndex hlt Mr Mo a2 (M.1 18 2) M (res := .inr r6) hu4) m_Hp_checkIndex q_666 rfl rfl (Nat.le_of_ble_eq_true rfl) dX10_below_13 ⟨Nat.le_of_ble_eq_true rfl, Nat.le_of_ble_eq_true rfl⟩ ⟨Nat.zero_le _, Nat.zero_le _⟩) hS (fun k hk => by cases hk) (fun v hv H locs hP hS => ?_)
      cases hv
      refine lv_iload_n hx hb dX10_below_16 rfl (lv_at hl 3 rfl) ?_
      refine lv_aload_n hx hb dX10_below_17 rfl (lv_at hl 0 rfl) ?_
      refine hy_get (T := (M, Mr, Mo)) (o := 0) (k := 4) (v := .ref (adr G 12)) hx hb hown hts hX hP (by decide) rfl rfl inX10g (by decide) q_297 rfl dX10_below_18 ?_
      refine lv_aload_n hx hb dX10_below_21 rfl (lv_at hl 0 rfl) ?_
      refine hy_get (T := (M, Mr, Mo)) (o := 0) (k := 5) (v := .ref (adr G 18)) hx hb hown hts hX hP (by decide) rfl rfl inX10g (by decide) q_298 rfl dX10_below_22 ?_
      refine lv_iload_n hx hb dX10_below_25 rfl (lv_at hl 2 rfl) ?_
      refine hy_ret (hy_rVN (T := (M, Mr, Mo)) (v := some (.int (Or_phraseAt a2 M))) (T2 := (M, Mr, Mo)) (As := [.int a2]) (rest := [.ref (adr G 12), .int a3]) (n := 0) hx hb hml hown hts hX hP hS hl (c_Or_phraseAt Mr Mo a2 M rfl) m_Or_phraseAt q_573 (hy_recv hX hP 18 4 (by decide) rfl rfl) rfl rfl (Nat.le_of_ble_eq_true rfl) dX10_below_26 ⟨Nat.le_of_ble_eq_true rfl, Nat.le_of_ble_eq_true rfl⟩ ⟨Nat.zero_le _, Nat.zero_le _⟩) hS (fun H locs hP hS => ?_)
      refine hy_ret (hy_rVN (T := (M, Mr, Mo)) (v := some (.int (Ph_notesOf (Or_phraseAt a2 M) M))) (T2 := (M, Mr, Mo)) (As := [.int (Or_phraseAt a2 M)]) (rest := [.int a3]) (n := 0) hx hb hml hown hts hX hP hS hl (c_Ph_notesOf Mr Mo (Or_phraseAt a2 M) M rfl) m_Ph_notesOf q_855 (hy_recv hX hP 12 5 (by decide) rfl rfl) rfl rfl (Nat.le_of_ble_eq_true rfl) dX10_below_29 ⟨Nat.le_of_ble_eq_true rfl, Nat.le_of_ble_eq_true rfl⟩ ⟨Nat.zero_le _, Nat.zero_le _⟩) hS (fun H locs hP hS => ?_)
      obtain ⟨u7, hu7⟩ : ∃ z, Hp_checkIndex a3 (Ph_notesOf (Or_phraseAt a2 M) M) M = z := ⟨_, rfl⟩
      rw [hu7] at h
      rcases u7 with k8 | r9
      all_goals try dsimp only at h
      · have er := h
        refine hy_retX (ou := (.inl k8, (M, Mr, Mo))) (n := 1) (k := 0) (hy_rS (T := (M, Mr, Mo)) (ou := (.inl k8, (M, Mr, Mo))) (As := [.int a3, .int (Ph_notesOf (Or_phraseAt a2 M) M)]) (rest := []) (n := 1) hx hb hml hown hts hX hP hS hl (c_Hp_checkIndex hlt Mr Mo a3 (Ph_notesOf (Or_phraseAt a2 M) M) M (res := .inl k8) hu7) m_Hp_checkIndex q_666 rfl rfl (Nat.le_of_ble_eq_true rfl) dX10_below_32 ⟨Nat.le_of_ble_eq_true rfl, Nat.le_of_ble_eq_true rfl⟩ ⟨by rw [← er]; exact Nat.le_of_ble_eq_true rfl, by rw [← er]; exact Nat.le_of_ble_eq_true rfl⟩) hS (fun k hk q ce H locs hP hS hce hcv hcl => ?_) (fun v hv => by cases hv)
        cases hk
        exact hy_out (T := (M, Mr, Mo)) ht hlocks hP hS (by rw [← er]; exact Nat.le_of_ble_eq_true rfl) (by rw [← er]; exact Nat.le_of_ble_eq_true rfl) (by rw [← er] <;> rfl) hce hcv hcl
      · refine hy_retX (ou := (.inr (none), (M, Mr, Mo))) (n := 0) (k := 0) (hy_rS (T := (M, Mr, Mo)) (ou := (.inr (none), (M, Mr, Mo))) (As := [.int a3, .int (Ph_notesOf (Or_phraseAt a2 M) M)]) (rest := []) (n := 0) hx hb hml hown hts hX hP hS hl (c_Hp_checkIndex hlt Mr Mo a3 (Ph_notesOf (Or_phraseAt a2 M) M) M (res := .inr r9) hu7) m_Hp_checkIndex q_666 rfl rfl (Nat.le_of_ble_eq_true rfl) dX10_below_32 ⟨Nat.le_of_ble_eq_true rfl, Nat.le_of_ble_eq_true rfl⟩ ⟨Nat.zero_le _, Nat.zero_le _⟩) hS (fun k hk => by cases hk) (fun v hv H locs hP hS => ?_)
        cases hv
        refine lv_iload hx hb dX10_below_35 (lv_at hl 4 rfl) ?_
        refine lv_iconst (v := 0) hx hb dX10_below_37 rfl ?_
        refine lv_iconst (v := 3) hx hb dX10_below_38 rfl ?_
        obtain ⟨u10, hu10⟩ : ∃ z, Hp_checkRange a4 0 3 M = z := ⟨_, rfl⟩
        rw [hu10] at h
        rcases u10 with k11 | r12
        all_goals try dsimp only at h
        · have er := h
          refine hy_retX (ou := (.inl k11, (M, Mr, Mo))) (n := 1) (k := 0) (hy_rS (T := (M, Mr, Mo)) (ou := (.inl k11, (M, Mr, Mo))) (As := [.int a4, .int 0, .int 3]) (rest := []) (n := 1) hx hb hml hown hts hX hP hS hl (c_Hp_checkRange hlt Mr Mo a4 0 3 M (res := .inl k11) hu10) m_Hp_checkRange q_328 rfl rfl (Nat.le_of_ble_eq_true rfl) dX10_below_39 ⟨Nat.le_of_ble_eq_true rfl, Nat.le_of_ble_eq_true rfl⟩ ⟨by rw [← er]; exact Nat.le_of_ble_eq_true rfl, by rw [← er]; exact Nat.le_of_ble_eq_true rfl⟩) hS (fun k hk q ce H locs hP hS hce hcv hcl => ?_) (fun v hv => by cases hv)
          cases hk
          exact hy_out (T := (M, Mr, Mo)) ht hlocks hP hS (by rw [← er]; exact Nat.le_of_ble_eq_true rfl) (by rw [← er]; exact Nat.le_of_ble_eq_true rfl) (by rw [← er] <;> rfl) hce hcv hcl
        · refine hy_retX (ou := (.inr (none), (M, Mr, Mo))) (n := 0) (k := 0) (hy_rS (T := (M, Mr, Mo)) (ou := (.inr (none), (M, Mr, Mo))) (As := [.int a4, .int 0, .int 3]) (rest := []) (n := 0) hx hb hml hown hts hX hP hS hl (c_Hp_checkRange hlt Mr Mo a4 0 3 M (res := .inr r12) hu10) m_Hp_checkRange q_328 rfl rfl (Nat.le_of_ble_eq_true rfl) dX10_below_39 ⟨Nat.le_of_ble_eq_true rfl, Nat.le_of_ble_eq_true rfl⟩ ⟨Nat.zero_le _, Nat.zero_le _⟩) hS (fun k hk => by cases hk) (fun v hv H locs hP hS => ?_)
          cases hv
          refine lv_aload_n hx hb dX10_below_42 rfl (lv_at hl 0 rfl) ?_
          refine lv_iload_n hx hb dX10_below_43 rfl (lv_at hl 1 rfl) ?_
          refine lv_iload_n hx hb dX10_below_44 rfl (lv_at hl 2 rfl) ?_
          refine lv_iload_n hx hb dX10_below_45 rfl (lv_at hl 3 rfl) ?_
          refine lv_iload hx hb dX10_below_46 (lv_at hl 4 rfl) ?_
          refine hy_ret (hy_rV0 (T := (M, Mr, Mo)) (v := some (.int (Hp_belowProperty a1 a2 a3 a4 M))) (T2 := (M, Mr, Mo)) (As := [.int a1, .int a2, .int a3, .int a4]) (rest := []) (n := 0) hx hb hml hown hts hX hP hS hl (c_Hp_belowProperty Mr Mo a1 a2 a3 a4 M rfl) m_Hp_belowProperty q_861 (hy_recv hX hP 0 9 (by decide) rfl rfl) rfl rfl (Nat.le_of_ble_eq_true rfl) dX10_below_48 ⟨Nat.le_of_ble_eq_true rfl, Nat.le_of_ble_eq_true rfl⟩ ⟨Nat.zero_le _, Nat.zero_le _⟩) hS (fun H locs hP hS => ?_)
          exact hy_iret (T := (M, Mr, Mo)) hx hb hr hlocks hP hS (Nat.zero_le _) (Nat.zero_le _) (by rw [← h] <;> rfl) dX10_below_51
set_option maxHeartbeats 1000000 in
set_option maxRecDepth 100000 in
theorem c_Hp_distanceOf {l : Launch} {G : hyG} (Mr Mo : hyM) (a1 : Int32) (M : hyM) {res : Int32} (h : Hp_distanceOf a1 M = some res) : hyC l yX10_distanceOf (.code yX10_distanceOf cX10_distanceOf 4 (some .int)) 3 63 (0) G [.ref (adr G 0), .int a1] (M, Mr, Mo) (.inr (some (.int res)), (M, Mr, Mo)) := by
  refine hy_of (by decide +kernel) (Nat.le_of_ble_eq_true rfl) ?_
  intro p e s m below meth c hx hb hml hown hts hr hlocks ht hX hP hS ls hl
  have hl : lv_has ls 4 [(0, .ref (adr G 0)), (1, .int a1)] := hl
  rw [Hp_distanceOf] at h
  refine lv_aload_n hx hb dX10_distanceOf_0 rfl (lv_at hl 0 rfl) ?_
  refine hy_get (T := (M, Mr, Mo)) (o := 0) (k := 7) (v := .ref (adr G 25)) hx hb hown hts hX hP (by decide) rfl rfl inX10g (by decide) q_300 rfl dX10_distanceOf_1 ?_
  refine lv_iload_n hx hb dX10_distanceOf_4 rfl (lv_at hl 1 rfl) ?_
  refine hy_ret (hy_rVN (T := (M, Mr, Mo)) (v := some (.int (Bo_sizeOf a1 M))) (T2 := (M, Mr, Mo)) (As := [.int a1]) (rest := []) (n := 0) hx hb hml hown hts hX hP hS hl (c_Bo_sizeOf Mr Mo a1 M rfl) m_Bo_sizeOf q_560 (hy_recv hX hP 25 1 (by decide) rfl rfl) rfl rfl (Nat.le_of_ble_eq_true rfl) dX10_distanceOf_5 ⟨Nat.le_of_ble_eq_true rfl, Nat.le_of_ble_eq_true rfl⟩ ⟨Nat.zero_le _, Nat.zero_le _⟩) hS (fun H locs hP hS => ?_)
  refine lv_aload_n hx hb dX10_distanceOf_8 rfl (lv_at hl 0 rfl) ?_
  refine hy_get (T := (M, Mr, Mo)) (o := 0) (k := 5) (v := .ref (adr G 18)) hx hb hown hts hX hP (by decide) rfl rfl inX10g (by decide) q_298 rfl dX10_distanceOf_9 ?_
  refine hy_getN (T := (M, Mr, Mo)) (o := 18) (k := 2) (v := .int (M.1 18 2)) hx hb hown hts hX hP (by decide) rfl rfl inX5g (by decide) q_228 rfl dX10_distanceOf_12 ?_
  refine lv_icmp_eq (tgt := 20) hx hb dX10_distanceOf_15 (by decide) (fun c1 => ?_) (fun c1 => ?_)
  · rw [if_pos c1] at h
    refine lv_iconst (v := 0) hx hb dX10_distanceOf_20 rfl ?_
    refine lv_istore_n (lv' := [(2, .int 0), (0, .ref (adr G 0)), (1, .int a1)]) hx hb dX10_distanceOf_21 rfl hl (by decide) rfl (fun ls hl => ?_)
    refine lv_iconst (v := 0) hx hb dX10_distanceOf_22 rfl ?_
    refine lv_istore_n (lv' := [(3, .int 0), (2, .int 0), (0, .ref (adr G 0)), (1, .int a1)]) hx hb dX10_distanceOf_23 rfl hl (by decide) rfl (fun ls hl => ?_)
    have L5 : ∀ (f : Nat) (x2 : Int32) (x3 : Int32) (qL : (Int32 × Int32)) (h : Hp_distanceOf_L24 a1 M f x2 x3 = some qL) (H : Heap) (locs : List Loc) (ls : Array Slot) (hP : va_P G.1 vwCl (wld G (M, Mr, Mo)) H) (hS : va_S (hyA G) s.heap H locs) (hl : lv_has ls 4 [(0, .ref (adr G 0)), (1, .int a1), (2, .int x2), (3, .int x3)]) (kk : ∀ (y2 : Int32) (y3 : Int32), qL = (y2, y3) → ∀ (H : Heap) (locs : List Loc) (ls : Array Slot), va_P G.1 vwCl (wld G (M, Mr, Mo)) H → va_S (hyA G) s.heap H locs → lv_has ls 4 [(0, .ref (adr G 0)), (1, .int a1), (2, .int y2), (3, .int y3)] → W p l e { frames := 3, cells := 0, slots := 6 * 0, locals := 63 } s m ([.ref (adr G 0), .int a1] : List Value).toArray below meth c H locs 0 0 (vx_MQ below (hyQ G (.inr (some (.int res)), (M, Mr, Mo))) (hyXQ G (.inr (some (.int res)), (M, Mr, Mo))) ([.ref (adr G 0), .int a1] : List Value).toArray s 0 (6 * 0) (hyA G)) (F0 m 62 ls [])), W p l e { frames := 3, cells := 0, slots := 6 * 0, locals := 63 } s m ([.ref (adr G 0), .int a1] : List Value).toArray below meth c H locs 0 0 (vx_MQ below (hyQ G (.inr (some (.int res)), (M, Mr, Mo))) (hyXQ G (.inr (some (.int res)), (M, Mr, Mo))) ([.ref (adr G 0), .int a1] : List Value).toArray s 0 (6 * 0) (hyA G)) (F0 m 24 ls []) := by
      intro f
      induction f with
      | zero =>
        intro x2 x3 qL h H locs ls hP hS hl kk
        rw [Hp_distanceOf_L24] at h
        cases h
      | succ f ih =>
        intro x2 x3 qL h H locs ls hP hS hl kk
        rw [Hp_distanceOf_L24] at h
        refine lv_iload_n hx hb dX10_distanceOf_24 rfl (lv_at hl 3 rfl) ?_
        refine lv_aload_n hx hb dX10_distanceOf_25 rfl (lv_at hl 0 rfl) ?_
        refine hy_get (T := (M, Mr, Mo)) (o := 0) (k := 5) (v := .ref (adr G 18)) hx hb hown hts hX hP (by decide) rfl rfl inX10g (by decide) q_298 rfl dX10_distanceOf_26 ?_
        refine hy_getN (T := (M, Mr, Mo)) (o := 18) (k := 2) (v := .int (M.1 18 2)) hx hb hown hts hX hP (by decide) rfl rfl inX5g (by decide) q_228 rfl dX10_distanceOf_29 ?_
        refine lv_icmp_ge (tgt := 62) hx hb dX10_distanceOf_32 (by decide) (fun c4 => ?_) (fun c4 => ?_)
        · rw [if_pos c4] at h
          exact kk x2 x3 (Option.some.inj h).symm _ _ ls hP hS (lv_sub hl [0, 1, 2, 3] rfl)
        · rw [if_neg c4] at h
          refine lv_iload_n hx hb dX10_distanceOf_35 rfl (lv_at hl 2 rfl) ?_
          refine lv_aload_n hx hb dX10_distanceOf_36 rfl (lv_at hl 0 rfl) ?_
          refine hy_get (T := (M, Mr, Mo)) (o := 0) (k := 7) (v := .ref (adr G 25)) hx hb hown hts hX hP (by decide) rfl rfl inX10g (by decide) q_300 rfl dX10_distanceOf_37 ?_
          refine lv_iload_n hx hb dX10_distanceOf_40 rfl (lv_at hl 1 rfl) ?_
          refine lv_iload_n hx hb dX10_distanceOf_41 rfl (lv_at hl 3 rfl) ?_
          refine hy_ret (hy_rVN (T := (M, Mr, Mo)) (v := some (.int (Bo_numberAt a1 x3 M))) (T2 := (M, Mr, Mo)) (As := [.int a1, .int x3]) (rest := [.int x2]) (n := 0) hx hb hml hown hts hX hP hS hl (c_Bo_numberAt Mr Mo a1 x3 M rfl) m_Bo_numberAt q_565 (hy_recv hX hP 25 1 (by decide) rfl rfl) rfl rfl (Nat.le_of_ble_eq_true rfl) dX10_distanceOf_42 ⟨Nat.le_of_ble_eq_true rfl, Nat.le_of_ble_eq_true rfl⟩ ⟨Nat.zero_le _, Nat.zero_le _⟩) hS (fun H locs hP hS => ?_)
          refine lv_aload_n hx hb dX10_distanceOf_45 rfl (lv_at hl 0 rfl) ?_
          refine lv_iload_n hx hb dX10_distanceOf_46 rfl (lv_at hl 3 rfl) ?_
          refine hy_ret (hy_rV0 (T := (M, Mr, Mo)) (v := some (.int (Hp_syllablesSung x3 M))) (T2 := (M, Mr, Mo)) (As := [.int x3]) (rest := [.int (Bo_numberAt a1 x3 M), .int x2]) (n := 0) hx hb hml hown hts hX hP hS hl (c_Hp_syllablesSung Mr Mo x3 M rfl) m_Hp_syllablesSung q_569 (hy_recv hX hP 0 9 (by decide) rfl rfl) rfl rfl (Nat.le_of_ble_eq_true rfl) dX10_distanceOf_47 ⟨Nat.le_of_ble_eq_true rfl, Nat.le_of_ble_eq_true rfl⟩ ⟨Nat.zero_le _, Nat.zero_le _⟩) hS (fun H locs hP hS => ?_)
          refine lv_isub hx hb dX10_distanceOf_50 ?_
          refine va_mabs hx hb (hml.trans hl.1.symm) hown (hts _ q_575) (hts _ q_576) (hts _ q_98) (hts _ q_577) (by decide) (Nat.le_of_ble_eq_true rfl) (Nat.zero_le _) (Nat.zero_le _) dX10_distanceOf_51 ?_
          refine W.eq (g2 := F0 m 54 ls (.int (jabs ((Bo_numberAt a1 x3 M) - (Hp_syllablesSung x3 M))) :: _)) rfl ?_
          refine lv_iadd hx hb dX10_distanceOf_54 ?_
          refine lv_istore_n (lv' := [(2, .int (x2 + (jabs ((Bo_numberAt a1 x3 M) - (Hp_syllablesSung x3 M))))), (0, .ref (adr G 0)), (1, .int a1), (3, .int x3)]) hx hb dX10_distanceOf_55 rfl hl (by decide) rfl (fun ls hl => ?_)
          refine lv_iinc (v := (x3 + 1)) (lv' := [(3, .int (x3 + 1)), (2, .int (x2 + (jabs ((Bo_numberAt a1 x3 M) - (Hp_syllablesSung x3 M))))), (0, .ref (adr G 0)), (1, .int a1)]) hx hb dX10_distanceOf_56 hl (k := 3) rfl rfl (by decide) rfl (fun ls hl => ?_)
          refine lv_goto (tgt := 24) hx hb dX10_distanceOf_59 (by decide) ?_
          exact ih (x2 + (jabs ((Bo_numberAt a1 x3 M) - (Hp_syllablesSung x3 M)))) (x3 + 1) _ h  _ _ ls hP hS (lv_sub hl [2, 3, 1, 0] rfl) kk
    obtain ⟨q6, hq6, h⟩ := hy_bind h
    refine L5 hyFu 0 0 q6 hq6 _ _ ls hP hS (lv_sub hl [2, 3, 1, 0] rfl) ?_
    intro y2 y3 e9 H locs ls hP hS hl
    subst e9
    try dsimp only at h
    refine lv_iload_n hx hb dX10_distanceOf_62 rfl (lv_at hl 2 rfl) ?_
    exact hy_iret (T := (M, Mr, Mo)) hx hb hr hlocks hP hS (Nat.zero_le _) (Nat.zero_le _) (by rw [← (Option.some.inj h)] <;> rfl) dX10_distanceOf_63
  · rw [if_neg c1] at h
    refine lv_iconst (v := (-1)) hx hb dX10_distanceOf_18 rfl ?_
    exact hy_iret (T := (M, Mr, Mo)) hx hb hr hlocks hP hS (Nat.zero_le _) (Nat.zero_le _) (by rw [← (Option.some.inj h)] <;> rfl) dX10_distanceOf_19
set_option maxHeartbeats 1000000 in
set_option maxRecDepth 100000 in
theorem c_Hp_distance {l : Launch} {G : hyG} (hlt : l.stackTraces = false) (Mr Mo : hyM) (a1 : Int32) (M : hyM) {res : (Nat ⊕ Int32)} (h : Hp_distance a1 M = some res) : hyC l yX10_distance (.code yX10_distance cX10_distance 2 (some .int)) 7 111 (hyNo res) G [.ref (adr G 0), .int a1] (M, Mr, Mo) (hyoI res, (M, Mr, Mo)) := by
  refine hy_of (by decide +kernel) (Nat.le_of_ble_eq_true rfl) ?_
  intro p e s m below meth c hx hb hml hown hts hr hlocks ht hX hP hS ls hl
  have hl : lv_has ls 2 [(0, .ref (adr G 0)), (1, .int a1)] := hl
  rw [Hp_distance] at h
  refine lv_iload_n hx hb dX10_distance_0 rfl (lv_at hl 1 rfl) ?_
  refine lv_aload_n hx hb dX10_distance_1 rfl (lv_at hl 0 rfl) ?_
  refine hy_get (T := (M, Mr, Mo)) (o := 0) (k := 7) (v := .ref (adr G 25)) hx hb hown hts hX hP (by decide) rfl rfl inX10g (by decide) q_300 rfl dX10_distance_2 ?_
  refine hy_getN (T := (M, Mr, Mo)) (o := 25) (k := 2) (v := .int (M.1 25 2)) hx hb hown hts hX hP (by decide) rfl rfl inX1g (by decide) q_269 rfl dX10_distance_5 ?_
  obtain ⟨u1, hu1⟩ : ∃ z, Hp_checkIndex a1 (M.1 25 2) M = z := ⟨_, rfl⟩
  rw [hu1] at h
  rcases u1 with k2 | r3
  all_goals try dsimp only at h
  · have er := (Option.some.inj h)
    refine hy_retX (ou := (.inl k2, (M, Mr, Mo))) (n := 1) (k := 0) (hy_rS (T := (M, Mr, Mo)) (ou := (.inl k2, (M, Mr, Mo))) (As := [.int a1, .int (M.1 25 2)]) (rest := []) (n := 1) hx hb hml hown hts hX hP hS hl (c_Hp_checkIndex hlt Mr Mo a1 (M.1 25 2) M (res := .inl k2) hu1) m_Hp_checkIndex q_666 rfl rfl (Nat.le_of_ble_eq_true rfl) dX10_distance_8 ⟨Nat.le_of_ble_eq_true rfl, Nat.le_of_ble_eq_true rfl⟩ ⟨by rw [← er]; exact Nat.le_of_ble_eq_true rfl, by rw [← er]; exact Nat.le_of_ble_eq_true rfl⟩) hS (fun k hk q ce H locs hP hS hce hcv hcl => ?_) (fun v hv => by cases hv)
    cases hk
    exact hy_out (T := (M, Mr, Mo)) ht hlocks hP hS (by rw [← er]; exact Nat.le_of_ble_eq_true rfl) (by rw [← er]; exact Nat.le_of_ble_eq_true rfl) (by rw [← er] <;> rfl) hce hcv hcl
  · refine hy_retX (ou := (.inr (none), (M, Mr, Mo))) (n := 0) (k := 0) (hy_rS (T := (M, Mr, Mo)) (ou := (.inr (none), (M, Mr, Mo))) (As := [.int a1, .int (M.1 25 2)]) (rest := []) (n := 0) hx hb hml hown hts hX hP hS hl (c_Hp_checkIndex hlt Mr Mo a1 (M.1 25 2) M (res := .inr r3) hu1) m_Hp_checkIndex q_666 rfl rfl (Nat.le_of_ble_eq_true rfl) dX10_distance_8 ⟨Nat.le_of_ble_eq_true rfl, Nat.le_of_ble_eq_true rfl⟩ ⟨Nat.zero_le _, Nat.zero_le _⟩) hS (fun k hk => by cases hk) (fun v hv H locs hP hS => ?_)
    cases hv
    refine lv_aload_n hx hb dX10_distance_11 rfl (lv_at hl 0 rfl) ?_
    refine lv_iload_n hx hb dX10_distance_12 rfl (lv_at hl 1 rfl) ?_
    obtain ⟨v4, hv4, h⟩ := hy_bind h
    refine hy_ret (hy_rV0 (T := (M, Mr, Mo)) (v := some (.int v4)) (T2 := (M, Mr, Mo)) (As := [.int a1]) (rest := []) (n := 0) hx hb hml hown hts hX hP hS hl (c_Hp_distanceOf Mr Mo a1 M hv4) m_Hp_distanceOf q_556 (hy_recv hX hP 0 9 (by decide) rfl rfl) rfl rfl (Nat.le_of_ble_eq_true rfl) dX10_distance_13 ⟨Nat.le_of_ble_eq_true rfl, Nat.le_of_ble_eq_true rfl⟩ ⟨Nat.zero_le _, Nat.zero_le _⟩) hS (fun H locs hP hS => ?_)
    exact hy_iret (T := (M, Mr, Mo)) hx hb hr hlocks hP hS (Nat.zero_le _) (Nat.zero_le _) (by rw [← (Option.some.inj h)] <;> rfl) dX10_distance_16
set_option maxHeartbeats 1000000 in
set_option maxRecDepth 100000 in
theorem c_Hp_nearest {l : Launch} {G : hyG} (Mr Mo : hyM) (M : hyM) {res : Int32} (h : Hp_nearest M = some res) : hyC l yX10_nearest (.code yX10_nearest cX10_nearest 5 (some .int)) 4 86 (0) G [.ref (adr G 0)] (M, Mr, Mo) (.inr (some (.int res)), (M, Mr, Mo)) := by
  refine hy_of (by decide +kernel) (Nat.le_of_ble_eq_true rfl) ?_
  intro p e s m below meth c hx hb hml hown hts hr hlocks ht hX hP hS ls hl
  have hl : lv_has ls 5 [(0, .ref (adr G 0))] := hl
  rw [Hp_nearest] at h
  refine lv_iconst (v := (-1)) hx hb dX10_nearest_0 rfl ?_
  refine lv_istore_n (lv' := [(1, .int (-1)), (0, .ref (adr G 0))]) hx hb dX10_nearest_1 rfl hl (by decide) rfl (fun ls hl => ?_)
  refine lv_iconst (v := (-1)) hx hb dX10_nearest_2 rfl ?_
  refine lv_istore_n (lv' := [(2, .int (-1)), (1, .int (-1)), (0, .ref (adr G 0))]) hx hb dX10_nearest_3 rfl hl (by decide) rfl (fun ls hl => ?_)
  refine lv_iconst (v := 0) hx hb dX10_nearest_4 rfl ?_
  refine lv_istore_n (lv' := [(3, .int 0), (2, .int (-1)), (1, .int (-1)), (0, .ref (adr G 0))]) hx hb dX10_nearest_5 rfl hl (by decide) rfl (fun ls hl => ?_)
  have L10 : ∀ (f : Nat) (x1 : Int32) (x2 : Int32) (x3 : Int32) (qL : (Int32 × Int32 × Int32)) (h : Hp_nearest_L6 M f x1 x2 x3 = some qL) (H : Heap) (locs : List Loc) (ls : Array Slot) (hP : va_P G.1 vwCl (wld G (M, Mr, Mo)) H) (hS : va_S (hyA G) s.heap H locs) (hl : lv_has ls 5 [(0, .ref (adr G 0)), (1, .int x1), (2, .int x2), (3, .int x3)]) (kk : ∀ (y1 : Int32) (y2 : Int32) (y3 : Int32), qL = (y1, y2, y3) → ∀ (H : Heap) (locs : List Loc) (ls : Array Slot), va_P G.1 vwCl (wld G (M, Mr, Mo)) H → va_S (hyA G) s.heap H locs → lv_has ls 5 [(0, .ref (adr G 0)), (1, .int y1), (2, .int y2), (3, .int y3)] → W p l e { frames := 4, cells := 0, slots := 6 * 0, locals := 86 } s m ([.ref (adr G 0)] : List Value).toArray below meth c H locs 0 0 (vx_MQ below (hyQ G (.inr (some (.int res)), (M, Mr, Mo))) (hyXQ G (.inr (some (.int res)), (M, Mr, Mo))) ([.ref (adr G 0)] : List Value).toArray s 0 (6 * 0) (hyA G)) (F0 m 52 ls [])), W p l e { frames := 4, cells := 0, slots := 6 * 0, locals := 86 } s m ([.ref (adr G 0)] : List Value).toArray below meth c H locs 0 0 (vx_MQ below (hyQ G (.inr (some (.int res)), (M, Mr, Mo))) (hyXQ G (.inr (some (.int res)), (M, Mr, Mo))) ([.ref (adr G 0)] : List Value).toArray s 0 (6 * 0) (hyA G)) (F0 m 6 ls []) := by
    intro f
    induction f with
    | zero =>
      intro x1 x2 x3 qL h H locs ls hP hS hl kk
      rw [Hp_nearest_L6] at h
      cases h
    | succ f ih =>
      intro x1 x2 x3 qL h H locs ls hP hS hl kk
      rw [Hp_nearest_L6] at h
      refine lv_iload_n hx hb dX10_nearest_6 rfl (lv_at hl 3 rfl) ?_
      refine lv_aload_n hx hb dX10_nearest_7 rfl (lv_at hl 0 rfl) ?_
      refine hy_get (T := (M, Mr, Mo)) (o := 0) (k := 7) (v := .ref (adr G 25)) hx hb hown hts hX hP (by decide) rfl rfl inX10g (by decide) q_300 rfl dX10_nearest_8 ?_
      refine hy_getN (T := (M, Mr, Mo)) (o := 25) (k := 2) (v := .int (M.1 25 2)) hx hb hown hts hX hP (by decide) rfl rfl inX1g (by decide) q_269 rfl dX10_nearest_11 ?_
      refine lv_icmp_ge (tgt := 52) hx hb dX10_nearest_14 (by decide) (fun c4 => ?_) (fun c4 => ?_)
      · rw [if_pos c4] at h
        exact kk x1 x2 x3 (Option.some.inj h).symm _ _ ls hP hS (lv_sub hl [0, 1, 2, 3] rfl)
      · rw [if_neg c4] at h
        refine lv_aload_n hx hb dX10_nearest_17 rfl (lv_at hl 0 rfl) ?_
        refine lv_iload_n hx hb dX10_nearest_18 rfl (lv_at hl 3 rfl) ?_
        obtain ⟨v5, hv5, h⟩ := hy_bind h
        refine hy_ret (hy_rV0 (T := (M, Mr, Mo)) (v := some (.int v5)) (T2 := (M, Mr, Mo)) (As := [.int x3]) (rest := []) (n := 0) hx hb hml hown hts hX hP hS hl (c_Hp_distanceOf Mr Mo x3 M hv5) m_Hp_distanceOf q_556 (hy_recv hX hP 0 9 (by decide) rfl rfl) rfl rfl (Nat.le_of_ble_eq_true rfl) dX10_nearest_19 ⟨Nat.le_of_ble_eq_true rfl, Nat.le_of_ble_eq_true rfl⟩ ⟨Nat.zero_le _, Nat.zero_le _⟩) hS (fun H locs hP hS => ?_)
        refine lv_istore (lv' := [(4, .int v5), (0, .ref (adr G 0)), (1, .int x1), (2, .int x2), (3, .int x3)]) hx hb dX10_nearest_22 hl (by decide) rfl (fun ls hl => ?_)
        refine lv_iload hx hb dX10_nearest_24 (lv_at hl 0 rfl) ?_
        refine lv_iconst (v := (-1)) hx hb dX10_nearest_26 rfl ?_
        have J9 : ∀ (H : Heap) (locs : List Loc) (ls : Array Slot) (u1 : Int32) (u2 : Int32), u1 = (if v5 = (-1) then x1 else (if x1 = (-1) then x3 else (if x2 ≤ v5 then x1 else x3))) → u2 = (if v5 = (-1) then x2 else (if x1 = (-1) then v5 else (if x2 ≤ v5 then x2 else v5))) → va_P G.1 vwCl (wld G (M, Mr, Mo)) H → va_S (hyA G) s.heap H locs → lv_has ls 5 [(0, .ref (adr G 0)), (1, .int u1), (2, .int u2), (3, .int x3), (4, .int v5)] → W p l e { frames := 4, cells := 0, slots := 6 * 0, locals := 86 } s m ([.ref (adr G 0)] : List Value).toArray below meth c H locs 0 0 (vx_MQ below (hyQ G (.inr (some (.int res)), (M, Mr, Mo))) (hyXQ G (.inr (some (.int res)), (M, Mr, Mo))) ([.ref (adr G 0)] : List Value).toArray s 0 (6 * 0) (hyA G)) (F0 m 46 ls []) := by
          intro H locs ls u1 u2 eu1 eu2 hP hS hl
          subst eu1
          subst eu2
          refine lv_iinc (v := (x3 + 1)) (lv' := [(3, .int (x3 + 1)), (0, .ref (adr G 0)), (1, .int (if v5 = (-1) then x1 else (if x1 = (-1) then x3 else (if x2 ≤ v5 then x1 else x3)))), (2, .int (if v5 = (-1) then x2 else (if x1 = (-1) then v5 else (if x2 ≤ v5 then x2 else v5)))), (4, .int v5)]) hx hb dX10_nearest_46 hl (k := 3) rfl rfl (by decide) rfl (fun ls hl => ?_)
          refine lv_goto (tgt := 6) hx hb dX10_nearest_49 (by decide) ?_
          exact ih (if v5 = (-1) then x1 else (if x1 = (-1) then x3 else (if x2 ≤ v5 then x1 else x3))) (if v5 = (-1) then x2 else (if x1 = (-1) then v5 else (if x2 ≤ v5 then x2 else v5))) (x3 + 1) _ h  _ _ ls hP hS (lv_sub hl [1, 2, 3, 0] rfl) kk
        refine lv_icmp_eq (tgt := 46) hx hb dX10_nearest_27 (by decide) (fun c6 => ?_) (fun c6 => ?_)
        · exact J9 _ _ ls x1 x2 (by rw [if_pos c6] <;> rfl) (by rw [if_pos c6] <;> rfl) hP hS (lv_sub hl [1, 2, 3, 4, 0] rfl)
        · refine lv_iload_n hx hb dX10_nearest_30 rfl (lv_at hl 2 rfl) ?_
          refine lv_iconst (v := (-1)) hx hb dX10_nearest_31 rfl ?_
          refine lv_icmp_eq (tgt := 41) hx hb dX10_nearest_32 (by decide) (fun c7 => ?_) (fun c7 => ?_)
          · refine lv_iload_n hx hb dX10_nearest_41 rfl (lv_at hl 4 rfl) ?_
            refine lv_istore_n (lv' := [(1, .int x3), (4, .int v5), (0, .ref (adr G 0)), (2, .int x2), (3, .int x3)]) hx hb dX10_nearest_42 rfl hl (by decide) rfl (fun ls hl => ?_)
            refine lv_iload hx hb dX10_nearest_43 (lv_at hl 1 rfl) ?_
            refine lv_istore_n (lv' := [(2, .int v5), (1, .int x3), (4, .int v5), (0, .ref (adr G 0)), (3, .int x3)]) hx hb dX10_nearest_45 rfl hl (by decide) rfl (fun ls hl => ?_)
            exact J9 _ _ ls x3 v5 (by rw [if_neg c6, if_pos c7] <;> rfl) (by rw [if_neg c6, if_pos c7] <;> rfl) hP hS (lv_sub hl [3, 1, 0, 4, 2] rfl)
          · refine lv_iload hx hb dX10_nearest_35 (lv_at hl 0 rfl) ?_
            refine lv_iload_n hx hb dX10_nearest_37 rfl (lv_at hl 3 rfl) ?_
            refine lv_icmp_ge (tgt := 46) hx hb dX10_nearest_38 (by decide) (fun c8 => ?_) (fun c8 => ?_)
            · exact J9 _ _ ls x1 x2 (by rw [if_neg c6, if_neg c7, if_pos c8] <;> rfl) (by rw [if_neg c6, if_neg c7, if_pos c8] <;> rfl) hP hS (lv_sub hl [1, 2, 3, 4, 0] rfl)
            · refine lv_iload_n hx hb dX10_nearest_41 rfl (lv_at hl 4 rfl) ?_
              refine lv_istore_n (lv' := [(1, .int x3), (4, .int v5), (0, .ref (adr G 0)), (2, .int x2), (3, .int x3)]) hx hb dX10_nearest_42 rfl hl (by decide) rfl (fun ls hl => ?_)
              refine lv_iload hx hb dX10_nearest_43 (lv_at hl 1 rfl) ?_
              refine lv_istore_n (lv' := [(2, .int v5), (1, .int x3), (4, .int v5), (0, .ref (adr G 0)), (3, .int x3)]) hx hb dX10_nearest_45 rfl hl (by decide) rfl (fun ls hl => ?_)
              exact J9 _ _ ls x3 v5 (by rw [if_neg c6, if_neg c7, if_neg c8] <;> rfl) (by rw [if_neg c6, if_neg c7, if_neg c8] <;> rfl) hP hS (lv_sub hl [3, 1, 0, 4, 2] rfl)
  obtain ⟨q11, hq11, h⟩ := hy_bind h
  refine L10 hyFu (-1) (-1) 0 q11 hq11 _ _ ls hP hS (lv_sub hl [3, 2, 1, 0] rfl) ?_
  intro y1 y2 y3 e9 H locs ls hP hS hl
  subst e9
  try dsimp only at h
  refine lv_iload_n hx hb dX10_nearest_52 rfl (lv_at hl 1 rfl) ?_
  exact hy_iret (T := (M, Mr, Mo)) hx hb hr hlocks hP hS (Nat.zero_le _) (Nat.zero_le _) (by rw [← (Option.some.inj h)] <;> rfl) dX10_nearest_53
set_option maxHeartbeats 1000000 in
set_option maxRecDepth 100000 in
theorem c_Hp_metre {l : Launch} {G : hyG} (hlt : l.stackTraces = false) (Mr Mo : hyM) (a1 : Int32) (a2 : Int32) (M : hyM) {res : (Nat ⊕ Int32)} (h : Hp_metre a1 a2 M = res) : hyC l yX10_metre (.code yX10_metre cX10_metre 3 (some .int)) 7 111 (hyNo res) G [.ref (adr G 0), .int a1, .int a2] (M, Mr, Mo) (hyoI res, (M, Mr, Mo)) := by
  refine hy_of (by decide +kernel) (Nat.le_of_ble_eq_true rfl) ?_
  intro p e s m below meth c hx hb hml hown hts hr hlocks ht hX hP hS ls hl
  have hl : lv_has ls 3 [(0, .ref (adr G 0)), (1, .int a1), (2, .int a2)] := hl
  rw [Hp_metre] at h
  refine lv_iload_n hx hb dX10_metre_0 rfl (lv_at hl 1 rfl) ?_
  refine lv_aload_n hx hb dX10_metre_1 rfl (lv_at hl 0 rfl) ?_
  refine hy_get (T := (M, Mr, Mo)) (o := 0) (k := 7) (v := .ref (adr G 25)) hx hb hown hts hX hP (by decide) rfl rfl inX10g (by decide) q_300 rfl dX10_metre_2 ?_
  refine hy_getN (T := (M, Mr, Mo)) (o := 25) (k := 2) (v := .int (M.1 25 2)) hx hb hown hts hX hP (by decide) rfl rfl inX1g (by decide) q_269 rfl dX10_metre_5 ?_
  obtain ⟨u1, hu1⟩ : ∃ z, Hp_checkIndex a1 (M.1 25 2) M = z := ⟨_, rfl⟩
  rw [hu1] at h
  rcases u1 with k2 | r3
  all_goals try dsimp only at h
  · have er := h
    refine hy_retX (ou := (.inl k2, (M, Mr, Mo))) (n := 1) (k := 0) (hy_rS (T := (M, Mr, Mo)) (ou := (.inl k2, (M, Mr, Mo))) (As := [.int a1, .int (M.1 25 2)]) (rest := []) (n := 1) hx hb hml hown hts hX hP hS hl (c_Hp_checkIndex hlt Mr Mo a1 (M.1 25 2) M (res := .inl k2) hu1) m_Hp_checkIndex q_666 rfl rfl (Nat.le_of_ble_eq_true rfl) dX10_metre_8 ⟨Nat.le_of_ble_eq_true rfl, Nat.le_of_ble_eq_true rfl⟩ ⟨by rw [← er]; exact Nat.le_of_ble_eq_true rfl, by rw [← er]; exact Nat.le_of_ble_eq_true rfl⟩) hS (fun k hk q ce H locs hP hS hce hcv hcl => ?_) (fun v hv => by cases hv)
    cases hk
    exact hy_out (T := (M, Mr, Mo)) ht hlocks hP hS (by rw [← er]; exact Nat.le_of_ble_eq_true rfl) (by rw [← er]; exact Nat.le_of_ble_eq_true rfl) (by rw [← er] <;> rfl) hce hcv hcl
  · refine hy_retX (ou := (.inr (none), (M, Mr, Mo))) (n := 0) (k := 0) (hy_rS (T := (M, Mr, Mo)) (ou := (.inr (none), (M, Mr, Mo))) (As := [.int a1, .int (M.1 25 2)]) (rest := []) (n := 0) hx hb hml hown hts hX hP hS hl (c_Hp_checkIndex hlt Mr Mo a1 (M.1 25 2) M (res := .inr r3) hu1) m_Hp_checkIndex q_666 rfl rfl (Nat.le_of_ble_eq_true rfl) dX10_metre_8 ⟨Nat.le_of_ble_eq_true rfl, Nat.le_of_ble_eq_true rfl⟩ ⟨Nat.zero_le _, Nat.zero_le _⟩) hS (fun k hk => by cases hk) (fun v hv H locs hP hS => ?_)
    cases hv
    refine lv_iload_n hx hb dX10_metre_11 rfl (lv_at hl 2 rfl) ?_
    have K6 : ∀ (H : Heap) (locs : List Loc), (if a2 < 0 then true else (!decide (a2 < (Bo_sizeOf a1 M)))) = true → va_P G.1 vwCl (wld G (M, Mr, Mo)) H → va_S (hyA G) s.heap H locs → W p l e { frames := 7, cells := (hyNo res), slots := 6 * (hyNo res), locals := 111 } s m ([.ref (adr G 0), .int a1, .int a2] : List Value).toArray below meth c H locs 0 0 (vx_MQ below (hyQ G (hyoI res, (M, Mr, Mo))) (hyXQ G (hyoI res, (M, Mr, Mo))) ([.ref (adr G 0), .int a1, .int a2] : List Value).toArray s (hyNo res) (6 * (hyNo res)) (hyA G)) (F0 m 27 ls []) := by
      intro H locs cb hP hS
      rw [if_pos cb] at h
      refine lv_iconst (v := (-1)) hx hb dX10_metre_27 rfl ?_
      exact hy_iret (T := (M, Mr, Mo)) hx hb hr hlocks hP hS (Nat.zero_le _) (Nat.zero_le _) (by rw [← h] <;> rfl) dX10_metre_28
    have K7 : ∀ (H : Heap) (locs : List Loc), ¬ (if a2 < 0 then true else (!decide (a2 < (Bo_sizeOf a1 M)))) = true → va_P G.1 vwCl (wld G (M, Mr, Mo)) H → va_S (hyA G) s.heap H locs → W p l e { frames := 7, cells := (hyNo res), slots := 6 * (hyNo res), locals := 111 } s m ([.ref (adr G 0), .int a1, .int a2] : List Value).toArray below meth c H locs 0 0 (vx_MQ below (hyQ G (hyoI res, (M, Mr, Mo))) (hyXQ G (hyoI res, (M, Mr, Mo))) ([.ref (adr G 0), .int a1, .int a2] : List Value).toArray s (hyNo res) (6 * (hyNo res)) (hyA G)) (F0 m 29 ls []) := by
      intro H locs cb hP hS
      rw [if_neg cb] at h
      refine lv_aload_n hx hb dX10_metre_29 rfl (lv_at hl 0 rfl) ?_
      refine hy_get (T := (M, Mr, Mo)) (o := 0) (k := 7) (v := .ref (adr G 25)) hx hb hown hts hX hP (by decide) rfl rfl inX10g (by decide) q_300 rfl dX10_metre_30 ?_
      refine lv_iload_n hx hb dX10_metre_33 rfl (lv_at hl 1 rfl) ?_
      refine lv_iload_n hx hb dX10_metre_34 rfl (lv_at hl 2 rfl) ?_
      refine hy_ret (hy_rVN (T := (M, Mr, Mo)) (v := some (.int (Bo_numberAt a1 a2 M))) (T2 := (M, Mr, Mo)) (As := [.int a1, .int a2]) (rest := []) (n := 0) hx hb hml hown hts hX hP hS hl (c_Bo_numberAt Mr Mo a1 a2 M rfl) m_Bo_numberAt q_565 (hy_recv hX hP 25 1 (by decide) rfl rfl) rfl rfl (Nat.le_of_ble_eq_true rfl) dX10_metre_35 ⟨Nat.le_of_ble_eq_true rfl, Nat.le_of_ble_eq_true rfl⟩ ⟨Nat.zero_le _, Nat.zero_le _⟩) hS (fun H locs hP hS => ?_)
      exact hy_iret (T := (M, Mr, Mo)) hx hb hr hlocks hP hS (Nat.zero_le _) (Nat.zero_le _) (by rw [← h] <;> rfl) dX10_metre_38
    refine lv_if_lt (tgt := 27) hx hb dX10_metre_12 (by decide) (fun c4 => ?_) (fun c4 => ?_)
    · exact K6 _ _ (by rw [if_pos c4] <;> first | rfl | decide) hP hS
    · refine lv_iload_n hx hb dX10_metre_15 rfl (lv_at hl 2 rfl) ?_
      refine lv_aload_n hx hb dX10_metre_16 rfl (lv_at hl 0 rfl) ?_
      refine hy_get (T := (M, Mr, Mo)) (o := 0) (k := 7) (v := .ref (adr G 25)) hx hb hown hts hX hP (by decide) rfl rfl inX10g (by decide) q_300 rfl dX10_metre_17 ?_
      refine lv_iload_n hx hb dX10_metre_20 rfl (lv_at hl 1 rfl) ?_
      refine hy_ret (hy_rVN (T := (M, Mr, Mo)) (v := some (.int (Bo_sizeOf a1 M))) (T2 := (M, Mr, Mo)) (As := [.int a1]) (rest := [.int a2]) (n := 0) hx hb hml hown hts hX hP hS hl (c_Bo_sizeOf Mr Mo a1 M rfl) m_Bo_sizeOf q_560 (hy_recv hX hP 25 1 (by decide) rfl rfl) rfl rfl (Nat.le_of_ble_eq_true rfl) dX10_metre_21 ⟨Nat.le_of_ble_eq_true rfl, Nat.le_of_ble_eq_true rfl⟩ ⟨Nat.zero_le _, Nat.zero_le _⟩) hS (fun H locs hP hS => ?_)
      refine lv_icmp_lt (tgt := 29) hx hb dX10_metre_24 (by decide) (fun c5 => ?_) (fun c5 => ?_)
      · exact K7 _ _ (by rw [if_neg c4, decide_eq_true c5] <;> first | rfl | decide) hP hS
      · exact K6 _ _ (by rw [if_neg c4, decide_eq_false c5] <;> first | rfl | decide) hP hS
set_option maxHeartbeats 1000000 in
set_option maxRecDepth 100000 in
theorem c_Hp_countOfTune {l : Launch} {G : hyG} (Mr Mo : hyM) (a1 : Int32) (M : hyM) {res : Int32} (h : Hp_countOfTune a1 M = res) : hyC l yX10_countOfTune (.code yX10_countOfTune cX10_countOfTune 2 (some .int)) 0 0 (0) G [.ref (adr G 0), .int a1] (M, Mr, Mo) (.inr (some (.int res)), (M, Mr, Mo)) := by
  refine hy_of (by decide +kernel) (Nat.le_of_ble_eq_true rfl) ?_
  intro p e s m below meth c hx hb hml hown hts hr hlocks ht hX hP hS ls hl
  have hl : lv_has ls 2 [(0, .ref (adr G 0)), (1, .int a1)] := hl
  rw [Hp_countOfTune] at h
  refine lv_iload_n hx hb dX10_countOfTune_0 rfl (lv_at hl 1 rfl) ?_
  by_cases c1 : a1 = 0
  · rw [if_pos c1] at h
    refine lv_tableIn (tgt := 40) (off := 39) hx hb dX10_countOfTune_1 (by rw [c1]; decide) (by rw [c1]; decide) (by rw [c1]; rfl) (by decide) ?_
    refine lv_aload_n hx hb dX10_countOfTune_40 rfl (lv_at hl 0 rfl) ?_
    refine hy_get (T := (M, Mr, Mo)) (o := 0) (k := 0) (v := .ref (adr G 1)) hx hb hown hts hX hP (by decide) rfl rfl inX10g (by decide) q_293 rfl dX10_countOfTune_41 ?_
    refine hy_getN (T := (M, Mr, Mo)) (o := 1) (k := 4) (v := .int (M.1 1 4)) hx hb hown hts hX hP (by decide) rfl rfl inX8g (by decide) q_125 rfl dX10_countOfTune_44 ?_
    exact hy_iret (T := (M, Mr, Mo)) hx hb hr hlocks hP hS (Nat.zero_le _) (Nat.zero_le _) (by rw [← h] <;> rfl) dX10_countOfTune_47
  · rw [if_neg c1] at h
    by_cases c2 : a1 = 1
    · rw [if_pos c2] at h
      refine lv_tableIn (tgt := 48) (off := 47) hx hb dX10_countOfTune_1 (by rw [c2]; decide) (by rw [c2]; decide) (by rw [c2]; rfl) (by decide) ?_
      refine lv_aload_n hx hb dX10_countOfTune_48 rfl (lv_at hl 0 rfl) ?_
      refine hy_get (T := (M, Mr, Mo)) (o := 0) (k := 0) (v := .ref (adr G 1)) hx hb hown hts hX hP (by decide) rfl rfl inX10g (by decide) q_293 rfl dX10_countOfTune_49 ?_
      refine hy_getN (T := (M, Mr, Mo)) (o := 1) (k := 5) (v := .int (M.1 1 5)) hx hb hown hts hX hP (by decide) rfl rfl inX8g (by decide) q_128 rfl dX10_countOfTune_52 ?_
      exact hy_iret (T := (M, Mr, Mo)) hx hb hr hlocks hP hS (Nat.zero_le _) (Nat.zero_le _) (by rw [← h] <;> rfl) dX10_countOfTune_55
    · rw [if_neg c2] at h
      by_cases c3 : a1 = 2
      · rw [if_pos c3] at h
        refine lv_tableIn (tgt := 56) (off := 55) hx hb dX10_countOfTune_1 (by rw [c3]; decide) (by rw [c3]; decide) (by rw [c3]; rfl) (by decide) ?_
        refine lv_aload_n hx hb dX10_countOfTune_56 rfl (lv_at hl 0 rfl) ?_
        refine hy_get (T := (M, Mr, Mo)) (o := 0) (k := 4) (v := .ref (adr G 12)) hx hb hown hts hX hP (by decide) rfl rfl inX10g (by decide) q_297 rfl dX10_countOfTune_57 ?_
        refine hy_getN (T := (M, Mr, Mo)) (o := 12) (k := 5) (v := .int (M.1 12 5)) hx hb hown hts hX hP (by decide) rfl rfl inX6g (by decide) q_204 rfl dX10_countOfTune_60 ?_
        exact hy_iret (T := (M, Mr, Mo)) hx hb hr hlocks hP hS (Nat.zero_le _) (Nat.zero_le _) (by rw [← h] <;> rfl) dX10_countOfTune_63
      · rw [if_neg c3] at h
        by_cases c4 : a1 = 3
        · rw [if_pos c4] at h
          refine lv_tableIn (tgt := 64) (off := 63) hx hb dX10_countOfTune_1 (by rw [c4]; decide) (by rw [c4]; decide) (by rw [c4]; rfl) (by decide) ?_
          refine lv_aload_n hx hb dX10_countOfTune_64 rfl (lv_at hl 0 rfl) ?_
          refine hy_get (T := (M, Mr, Mo)) (o := 0) (k := 5) (v := .ref (adr G 18)) hx hb hown hts hX hP (by decide) rfl rfl inX10g (by decide) q_298 rfl dX10_countOfTune_65 ?_
          refine hy_getN (T := (M, Mr, Mo)) (o := 18) (k := 2) (v := .int (M.1 18 2)) hx hb hown hts hX hP (by decide) rfl rfl inX5g (by decide) q_228 rfl dX10_countOfTune_68 ?_
          exact hy_iret (T := (M, Mr, Mo)) hx hb hr hlocks hP hS (Nat.zero_le _) (Nat.zero_le _) (by rw [← h] <;> rfl) dX10_countOfTune_71
        · rw [if_neg c4] at h
          by_cases c5 : a1 = 4
          · rw [if_pos c5] at h
            refine lv_tableIn (tgt := 72) (off := 71) hx hb dX10_countOfTune_1 (by rw [c5]; decide) (by rw [c5]; decide) (by rw [c5]; rfl) (by decide) ?_
            refine lv_aload_n hx hb dX10_countOfTune_72 rfl (lv_at hl 0 rfl) ?_
            refine hy_get (T := (M, Mr, Mo)) (o := 0) (k := 2) (v := .ref (adr G 5)) hx hb hown hts hX hP (by decide) rfl rfl inX10g (by decide) q_295 rfl dX10_countOfTune_73 ?_
            refine hy_getN (T := (M, Mr, Mo)) (o := 5) (k := 3) (v := .int (M.1 5 3)) hx hb hown hts hX hP (by decide) rfl rfl inX7g (by decide) q_168 rfl dX10_countOfTune_76 ?_
            exact hy_iret (T := (M, Mr, Mo)) hx hb hr hlocks hP hS (Nat.zero_le _) (Nat.zero_le _) (by rw [← h] <;> rfl) dX10_countOfTune_79
          · rw [if_neg c5] at h
            by_cases c6 : a1 = 5
            · rw [if_pos c6] at h
              refine lv_tableIn (tgt := 80) (off := 79) hx hb dX10_countOfTune_1 (by rw [c6]; decide) (by rw [c6]; decide) (by rw [c6]; rfl) (by decide) ?_
              refine lv_aload_n hx hb dX10_countOfTune_80 rfl (lv_at hl 0 rfl) ?_
              refine hy_get (T := (M, Mr, Mo)) (o := 0) (k := 1) (v := .ref (adr G 4)) hx hb hown hts hX hP (by decide) rfl rfl inX10g (by decide) q_294 rfl dX10_countOfTune_81 ?_
              refine hy_getN (T := (M, Mr, Mo)) (o := 4) (k := 0) (v := .int (M.1 4 0)) hx hb hown hts hX hP (by decide) rfl rfl inX0g (by decide) q_150 rfl dX10_countOfTune_84 ?_
              exact hy_iret (T := (M, Mr, Mo)) hx hb hr hlocks hP hS (Nat.zero_le _) (Nat.zero_le _) (by rw [← h] <;> rfl) dX10_countOfTune_87
            · rw [if_neg c6] at h
              refine lv_tableOut (tgt := 88) hx hb dX10_countOfTune_1 (hy_tabOut 0 a1 6 (fun k hk => by match k, hk with | 0, _ => exact c1 | 1, _ => exact c2 | 2, _ => exact c3 | 3, _ => exact c4 | 4, _ => exact c5 | 5, _ => exact c6 | k9 + 6, hk => exact absurd hk (by omega))) (by decide) ?_
              refine lv_aload_n hx hb dX10_countOfTune_88 rfl (lv_at hl 0 rfl) ?_
              refine hy_get (T := (M, Mr, Mo)) (o := 0) (k := 1) (v := .ref (adr G 4)) hx hb hown hts hX hP (by decide) rfl rfl inX10g (by decide) q_294 rfl dX10_countOfTune_89 ?_
              refine hy_getN (T := (M, Mr, Mo)) (o := 4) (k := 1) (v := .int (M.1 4 1)) hx hb hown hts hX hP (by decide) rfl rfl inX0g (by decide) q_152 rfl dX10_countOfTune_92 ?_
              exact hy_iret (T := (M, Mr, Mo)) hx hb hr hlocks hP hS (Nat.zero_le _) (Nat.zero_le _) (by rw [← h] <;> rfl) dX10_countOfTune_95
set_option maxHeartbeats 1000000 in
set_option maxRecDepth 100000 in
theorem c_Hp_fittingVerses {l : Launch} {G : hyG} (Mr Mo : hyM) (M : hyM) {res : Int32} (h : Hp_fittingVerses M = some res) : hyC l yX10_fittingVerses (.code yX10_fittingVerses cX10_fittingVerses 3 (some .int)) 4 86 (0) G [.ref (adr G 0)] (M, Mr, Mo) (.inr (some (.int res)), (M, Mr, Mo)) := by
  refine hy_of (by decide +kernel) (Nat.le_of_ble_eq_true rfl) ?_
  intro p e s m below meth c hx hb hml hown hts hr hlocks ht hX hP hS ls hl
  have hl : lv_has ls 3 [(0, .ref (adr G 0))] := hl
  rw [Hp_fittingVerses] at h
  refine lv_iconst (v := 0) hx hb dX10_fittingVerses_0 rfl ?_
  refine lv_istore_n (lv' := [(1, .int 0), (0, .ref (adr G 0))]) hx hb dX10_fittingVerses_1 rfl hl (by decide) rfl (fun ls hl => ?_)
  refine lv_iconst (v := 0) hx hb dX10_fittingVerses_2 rfl ?_
  refine lv_istore_n (lv' := [(2, .int 0), (1, .int 0), (0, .ref (adr G 0))]) hx hb dX10_fittingVerses_3 rfl hl (by decide) rfl (fun ls hl => ?_)
  have L7 : ∀ (f : Nat) (x1 : Int32) (x2 : Int32) (qL : (Int32 × Int32)) (h : Hp_fittingVerses_L4 M f x1 x2 = some qL) (H : Heap) (locs : List Loc) (ls : Array Slot) (hP : va_P G.1 vwCl (wld G (M, Mr, Mo)) H) (hS : va_S (hyA G) s.heap H locs) (hl : lv_has ls 3 [(0, .ref (adr G 0)), (1, .int x1), (2, .int x2)]) (kk : ∀ (y1 : Int32) (y2 : Int32), qL = (y1, y2) → ∀ (H : Heap) (locs : List Loc) (ls : Array Slot), va_P G.1 vwCl (wld G (M, Mr, Mo)) H → va_S (hyA G) s.heap H locs → lv_has ls 3 [(0, .ref (adr G 0)), (1, .int y1), (2, .int y2)] → W p l e { frames := 4, cells := 0, slots := 6 * 0, locals := 86 } s m ([.ref (adr G 0)] : List Value).toArray below meth c H locs 0 0 (vx_MQ below (hyQ G (.inr (some (.int res)), (M, Mr, Mo))) (hyXQ G (.inr (some (.int res)), (M, Mr, Mo))) ([.ref (adr G 0)] : List Value).toArray s 0 (6 * 0) (hyA G)) (F0 m 30 ls [])), W p l e { frames := 4, cells := 0, slots := 6 * 0, locals := 86 } s m ([.ref (adr G 0)] : List Value).toArray below meth c H locs 0 0 (vx_MQ below (hyQ G (.inr (some (.int res)), (M, Mr, Mo))) (hyXQ G (.inr (some (.int res)), (M, Mr, Mo))) ([.ref (adr G 0)] : List Value).toArray s 0 (6 * 0) (hyA G)) (F0 m 4 ls []) := by
    intro f
    induction f with
    | zero =>
      intro x1 x2 qL h H locs ls hP hS hl kk
      rw [Hp_fittingVerses_L4] at h
      cases h
    | succ f ih =>
      intro x1 x2 qL h H locs ls hP hS hl kk
      rw [Hp_fittingVerses_L4] at h
      refine lv_iload_n hx hb dX10_fittingVerses_4 rfl (lv_at hl 2 rfl) ?_
      refine lv_iconst (v := 4) hx hb dX10_fittingVerses_5 rfl ?_
      refine lv_icmp_ge (tgt := 30) hx hb dX10_fittingVerses_6 (by decide) (fun c3 => ?_) (fun c3 => ?_)
      · rw [if_pos c3] at h
        exact kk x1 x2 (Option.some.inj h).symm _ _ ls hP hS (lv_sub hl [0, 1, 2] rfl)
      · rw [if_neg c3] at h
        refine lv_aload_n hx hb dX10_fittingVerses_9 rfl (lv_at hl 0 rfl) ?_
        refine lv_iload_n hx hb dX10_fittingVerses_10 rfl (lv_at hl 2 rfl) ?_
        obtain ⟨v4, hv4, h⟩ := hy_bind h
        refine hy_ret (hy_rV0 (T := (M, Mr, Mo)) (v := some (.int v4)) (T2 := (M, Mr, Mo)) (As := [.int x2]) (rest := []) (n := 0) hx hb hml hown hts hX hP hS hl (c_Hp_firstMisfit Mr Mo x2 M hv4) m_Hp_firstMisfit q_608 (hy_recv hX hP 0 9 (by decide) rfl rfl) rfl rfl (Nat.le_of_ble_eq_true rfl) dX10_fittingVerses_11 ⟨Nat.le_of_ble_eq_true rfl, Nat.le_of_ble_eq_true rfl⟩ ⟨Nat.zero_le _, Nat.zero_le _⟩) hS (fun H locs hP hS => ?_)
        refine lv_iconst (v := (-1)) hx hb dX10_fittingVerses_14 rfl ?_
        have J6 : ∀ (H : Heap) (locs : List Loc) (ls : Array Slot) (u1 : Int32), u1 = (if v4 = (-1) then (x1 ||| (1 <<< (x2 &&& 31))) else x1) → va_P G.1 vwCl (wld G (M, Mr, Mo)) H → va_S (hyA G) s.heap H locs → lv_has ls 3 [(0, .ref (adr G 0)), (1, .int u1), (2, .int x2)] → W p l e { frames := 4, cells := 0, slots := 6 * 0, locals := 86 } s m ([.ref (adr G 0)] : List Value).toArray below meth c H locs 0 0 (vx_MQ below (hyQ G (.inr (some (.int res)), (M, Mr, Mo))) (hyXQ G (.inr (some (.int res)), (M, Mr, Mo))) ([.ref (adr G 0)] : List Value).toArray s 0 (6 * 0) (hyA G)) (F0 m 24 ls []) := by
          intro H locs ls u1 eu1 hP hS hl
          subst eu1
          refine lv_iinc (v := (x2 + 1)) (lv' := [(2, .int (x2 + 1)), (0, .ref (adr G 0)), (1, .int (if v4 = (-1) then (x1 ||| (1 <<< (x2 &&& 31))) else x1))]) hx hb dX10_fittingVerses_24 hl (k := 2) rfl rfl (by decide) rfl (fun ls hl => ?_)
          refine lv_goto (tgt := 4) hx hb dX10_fittingVerses_27 (by decide) ?_
          exact ih (if v4 = (-1) then (x1 ||| (1 <<< (x2 &&& 31))) else x1) (x2 + 1) _ h  _ _ ls hP hS (lv_sub hl [1, 2, 0] rfl) kk
        refine lv_icmp_ne (tgt := 24) hx hb dX10_fittingVerses_15 (by decide) (fun c5 => ?_) (fun c5 => ?_)
        · exact J6 _ _ ls x1 (by rw [if_neg c5] <;> rfl) hP hS (lv_sub hl [0, 1, 2] rfl)
        · refine lv_iload_n hx hb dX10_fittingVerses_18 rfl (lv_at hl 1 rfl) ?_
          refine lv_iconst (v := 1) hx hb dX10_fittingVerses_19 rfl ?_
          refine lv_iload_n hx hb dX10_fittingVerses_20 rfl (lv_at hl 2 rfl) ?_
          refine lv_ishl hx hb dX10_fittingVerses_21 ?_
          refine lv_ior hx hb dX10_fittingVerses_22 ?_
          refine lv_istore_n (lv' := [(1, .int (x1 ||| (1 <<< (x2 &&& 31)))), (0, .ref (adr G 0)), (2, .int x2)]) hx hb dX10_fittingVerses_23 rfl hl (by decide) rfl (fun ls hl => ?_)
          exact J6 _ _ ls (x1 ||| (1 <<< (x2 &&& 31))) (by rw [if_pos c5] <;> rfl) hP hS (lv_sub hl [1, 0, 2] rfl)
  obtain ⟨q8, hq8, h⟩ := hy_bind h
  refine L7 hyFu 0 0 q8 hq8 _ _ ls hP hS (lv_sub hl [2, 1, 0] rfl) ?_
  intro y1 y2 e9 H locs ls hP hS hl
  subst e9
  try dsimp only at h
  refine lv_iload_n hx hb dX10_fittingVerses_30 rfl (lv_at hl 1 rfl) ?_
  exact hy_iret (T := (M, Mr, Mo)) hx hb hr hlocks hP hS (Nat.zero_le _) (Nat.zero_le _) (by rw [← (Option.some.inj h)] <;> rfl) dX10_fittingVerses_31
set_option maxHeartbeats 1000000 in
set_option maxRecDepth 100000 in
theorem c_Hp_countOfPage {l : Launch} {G : hyG} (Mr Mo : hyM) (a1 : Int32) (M : hyM) {res : Int32} (h : Hp_countOfPage a1 M = some res) : hyC l yX10_countOfPage (.code yX10_countOfPage cX10_countOfPage 3 (some .int)) 5 120 (0) G [.ref (adr G 0), .int a1] (M, Mr, Mo) (.inr (some (.int res)), (M, Mr, Mo)) := by
  refine hy_of (by decide +kernel) (Nat.le_of_ble_eq_true rfl) ?_
  intro p e s m below meth c hx hb hml hown hts hr hlocks ht hX hP hS ls hl
  have hl : lv_has ls 3 [(0, .ref (adr G 0)), (1, .int a1)] := hl
  rw [Hp_countOfPage] at h
  refine lv_aload_n hx hb dX10_countOfPage_0 rfl (lv_at hl 0 rfl) ?_
  refine hy_get (T := (M, Mr, Mo)) (o := 0) (k := 0) (v := .ref (adr G 1)) hx hb hown hts hX hP (by decide) rfl rfl inX10g (by decide) q_293 rfl dX10_countOfPage_1 ?_
  refine lv_aload_n hx hb dX10_countOfPage_4 rfl (lv_at hl 0 rfl) ?_
  refine hy_get (T := (M, Mr, Mo)) (o := 0) (k := 0) (v := .ref (adr G 1)) hx hb hown hts hX hP (by decide) rfl rfl inX10g (by decide) q_293 rfl dX10_countOfPage_5 ?_
  refine hy_getN (T := (M, Mr, Mo)) (o := 1) (k := 4) (v := .int (M.1 1 4)) hx hb hown hts hX hP (by decide) rfl rfl inX8g (by decide) q_125 rfl dX10_countOfPage_8 ?_
  obtain ⟨v1, hv1, h⟩ := hy_bind h
  refine hy_ret (hy_rVN (T := (M, Mr, Mo)) (v := some (.int v1)) (T2 := (M, Mr, Mo)) (As := [.int (M.1 1 4)]) (rest := []) (n := 0) hx hb hml hown hts hX hP hS hl (c_Tu_startOf Mr Mo (M.1 1 4) M hv1) m_Tu_startOf q_590 (hy_recv hX hP 1 7 (by decide) rfl rfl) rfl rfl (Nat.le_of_ble_eq_true rfl) dX10_countOfPage_11 ⟨Nat.le_of_ble_eq_true rfl, Nat.le_of_ble_eq_true rfl⟩ ⟨Nat.zero_le _, Nat.zero_le _⟩) hS (fun H locs hP hS => ?_)
  refine lv_istore_n (lv' := [(2, .int v1), (0, .ref (adr G 0)), (1, .int a1)]) hx hb dX10_countOfPage_14 rfl hl (by decide) rfl (fun ls hl => ?_)
  refine lv_iload_n hx hb dX10_countOfPage_15 rfl (lv_at hl 2 rfl) ?_
  by_cases c2 : a1 = 7
  · rw [if_pos c2] at h
    refine lv_tableIn (tgt := 56) (off := 40) hx hb dX10_countOfPage_16 (by rw [c2]; decide) (by rw [c2]; decide) (by rw [c2]; rfl) (by decide) ?_
    refine lv_iload_n hx hb dX10_countOfPage_56 rfl (lv_at hl 0 rfl) ?_
    exact hy_iret (T := (M, Mr, Mo)) hx hb hr hlocks hP hS (Nat.zero_le _) (Nat.zero_le _) (by rw [← (Option.some.inj h)] <;> rfl) dX10_countOfPage_57
  · rw [if_neg c2] at h
    by_cases c3 : a1 = 8
    · rw [if_pos c3] at h
      refine lv_tableIn (tgt := 58) (off := 42) hx hb dX10_countOfPage_16 (by rw [c3]; decide) (by rw [c3]; decide) (by rw [c3]; rfl) (by decide) ?_
      refine lv_aload_n hx hb dX10_countOfPage_58 rfl (lv_at hl 1 rfl) ?_
      refine hy_get (T := (M, Mr, Mo)) (o := 0) (k := 1) (v := .ref (adr G 4)) hx hb hown hts hX hP (by decide) rfl rfl inX10g (by decide) q_294 rfl dX10_countOfPage_59 ?_
      refine lv_iload_n hx hb dX10_countOfPage_62 rfl (lv_at hl 0 rfl) ?_
      obtain ⟨v9, hv9, h⟩ := hy_bind h
      refine hy_ret (hy_rVN (T := (M, Mr, Mo)) (v := some (.int (bI v9))) (T2 := (M, Mr, Mo)) (As := [.int v1]) (rest := []) (n := 0) hx hb hml hown hts hX hP hS hl (c_Ba_divide Mr Mo v1 M hv9) m_Ba_divide q_599 (hy_recv hX hP 4 0 (by decide) rfl rfl) rfl rfl (Nat.le_of_ble_eq_true rfl) dX10_countOfPage_63 ⟨Nat.le_of_ble_eq_true rfl, Nat.le_of_ble_eq_true rfl⟩ ⟨Nat.zero_le _, Nat.zero_le _⟩) hS (fun H locs hP hS => ?_)
      refine hy_ret (hy_rS0 (T := (M, Mr, Mo)) (v := some (.int (Hp_flag v9 M))) (T2 := (M, Mr, Mo)) (As := [.int (bI v9)]) (rest := []) (n := 0) hx hb hml hown hts hX hP hS hl (c_Hp_flag Mr Mo v9 M rfl) m_Hp_flag q_603 rfl rfl (Nat.le_of_ble_eq_true rfl) dX10_countOfPage_66 ⟨Nat.le_of_ble_eq_true rfl, Nat.le_of_ble_eq_true rfl⟩ ⟨Nat.zero_le _, Nat.zero_le _⟩) hS (fun H locs hP hS => ?_)
      exact hy_iret (T := (M, Mr, Mo)) hx hb hr hlocks hP hS (Nat.zero_le _) (Nat.zero_le _) (by rw [← (Option.some.inj h)] <;> rfl) dX10_countOfPage_69
    · rw [if_neg c3] at h
      by_cases c4 : a1 = 9
      · rw [if_pos c4] at h
        refine lv_tableIn (tgt := 70) (off := 54) hx hb dX10_countOfPage_16 (by rw [c4]; decide) (by rw [c4]; decide) (by rw [c4]; rfl) (by decide) ?_
        refine lv_aload_n hx hb dX10_countOfPage_70 rfl (lv_at hl 1 rfl) ?_
        refine hy_get (T := (M, Mr, Mo)) (o := 0) (k := 9) (v := .int (M.1 0 9)) hx hb hown hts hX hP (by decide) rfl rfl inX10g (by decide) q_302 rfl dX10_countOfPage_71 ?_
        exact hy_iret (T := (M, Mr, Mo)) hx hb hr hlocks hP hS (Nat.zero_le _) (Nat.zero_le _) (by rw [← (Option.some.inj h)] <;> rfl) dX10_countOfPage_74
      · rw [if_neg c4] at h
        by_cases c5 : a1 = 10
        · rw [if_pos c5] at h
          refine lv_tableIn (tgt := 75) (off := 59) hx hb dX10_countOfPage_16 (by rw [c5]; decide) (by rw [c5]; decide) (by rw [c5]; rfl) (by decide) ?_
          refine lv_aload_n hx hb dX10_countOfPage_75 rfl (lv_at hl 1 rfl) ?_
          refine hy_get (T := (M, Mr, Mo)) (o := 0) (k := 6) (v := .ref (adr G 21)) hx hb hown hts hX hP (by decide) rfl rfl inX10g (by decide) q_299 rfl dX10_countOfPage_76 ?_
          refine hy_getN (T := (M, Mr, Mo)) (o := 21) (k := 3) (v := .int (M.1 21 3)) hx hb hown hts hX hP (by decide) rfl rfl inX2g (by decide) q_246 rfl dX10_countOfPage_79 ?_
          exact hy_iret (T := (M, Mr, Mo)) hx hb hr hlocks hP hS (Nat.zero_le _) (Nat.zero_le _) (by rw [← (Option.some.inj h)] <;> rfl) dX10_countOfPage_82
        · rw [if_neg c5] at h
          by_cases c6 : a1 = 11
          · rw [if_pos c6] at h
            refine lv_tableIn (tgt := 83) (off := 67) hx hb dX10_countOfPage_16 (by rw [c6]; decide) (by rw [c6]; decide) (by rw [c6]; rfl) (by decide) ?_
            refine lv_aload_n hx hb dX10_countOfPage_83 rfl (lv_at hl 1 rfl) ?_
            refine hy_get (T := (M, Mr, Mo)) (o := 0) (k := 7) (v := .ref (adr G 25)) hx hb hown hts hX hP (by decide) rfl rfl inX10g (by decide) q_300 rfl dX10_countOfPage_84 ?_
            refine hy_getN (T := (M, Mr, Mo)) (o := 25) (k := 2) (v := .int (M.1 25 2)) hx hb hown hts hX hP (by decide) rfl rfl inX1g (by decide) q_269 rfl dX10_countOfPage_87 ?_
            exact hy_iret (T := (M, Mr, Mo)) hx hb hr hlocks hP hS (Nat.zero_le _) (Nat.zero_le _) (by rw [← (Option.some.inj h)] <;> rfl) dX10_countOfPage_90
          · rw [if_neg c6] at h
            by_cases c7 : a1 = 12
            · rw [if_pos c7] at h
              refine lv_tableIn (tgt := 91) (off := 75) hx hb dX10_countOfPage_16 (by rw [c7]; decide) (by rw [c7]; decide) (by rw [c7]; rfl) (by decide) ?_
              refine lv_aload_n hx hb dX10_countOfPage_91 rfl (lv_at hl 1 rfl) ?_
              obtain ⟨v10, hv10, h⟩ := hy_bind h
              refine hy_ret (hy_rV0 (T := (M, Mr, Mo)) (v := some (.int v10)) (T2 := (M, Mr, Mo)) (As := []) (rest := []) (n := 0) hx hb hml hown hts hX hP hS hl (c_Hp_fittingVerses Mr Mo M hv10) m_Hp_fittingVerses q_604 (hy_recv hX hP 0 9 (by decide) rfl rfl) rfl rfl (Nat.le_of_ble_eq_true rfl) dX10_countOfPage_92 ⟨Nat.le_of_ble_eq_true rfl, Nat.le_of_ble_eq_true rfl⟩ ⟨Nat.zero_le _, Nat.zero_le _⟩) hS (fun H locs hP hS => ?_)
              exact hy_iret (T := (M, Mr, Mo)) hx hb hr hlocks hP hS (Nat.zero_le _) (Nat.zero_le _) (by rw [← (Option.some.inj h)] <;> rfl) dX10_countOfPage_95
            · rw [if_neg c7] at h
              refine lv_tableOut (tgt := 96) hx hb dX10_countOfPage_16 (hy_tabOut 7 a1 6 (fun k hk => by match k, hk with | 0, _ => exact c2 | 1, _ => exact c3 | 2, _ => exact c4 | 3, _ => exact c5 | 4, _ => exact c6 | 5, _ => exact c7 | k9 + 6, hk => exact absurd hk (by omega))) (by decide) ?_
              refine lv_aload_n hx hb dX10_countOfPage_96 rfl (lv_at hl 1 rfl) ?_
              refine hy_get (T := (M, Mr, Mo)) (o := 0) (k := 0) (v := .ref (adr G 1)) hx hb hown hts hX hP (by decide) rfl rfl inX10g (by decide) q_293 rfl dX10_countOfPage_97 ?_
              obtain ⟨v8, hv8, h⟩ := hy_bind h
              refine hy_ret (hy_rVN (T := (M, Mr, Mo)) (v := some (.int v8)) (T2 := (M, Mr, Mo)) (As := []) (rest := []) (n := 0) hx hb hml hown hts hX hP hS hl (c_Tu_notesWithParallels Mr Mo M hv8) m_Tu_notesWithParallels q_613 (hy_recv hX hP 1 7 (by decide) rfl rfl) rfl rfl (Nat.le_of_ble_eq_true rfl) dX10_countOfPage_100 ⟨Nat.le_of_ble_eq_true rfl, Nat.le_of_ble_eq_true rfl⟩ ⟨Nat.zero_le _, Nat.zero_le _⟩) hS (fun H locs hP hS => ?_)
              exact hy_iret (T := (M, Mr, Mo)) hx hb hr hlocks hP hS (Nat.zero_le _) (Nat.zero_le _) (by rw [← (Option.some.inj h)] <;> rfl) dX10_countOfPage_103
set_option maxHeartbeats 1000000 in
set_option maxRecDepth 100000 in
theorem c_Hp_count {l : Launch} {G : hyG} (hlt : l.stackTraces = false) (Mr Mo : hyM) (a1 : Int32) (M : hyM) {res : (Nat ⊕ Int32)} (h : Hp_count a1 M = some res) : hyC l yX10_count (.code yX10_count cX10_count 2 (some .int)) 7 142 (hyNo res) G [.ref (adr G 0), .int a1] (M, Mr, Mo) (hyoI res, (M, Mr, Mo)) := by
  refine hy_of (by decide +kernel) (Nat.le_of_ble_eq_true rfl) ?_
  intro p e s m below meth c hx hb hml hown hts hr hlocks ht hX hP hS ls hl
  have hl : lv_has ls 2 [(0, .ref (adr G 0)), (1, .int a1)] := hl
  rw [Hp_count] at h
  refine lv_iload_n hx hb dX10_count_0 rfl (lv_at hl 1 rfl) ?_
  refine lv_iconst (v := 0) hx hb dX10_count_1 rfl ?_
  refine lv_bipush (v := 13) hx hb dX10_count_2 rfl ?_
  obtain ⟨u1, hu1⟩ : ∃ z, Hp_checkRange a1 0 13 M = z := ⟨_, rfl⟩
  rw [hu1] at h
  rcases u1 with k2 | r3
  all_goals try dsimp only at h
  · have er := (Option.some.inj h)
    refine hy_retX (ou := (.inl k2, (M, Mr, Mo))) (n := 1) (k := 0) (hy_rS (T := (M, Mr, Mo)) (ou := (.inl k2, (M, Mr, Mo))) (As := [.int a1, .int 0, .int 13]) (rest := []) (n := 1) hx hb hml hown hts hX hP hS hl (c_Hp_checkRange hlt Mr Mo a1 0 13 M (res := .inl k2) hu1) m_Hp_checkRange q_328 rfl rfl (Nat.le_of_ble_eq_true rfl) dX10_count_4 ⟨Nat.le_of_ble_eq_true rfl, Nat.le_of_ble_eq_true rfl⟩ ⟨by rw [← er]; exact Nat.le_of_ble_eq_true rfl, by rw [← er]; exact Nat.le_of_ble_eq_true rfl⟩) hS (fun k hk q ce H locs hP hS hce hcv hcl => ?_) (fun v hv => by cases hv)
    cases hk
    exact hy_out (T := (M, Mr, Mo)) ht hlocks hP hS (by rw [← er]; exact Nat.le_of_ble_eq_true rfl) (by rw [← er]; exact Nat.le_of_ble_eq_true rfl) (by rw [← er] <;> rfl) hce hcv hcl
  · refine hy_retX (ou := (.inr (none), (M, Mr, Mo))) (n := 0) (k := 0) (hy_rS (T := (M, Mr, Mo)) (ou := (.inr (none), (M, Mr, Mo))) (As := [.int a1, .int 0, .int 13]) (rest := []) (n := 0) hx hb hml hown hts hX hP hS hl (c_Hp_checkRange hlt Mr Mo a1 0 13 M (res := .inr r3) hu1) m_Hp_checkRange q_328 rfl rfl (Nat.le_of_ble_eq_true rfl) dX10_count_4 ⟨Nat.le_of_ble_eq_true rfl, Nat.le_of_ble_eq_true rfl⟩ ⟨Nat.zero_le _, Nat.zero_le _⟩) hS (fun k hk => by cases hk) (fun v hv H locs hP hS => ?_)
    cases hv
    refine lv_iload_n hx hb dX10_count_7 rfl (lv_at hl 1 rfl) ?_
    refine lv_bipush (v := 7) hx hb dX10_count_8 rfl ?_
    refine lv_icmp_ge (tgt := 21) hx hb dX10_count_10 (by decide) (fun c4 => ?_) (fun c4 => ?_)
    · rw [if_pos c4] at h
      refine lv_aload_n hx hb dX10_count_21 rfl (lv_at hl 0 rfl) ?_
      refine lv_iload_n hx hb dX10_count_22 rfl (lv_at hl 1 rfl) ?_
      obtain ⟨v5, hv5, h⟩ := hy_bind h
      refine hy_ret (hy_rV0 (T := (M, Mr, Mo)) (v := some (.int v5)) (T2 := (M, Mr, Mo)) (As := [.int a1]) (rest := []) (n := 0) hx hb hml hown hts hX hP hS hl (c_Hp_countOfPage Mr Mo a1 M hv5) m_Hp_countOfPage q_586 (hy_recv hX hP 0 9 (by decide) rfl rfl) rfl rfl (Nat.le_of_ble_eq_true rfl) dX10_count_23 ⟨Nat.le_of_ble_eq_true rfl, Nat.le_of_ble_eq_true rfl⟩ ⟨Nat.zero_le _, Nat.zero_le _⟩) hS (fun H locs hP hS => ?_)
      exact hy_iret (T := (M, Mr, Mo)) hx hb hr hlocks hP hS (Nat.zero_le _) (Nat.zero_le _) (by rw [← (Option.some.inj h)] <;> rfl) dX10_count_26
    · rw [if_neg c4] at h
      refine lv_aload_n hx hb dX10_count_13 rfl (lv_at hl 0 rfl) ?_
      refine lv_iload_n hx hb dX10_count_14 rfl (lv_at hl 1 rfl) ?_
      refine hy_ret (hy_rV0 (T := (M, Mr, Mo)) (v := some (.int (Hp_countOfTune a1 M))) (T2 := (M, Mr, Mo)) (As := [.int a1]) (rest := []) (n := 0) hx hb hml hown hts hX hP hS hl (c_Hp_countOfTune Mr Mo a1 M rfl) m_Hp_countOfTune q_582 (hy_recv hX hP 0 9 (by decide) rfl rfl) rfl rfl (Nat.le_of_ble_eq_true rfl) dX10_count_15 ⟨Nat.le_of_ble_eq_true rfl, Nat.le_of_ble_eq_true rfl⟩ ⟨Nat.zero_le _, Nat.zero_le _⟩) hS (fun H locs hP hS => ?_)
      refine lv_goto (tgt := 26) hx hb dX10_count_18 (by decide) ?_
      exact hy_iret (T := (M, Mr, Mo)) hx hb hr hlocks hP hS (Nat.zero_le _) (Nat.zero_le _) (by rw [← (Option.some.inj h)] <;> rfl) dX10_count_26
set_option maxHeartbeats 1000000 in
set_option maxRecDepth 100000 in
theorem c_Hp_meanWidth {l : Launch} {G : hyG} (Mr Mo : hyM) (M : hyM) {res : UInt64} (h : Hp_meanWidth M = some res) : hyC l yX10_meanWidth (.code yX10_meanWidth cX10_meanWidth 1 (some .double)) 0 0 (0) G [.ref (adr G 0)] (M, Mr, Mo) (.inr (some (.double res)), (M, Mr, Mo)) := by
  refine hy_of (by decide +kernel) (Nat.le_of_ble_eq_true rfl) ?_
  intro p e s m below meth c hx hb hml hown hts hr hlocks ht hX hP hS ls hl
  have hl : lv_has ls 1 [(0, .ref (adr G 0))] := hl
  rw [Hp_meanWidth] at h
  refine lv_aload_n hx hb dX10_meanWidth_0 rfl (lv_at hl 0 rfl) ?_
  refine hy_get (T := (M, Mr, Mo)) (o := 0) (k := 6) (v := .ref (adr G 21)) hx hb hown hts hX hP (by decide) rfl rfl inX10g (by decide) q_299 rfl dX10_meanWidth_1 ?_
  refine hy_getN (T := (M, Mr, Mo)) (o := 21) (k := 3) (v := .int (M.1 21 3)) hx hb hown hts hX hP (by decide) rfl rfl inX2g (by decide) q_246 rfl dX10_meanWidth_4 ?_
  refine lv_if_gt (tgt := 12) hx hb dX10_meanWidth_7 (by decide) (fun c1 => ?_) (fun c1 => ?_)
  · rw [if_pos c1] at h
    refine lv_aload_n hx hb dX10_meanWidth_12 rfl (lv_at hl 0 rfl) ?_
    refine hy_get (T := (M, Mr, Mo)) (o := 0) (k := 6) (v := .ref (adr G 21)) hx hb hown hts hX hP (by decide) rfl rfl inX10g (by decide) q_299 rfl dX10_meanWidth_13 ?_
    refine hy_getN (T := (M, Mr, Mo)) (o := 21) (k := 4) (v := .int (M.1 21 4)) hx hb hown hts hX hP (by decide) rfl rfl inX2g (by decide) q_248 rfl dX10_meanWidth_16 ?_
    refine lv_i2d hx hb dX10_meanWidth_19 ?_
    refine lv_aload_n hx hb dX10_meanWidth_20 rfl (lv_at hl 0 rfl) ?_
    refine hy_get (T := (M, Mr, Mo)) (o := 0) (k := 6) (v := .ref (adr G 21)) hx hb hown hts hX hP (by decide) rfl rfl inX10g (by decide) q_299 rfl dX10_meanWidth_21 ?_
    refine hy_getN (T := (M, Mr, Mo)) (o := 21) (k := 3) (v := .int (M.1 21 3)) hx hb hown hts hX hP (by decide) rfl rfl inX2g (by decide) q_246 rfl dX10_meanWidth_24 ?_
    refine lv_i2d hx hb dX10_meanWidth_27 ?_
    obtain ⟨d2, hd2, h⟩ := hy_bind h
    obtain ⟨nd2, hd2⟩ := ckD_some hd2
    refine lv_ddiv hx hb dX10_meanWidth_28 nd2 ?_
    rw [hd2]
    exact hy_dret (T := (M, Mr, Mo)) hx hb hr hlocks hP hS (Nat.zero_le _) (Nat.zero_le _) (by rw [← (Option.some.inj h)] <;> rfl) dX10_meanWidth_29
  · rw [if_neg c1] at h
    refine lv_dconst0 hx hb dX10_meanWidth_10 ?_
    exact hy_dret (T := (M, Mr, Mo)) hx hb hr hlocks hP hS (Nat.zero_le _) (Nat.zero_le _) (by rw [← (Option.some.inj h)] <;> rfl) dX10_meanWidth_11
set_option maxHeartbeats 1000000 in
set_option maxRecDepth 100000 in
theorem c_La_at {l : Launch} {G : hyG} (Mc Mo : hyM) (a1 : Int32) (a2 : Int32) (M : hyM) {res : Int32} (h : La_at a1 a2 M = some res) : hyC l yL_at (.code yL_at cL_at 2 (some .int)) 0 0 (0) G [.int a1, .int a2] (Mc, M, Mo) (.inr (some (.int res)), (Mc, M, Mo)) := by
  refine hy_of (by decide +kernel) (Nat.le_of_ble_eq_true rfl) ?_
  intro p e s m below meth c hx hb hml hown hts hr hlocks ht hX hP hS ls hl
  have hl : lv_has ls 2 [(0, .int a1), (1, .int a2)] := hl
  rw [La_at] at h
  refine lv_iload_n hx hb dL_at_0 rfl (lv_at hl 0 rfl) ?_
  refine lv_iconst (v := 1) hx hb dL_at_1 rfl ?_
  refine lv_iushr (v := (jiushr a1 1)) hx hb dL_at_2 rfl ?_
  refine lv_iload_n hx hb dL_at_3 rfl (lv_at hl 1 rfl) ?_
  obtain ⟨v1, hv1, h⟩ := hy_bind h
  obtain ⟨nv1, hv1⟩ := jrm_some hv1
  refine lv_irem hx hb dL_at_4 nv1 ?_
  rw [hv1]
  exact hy_iret (T := (Mc, M, Mo)) hx hb hr hlocks hP hS (Nat.zero_le _) (Nat.zero_le _) (by rw [← (Option.some.inj h)] <;> rfl) dL_at_5
set_option maxHeartbeats 1000000 in
set_option maxRecDepth 100000 in
theorem c_La_end {l : Launch} {G : hyG} (Mc Mo : hyM) (a1 : Int32) (M : hyM) {res : Bool} (h : La_end a1 M = some res) : hyC l yL_end (.code yL_end cL_end 3 (some .boolean)) 0 0 (0) G [.int a1, .ref (adr G 30), .ref (adr G 31)] (Mc, M, Mo) (.inr (some (.int (bI res))), (Mc, M, Mo)) := by
  refine hy_of (by decide +kernel) (Nat.le_of_ble_eq_true rfl) ?_
  intro p e s m below meth c hx hb hml hown hts hr hlocks ht hX hP hS ls hl
  have hl : lv_has ls 3 [(0, .int a1), (1, .ref (adr G 30)), (2, .ref (adr G 31))] := hl
  rw [La_end] at h
  refine lv_aload_n hx hb dL_end_0 rfl (lv_at hl 2 rfl) ?_
  refine lv_iconst (v := 5) hx hb dL_end_1 rfl ?_
  refine lv_iload_n hx hb dL_end_2 rfl (lv_at hl 0 rfl) ?_
  refine lv_imul hx hb dL_end_3 ?_
  obtain ⟨v1, hv1, h⟩ := hy_bind h
  obtain ⟨nv1, hv1⟩ := ldE_some hv1
  refine hy_iald (T := (Mc, M, Mo)) hx hb hX hP 31 60 (M.1 31) (hy34 G (by decide)) rfl nv1 dL_end_4 ?_
  rw [hv1]
  refine lv_iconst (v := 2) hx hb dL_end_5 rfl ?_
  refine lv_iand hx hb dL_end_6 ?_
  refine lv_if_ne (tgt := 19) hx hb dL_end_7 (by decide) (fun c2 => ?_) (fun c2 => ?_)
  · rw [if_neg c2] at h
    refine lv_iconst (v := 1) hx hb dL_end_19 rfl ?_
    refine lv_goto (tgt := 24) hx hb dL_end_20 (by decide) ?_
    exact hy_zret (T := (Mc, M, Mo)) hx hb hr hlocks hP hS (Nat.zero_le _) (Nat.zero_le _) (bI_nar true) (by rw [← (Option.some.inj h)] <;> rfl) dL_end_24
  · rw [if_pos (c2)] at h
    refine lv_iload_n hx hb dL_end_10 rfl (lv_at hl 0 rfl) ?_
    refine lv_aload_n hx hb dL_end_11 rfl (lv_at hl 1 rfl) ?_
    refine lv_iconst (v := 1) hx hb dL_end_12 rfl ?_
    obtain ⟨v3, hv3, h⟩ := hy_bind h
    obtain ⟨nv3, hv3⟩ := ldE_some hv3
    refine hy_iald (T := (Mc, M, Mo)) hx hb hX hP 30 6 (M.1 30) (hy34 G (by decide)) rfl nv3 dL_end_13 ?_
    rw [hv3]
    refine lv_iconst (v := 1) hx hb dL_end_14 rfl ?_
    refine lv_isub hx hb dL_end_15 ?_
    have J5 : ∀ (H : Heap) (locs : List Loc) (ls : Array Slot) (u1 : Int32), u1 = (bI (decide (a1 = (v3 - 1)))) → va_P G.1 vwCl (wld G (Mc, M, Mo)) H → va_S (hyA G) s.heap H locs → lv_has ls 3 [(0, .int a1), (1, .ref (adr G 30)), (2, .ref (adr G 31))] → W p l e { frames := 0, cells := 0, slots := 6 * 0, locals := 0 } s m ([.int a1, .ref (adr G 30), .ref (adr G 31)] : List Value).toArray below meth c H locs 0 0 (vx_MQ below (hyQ G (.inr (some (.int (bI res))), (Mc, M, Mo))) (hyXQ G (.inr (some (.int (bI res))), (Mc, M, Mo))) ([.int a1, .ref (adr G 30), .ref (adr G 31)] : List Value).toArray s 0 (6 * 0) (hyA G)) (F0 m 24 ls [.int u1]) := by
      intro H locs ls u1 eu1 hP hS hl
      subst eu1
      exact hy_zret (T := (Mc, M, Mo)) hx hb hr hlocks hP hS (Nat.zero_le _) (Nat.zero_le _) (bI_nar (decide (a1 = (v3 - 1)))) (by rw [← (Option.some.inj h)] <;> rfl) dL_end_24
    refine lv_icmp_ne (tgt := 23) hx hb dL_end_16 (by decide) (fun c4 => ?_) (fun c4 => ?_)
    · refine lv_iconst (v := 0) hx hb dL_end_23 rfl ?_
      exact J5 _ _ ls 0 (by rw [decide_eq_false c4] <;> rfl) hP hS (lv_sub hl [0, 1, 2] rfl)
    · refine lv_iconst (v := 1) hx hb dL_end_19 rfl ?_
      refine lv_goto (tgt := 24) hx hb dL_end_20 (by decide) ?_
      exact J5 _ _ ls 1 (by rw [decide_eq_true c4] <;> rfl) hP hS (lv_sub hl [0, 1, 2] rfl)
set_option maxHeartbeats 1000000 in
set_option maxRecDepth 100000 in
theorem c_La_phraseOf {l : Launch} {G : hyG} (Mc Mo : hyM) (a1 : Int32) (M : hyM) {res : Int32} (h : La_phraseOf a1 M = some res) : hyC l yL_phraseOf (.code yL_phraseOf cL_phraseOf 5 (some .int)) 1 22 (0) G [.int a1, .ref (adr G 30), .ref (adr G 31)] (Mc, M, Mo) (.inr (some (.int res)), (Mc, M, Mo)) := by
  refine hy_of (by decide +kernel) (Nat.le_of_ble_eq_true rfl) ?_
  intro p e s m below meth c hx hb hml hown hts hr hlocks ht hX hP hS ls hl
  have hl : lv_has ls 5 [(0, .int a1), (1, .ref (adr G 30)), (2, .ref (adr G 31))] := hl
  rw [La_phraseOf] at h
  refine lv_iconst (v := 0) hx hb dL_phraseOf_0 rfl ?_
  refine lv_istore_n (lv' := [(3, .int 0), (0, .int a1), (1, .ref (adr G 30)), (2, .ref (adr G 31))]) hx hb dL_phraseOf_1 rfl hl (by decide) rfl (fun ls hl => ?_)
  refine lv_iconst (v := 0) hx hb dL_phraseOf_2 rfl ?_
  refine lv_istore (lv' := [(4, .int 0), (3, .int 0), (0, .int a1), (1, .ref (adr G 30)), (2, .ref (adr G 31))]) hx hb dL_phraseOf_3 hl (by decide) rfl (fun ls hl => ?_)
  have L7 : ∀ (f : Nat) (x1 : Int32) (x2 : Int32) (qL : (Int32 × Int32)) (h : La_phraseOf_L5 a1 M f x1 x2 = some qL) (H : Heap) (locs : List Loc) (ls : Array Slot) (hP : va_P G.1 vwCl (wld G (Mc, M, Mo)) H) (hS : va_S (hyA G) s.heap H locs) (hl : lv_has ls 5 [(0, .int a1), (1, .ref (adr G 30)), (2, .ref (adr G 31)), (3, .int x1), (4, .int x2)]) (kk : ∀ (y1 : Int32) (y2 : Int32), qL = (y1, y2) → ∀ (H : Heap) (locs : List Loc) (ls : Array Slot), va_P G.1 vwCl (wld G (Mc, M, Mo)) H → va_S (hyA G) s.heap H locs → lv_has ls 5 [(0, .int a1), (1, .ref (adr G 30)), (2, .ref (adr G 31)), (3, .int y1), (4, .int y2)] → W p l e { frames := 1, cells := 0, slots := 6 * 0, locals := 22 } s m ([.int a1, .ref (adr G 30), .ref (adr G 31)] : List Value).toArray below meth c H locs 0 0 (vx_MQ below (hyQ G (.inr (some (.int res)), (Mc, M, Mo))) (hyXQ G (.inr (some (.int res)), (Mc, M, Mo))) ([.int a1, .ref (adr G 30), .ref (adr G 31)] : List Value).toArray s 0 (6 * 0) (hyA G)) (F0 m 35 ls [])), W p l e { frames := 1, cells := 0, slots := 6 * 0, locals := 22 } s m ([.int a1, .ref (adr G 30), .ref (adr G 31)] : List Value).toArray below meth c H locs 0 0 (vx_MQ below (hyQ G (.inr (some (.int res)), (Mc, M, Mo))) (hyXQ G (.inr (some (.int res)), (Mc, M, Mo))) ([.int a1, .ref (adr G 30), .ref (adr G 31)] : List Value).toArray s 0 (6 * 0) (hyA G)) (F0 m 5 ls []) := by
    intro f
    induction f with
    | zero =>
      intro x1 x2 qL h H locs ls hP hS hl kk
      rw [La_phraseOf_L5] at h
      cases h
    | succ f ih =>
      intro x1 x2 qL h H locs ls hP hS hl kk
      rw [La_phraseOf_L5] at h
      refine lv_iload hx hb dL_phraseOf_5 (lv_at hl 4 rfl) ?_
      refine lv_iload_n hx hb dL_phraseOf_7 rfl (lv_at hl 0 rfl) ?_
      refine lv_icmp_ge (tgt := 35) hx hb dL_phraseOf_8 (by decide) (fun c3 => ?_) (fun c3 => ?_)
      · rw [if_pos c3] at h
        exact kk x1 x2 (Option.some.inj h).symm _ _ ls hP hS (lv_sub hl [0, 1, 2, 3, 4] rfl)
      · rw [if_neg c3] at h
        refine lv_iload_n hx hb dL_phraseOf_11 rfl (lv_at hl 3 rfl) ?_
        refine lv_iload hx hb dL_phraseOf_12 (lv_at hl 4 rfl) ?_
        refine lv_aload_n hx hb dL_phraseOf_14 rfl (lv_at hl 1 rfl) ?_
        refine lv_aload_n hx hb dL_phraseOf_15 rfl (lv_at hl 2 rfl) ?_
        obtain ⟨v4, hv4, h⟩ := hy_bind h
        refine hy_ret (hy_rS0 (T := (Mc, M, Mo)) (v := some (.int (bI v4))) (T2 := (Mc, M, Mo)) (As := [.int x2, .ref (adr G 30), .ref (adr G 31)]) (rest := [.int x1]) (n := 0) hx hb hml hown hts hX hP hS hl (c_La_end Mc Mo x2 M hv4) m_La_end q_656 rfl rfl (Nat.le_of_ble_eq_true rfl) dL_phraseOf_16 ⟨Nat.le_of_ble_eq_true rfl, Nat.le_of_ble_eq_true rfl⟩ ⟨Nat.zero_le _, Nat.zero_le _⟩) hS (fun H locs hP hS => ?_)
        have J6 : ∀ (H : Heap) (locs : List Loc) (ls : Array Slot) (u1 : Int32), u1 = (bI v4) → va_P G.1 vwCl (wld G (Mc, M, Mo)) H → va_S (hyA G) s.heap H locs → lv_has ls 5 [(0, .int a1), (1, .ref (adr G 30)), (2, .ref (adr G 31)), (3, .int x1), (4, .int x2)] → W p l e { frames := 1, cells := 0, slots := 6 * 0, locals := 22 } s m ([.int a1, .ref (adr G 30), .ref (adr G 31)] : List Value).toArray below meth c H locs 0 0 (vx_MQ below (hyQ G (.inr (some (.int res)), (Mc, M, Mo))) (hyXQ G (.inr (some (.int res)), (Mc, M, Mo))) ([.int a1, .ref (adr G 30), .ref (adr G 31)] : List Value).toArray s 0 (6 * 0) (hyA G)) (F0 m 27 ls [.int u1, .int x1]) := by
          intro H locs ls u1 eu1 hP hS hl
          subst eu1
          refine lv_iadd hx hb dL_phraseOf_27 ?_
          refine lv_istore_n (lv' := [(3, .int (x1 + (bI v4))), (0, .int a1), (1, .ref (adr G 30)), (2, .ref (adr G 31)), (4, .int x2)]) hx hb dL_phraseOf_28 rfl hl (by decide) rfl (fun ls hl => ?_)
          refine lv_iinc (v := (x2 + 1)) (lv' := [(4, .int (x2 + 1)), (3, .int (x1 + (bI v4))), (0, .int a1), (1, .ref (adr G 30)), (2, .ref (adr G 31))]) hx hb dL_phraseOf_29 hl (k := 4) rfl rfl (by decide) rfl (fun ls hl => ?_)
          refine lv_goto (tgt := 5) hx hb dL_phraseOf_32 (by decide) ?_
          exact ih (x1 + (bI v4)) (x2 + 1) _ h  _ _ ls hP hS (lv_sub hl [2, 3, 4, 1, 0] rfl) kk
        refine lv_if_eq (tgt := 26) hx hb dL_phraseOf_19 (by decide) (fun c5 => ?_) (fun c5 => ?_)
        · refine lv_iconst (v := 0) hx hb dL_phraseOf_26 rfl ?_
          exact J6 _ _ ls 0 (by rw [(bI_z c5)] <;> rfl) hP hS (lv_sub hl [0, 1, 2, 3, 4] rfl)
        · refine lv_iconst (v := 1) hx hb dL_phraseOf_22 rfl ?_
          refine lv_goto (tgt := 27) hx hb dL_phraseOf_23 (by decide) ?_
          exact J6 _ _ ls 1 (by rw [(bI_1 c5)] <;> rfl) hP hS (lv_sub hl [0, 1, 2, 3, 4] rfl)
  obtain ⟨q8, hq8, h⟩ := hy_bind h
  refine L7 hyFu 0 0 q8 hq8 _ _ ls hP hS (lv_sub hl [2, 3, 4, 1, 0] rfl) ?_
  intro y1 y2 e9 H locs ls hP hS hl
  subst e9
  try dsimp only at h
  refine lv_iload_n hx hb dL_phraseOf_35 rfl (lv_at hl 3 rfl) ?_
  exact hy_iret (T := (Mc, M, Mo)) hx hb hr hlocks hP hS (Nat.zero_le _) (Nat.zero_le _) (by rw [← (Option.some.inj h)] <;> rfl) dL_phraseOf_36
set_option maxHeartbeats 1000000 in
set_option maxRecDepth 100000 in
theorem c_La_phrases {l : Launch} {G : hyG} (Mc Mo : hyM) (M : hyM) {res : Int32} (h : La_phrases M = some res) : hyC l yL_phrases (.code yL_phrases cL_phrases 2 (some .int)) 2 46 (0) G [.ref (adr G 30), .ref (adr G 31)] (Mc, M, Mo) (.inr (some (.int res)), (Mc, M, Mo)) := by
  refine hy_of (by decide +kernel) (Nat.le_of_ble_eq_true rfl) ?_
  intro p e s m below meth c hx hb hml hown hts hr hlocks ht hX hP hS ls hl
  have hl : lv_has ls 2 [(0, .ref (adr G 30)), (1, .ref (adr G 31))] := hl
  rw [La_phrases] at h
  refine lv_aload_n hx hb dL_phrases_0 rfl (lv_at hl 0 rfl) ?_
  refine lv_iconst (v := 1) hx hb dL_phrases_1 rfl ?_
  obtain ⟨v1, hv1, h⟩ := hy_bind h
  obtain ⟨nv1, hv1⟩ := ldE_some hv1
  refine hy_iald (T := (Mc, M, Mo)) hx hb hX hP 30 6 (M.1 30) (hy34 G (by decide)) rfl nv1 dL_phrases_2 ?_
  rw [hv1]
  refine lv_if_ne (tgt := 10) hx hb dL_phrases_3 (by decide) (fun c2 => ?_) (fun c2 => ?_)
  · rw [if_neg c2] at h
    refine lv_aload_n hx hb dL_phrases_10 rfl (lv_at hl 0 rfl) ?_
    refine lv_iconst (v := 1) hx hb dL_phrases_11 rfl ?_
    obtain ⟨v3, hv3, h⟩ := hy_bind h
    obtain ⟨nv3, hv3⟩ := ldE_some hv3
    refine hy_iald (T := (Mc, M, Mo)) hx hb hX hP 30 6 (M.1 30) (hy34 G (by decide)) rfl nv3 dL_phrases_12 ?_
    rw [hv3]
    refine lv_iconst (v := 1) hx hb dL_phrases_13 rfl ?_
    refine lv_isub hx hb dL_phrases_14 ?_
    refine lv_aload_n hx hb dL_phrases_15 rfl (lv_at hl 0 rfl) ?_
    refine lv_aload_n hx hb dL_phrases_16 rfl (lv_at hl 1 rfl) ?_
    obtain ⟨v4, hv4, h⟩ := hy_bind h
    refine hy_ret (hy_rS0 (T := (Mc, M, Mo)) (v := some (.int v4)) (T2 := (Mc, M, Mo)) (As := [.int (v3 - 1), .ref (adr G 30), .ref (adr G 31)]) (rest := []) (n := 0) hx hb hml hown hts hX hP hS hl (c_La_phraseOf Mc Mo (v3 - 1) M hv4) m_La_phraseOf q_653 rfl rfl (Nat.le_of_ble_eq_true rfl) dL_phrases_17 ⟨Nat.le_of_ble_eq_true rfl, Nat.le_of_ble_eq_true rfl⟩ ⟨Nat.zero_le _, Nat.zero_le _⟩) hS (fun H locs hP hS => ?_)
    refine lv_iconst (v := 1) hx hb dL_phrases_20 rfl ?_
    refine lv_iadd hx hb dL_phrases_21 ?_
    exact hy_iret (T := (Mc, M, Mo)) hx hb hr hlocks hP hS (Nat.zero_le _) (Nat.zero_le _) (by rw [← (Option.some.inj h)] <;> rfl) dL_phrases_22
  · rw [if_pos (c2)] at h
    refine lv_iconst (v := 0) hx hb dL_phrases_6 rfl ?_
    refine lv_goto (tgt := 22) hx hb dL_phrases_7 (by decide) ?_
    exact hy_iret (T := (Mc, M, Mo)) hx hb hr hlocks hP hS (Nat.zero_le _) (Nat.zero_le _) (by rw [← (Option.some.inj h)] <;> rfl) dL_phrases_22
set_option maxHeartbeats 1000000 in
set_option maxRecDepth 100000 in
theorem c_La_first {l : Launch} {G : hyG} (Mc Mo : hyM) (a1 : Int32) (M : hyM) {res : Int32} (h : La_first a1 M = some res) : hyC l yL_first (.code yL_first cL_first 4 (some .int)) 2 46 (0) G [.int a1, .ref (adr G 30), .ref (adr G 31)] (Mc, M, Mo) (.inr (some (.int res)), (Mc, M, Mo)) := by
  refine hy_of (by decide +kernel) (Nat.le_of_ble_eq_true rfl) ?_
  intro p e s m below meth c hx hb hml hown hts hr hlocks ht hX hP hS ls hl
  have hl : lv_has ls 4 [(0, .int a1), (1, .ref (adr G 30)), (2, .ref (adr G 31))] := hl
  rw [La_first] at h
  refine lv_iconst (v := 0) hx hb dL_first_0 rfl ?_
  refine lv_istore_n (lv' := [(3, .int 0), (0, .int a1), (1, .ref (adr G 30)), (2, .ref (adr G 31))]) hx hb dL_first_1 rfl hl (by decide) rfl (fun ls hl => ?_)
  have L4 : ∀ (f : Nat) (x1 : Int32) (qL : (Int32)) (h : La_first_L2 a1 M f x1 = some qL) (H : Heap) (locs : List Loc) (ls : Array Slot) (hP : va_P G.1 vwCl (wld G (Mc, M, Mo)) H) (hS : va_S (hyA G) s.heap H locs) (hl : lv_has ls 4 [(0, .int a1), (1, .ref (adr G 30)), (2, .ref (adr G 31)), (3, .int x1)]) (kk : ∀ (y1 : Int32), qL = (y1) → ∀ (H : Heap) (locs : List Loc) (ls : Array Slot), va_P G.1 vwCl (wld G (Mc, M, Mo)) H → va_S (hyA G) s.heap H locs → lv_has ls 4 [(0, .int a1), (1, .ref (adr G 30)), (2, .ref (adr G 31)), (3, .int y1)] → W p l e { frames := 2, cells := 0, slots := 6 * 0, locals := 46 } s m ([.int a1, .ref (adr G 30), .ref (adr G 31)] : List Value).toArray below meth c H locs 0 0 (vx_MQ below (hyQ G (.inr (some (.int res)), (Mc, M, Mo))) (hyXQ G (.inr (some (.int res)), (Mc, M, Mo))) ([.int a1, .ref (adr G 30), .ref (adr G 31)] : List Value).toArray s 0 (6 * 0) (hyA G)) (F0 m 18 ls [])), W p l e { frames := 2, cells := 0, slots := 6 * 0, locals := 46 } s m ([.int a1, .ref (adr G 30), .ref (adr G 31)] : List Value).toArray below meth c H locs 0 0 (vx_MQ below (hyQ G (.inr (some (.int res)), (Mc, M, Mo))) (hyXQ G (.inr (some (.int res)), (Mc, M, Mo))) ([.int a1, .ref (adr G 30), .ref (adr G 31)] : List Value).toArray s 0 (6 * 0) (hyA G)) (F0 m 2 ls []) := by
    intro f
    induction f with
    | zero =>
      intro x1 qL h H locs ls hP hS hl kk
      rw [La_first_L2] at h
      cases h
    | succ f ih =>
      intro x1 qL h H locs ls hP hS hl kk
      rw [La_first_L2] at h
      refine lv_iload_n hx hb dL_first_2 rfl (lv_at hl 3 rfl) ?_
      refine lv_aload_n hx hb dL_first_3 rfl (lv_at hl 1 rfl) ?_
      refine lv_aload_n hx hb dL_first_4 rfl (lv_at hl 2 rfl) ?_
      obtain ⟨v2, hv2, h⟩ := hy_bind h
      refine hy_ret (hy_rS0 (T := (Mc, M, Mo)) (v := some (.int v2)) (T2 := (Mc, M, Mo)) (As := [.int x1, .ref (adr G 30), .ref (adr G 31)]) (rest := []) (n := 0) hx hb hml hown hts hX hP hS hl (c_La_phraseOf Mc Mo x1 M hv2) m_La_phraseOf q_653 rfl rfl (Nat.le_of_ble_eq_true rfl) dL_first_5 ⟨Nat.le_of_ble_eq_true rfl, Nat.le_of_ble_eq_true rfl⟩ ⟨Nat.zero_le _, Nat.zero_le _⟩) hS (fun H locs hP hS => ?_)
      refine lv_iload_n hx hb dL_first_8 rfl (lv_at hl 0 rfl) ?_
      refine lv_icmp_ge (tgt := 18) hx hb dL_first_9 (by decide) (fun c3 => ?_) (fun c3 => ?_)
      · rw [if_pos c3] at h
        exact kk x1 (Option.some.inj h).symm _ _ ls hP hS (lv_sub hl [0, 1, 2, 3] rfl)
      · rw [if_neg c3] at h
        refine lv_iinc (v := (x1 + 1)) (lv' := [(3, .int (x1 + 1)), (0, .int a1), (1, .ref (adr G 30)), (2, .ref (adr G 31))]) hx hb dL_first_12 hl (k := 3) rfl rfl (by decide) rfl (fun ls hl => ?_)
        refine lv_goto (tgt := 2) hx hb dL_first_15 (by decide) ?_
        exact ih (x1 + 1) _ h  _ _ ls hP hS (lv_sub hl [1, 2, 3, 0] rfl) kk
  obtain ⟨q5, hq5, h⟩ := hy_bind h
  refine L4 hyFu 0 q5 hq5 _ _ ls hP hS (lv_sub hl [1, 2, 3, 0] rfl) ?_
  intro y1 e9 H locs ls hP hS hl
  subst e9
  try dsimp only at h
  refine lv_iload_n hx hb dL_first_18 rfl (lv_at hl 3 rfl) ?_
  exact hy_iret (T := (Mc, M, Mo)) hx hb hr hlocks hP hS (Nat.zero_le _) (Nat.zero_le _) (by rw [← (Option.some.inj h)] <;> rfl) dL_first_19
