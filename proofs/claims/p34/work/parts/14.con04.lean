set_option maxHeartbeats 1000000 in
set_option maxRecDepth 100000 in
theorem c_Tu_parallelsTo {l : Launch} {G : hyG} (Mr Mo : hyM) (a1 : Int32) (M : hyM) {res : Int32} (h : Tu_parallelsTo a1 M = some res) : hyC l yX8_parallelsTo (.code yX8_parallelsTo cX8_parallelsTo 6 (some .int)) 3 73 (0) G [.ref (adr G 1), .int a1] (M, Mr, Mo) (.inr (some (.int res)), (M, Mr, Mo)) := by
  refine hy_of (by decide +kernel) (Nat.le_of_ble_eq_true rfl) ?_
  intro p e s m below meth c hx hb hml hown hts hr hlocks ht hX hP hS ls hl
  have hl : lv_has ls 6 [(0, .ref (adr G 1)), (1, .int a1)] := hl
  rw [Tu_parallelsTo] at h
  refine lv_iconst (v := 0) hx hb dX8_parallelsTo_0 rfl ?_
  refine lv_istore_n (lv' := [(2, .int 0), (0, .ref (adr G 1)), (1, .int a1)]) hx hb dX8_parallelsTo_1 rfl hl (by decide) rfl (fun ls hl => ?_)
  refine lv_iconst (v := 0) hx hb dX8_parallelsTo_2 rfl ?_
  refine lv_istore_n (lv' := [(3, .int 0), (2, .int 0), (0, .ref (adr G 1)), (1, .int a1)]) hx hb dX8_parallelsTo_3 rfl hl (by decide) rfl (fun ls hl => ?_)
  refine lv_iconst (v := 0) hx hb dX8_parallelsTo_4 rfl ?_
  refine lv_istore (lv' := [(4, .int 0), (3, .int 0), (2, .int 0), (0, .ref (adr G 1)), (1, .int a1)]) hx hb dX8_parallelsTo_5 hl (by decide) rfl (fun ls hl => ?_)
  have L14 : ∀ (f : Nat) (x1 : Int32) (x2 : Int32) (x3 : Int32) (qL : (Int32 × Int32 × Int32)) (h : Tu_parallelsTo_L7 a1 M f x1 x2 x3 = some qL) (H : Heap) (locs : List Loc) (ls : Array Slot) (hP : va_P G.1 vwCl (wld G (M, Mr, Mo)) H) (hS : va_S (hyA G) s.heap H locs) (hl : lv_has ls 6 [(0, .ref (adr G 1)), (1, .int a1), (2, .int x1), (3, .int x2), (4, .int x3)]) (kk : ∀ (y1 : Int32) (y2 : Int32) (y3 : Int32), qL = (y1, y2, y3) → ∀ (H : Heap) (locs : List Loc) (ls : Array Slot), va_P G.1 vwCl (wld G (M, Mr, Mo)) H → va_S (hyA G) s.heap H locs → lv_has ls 6 [(0, .ref (adr G 1)), (1, .int a1), (2, .int y1), (3, .int y2), (4, .int y3)] → W p l e { frames := 3, cells := 0, slots := 6 * 0, locals := 73 } s m ([.ref (adr G 1), .int a1] : List Value).toArray below meth c H locs 0 0 (vx_MQ below (hyQ G (.inr (some (.int res)), (M, Mr, Mo))) (hyXQ G (.inr (some (.int res)), (M, Mr, Mo))) ([.ref (adr G 1), .int a1] : List Value).toArray s 0 (6 * 0) (hyA G)) (F0 m 58 ls [])), W p l e { frames := 3, cells := 0, slots := 6 * 0, locals := 73 } s m ([.ref (adr G 1), .int a1] : List Value).toArray below meth c H locs 0 0 (vx_MQ below (hyQ G (.inr (some (.int res)), (M, Mr, Mo))) (hyXQ G (.inr (some (.int res)), (M, Mr, Mo))) ([.ref (adr G 1), .int a1] : List Value).toArray s 0 (6 * 0) (hyA G)) (F0 m 7 ls []) := by
    intro f
    induction f with
    | zero =>
      intro x1 x2 x3 qL h H locs ls hP hS hl kk
      rw [Tu_parallelsTo_L7] at h
      cases h
    | succ f ih =>
      intro x1 x2 x3 qL h H locs ls hP hS hl kk
      rw [Tu_parallelsTo_L7] at h
      refine lv_iload hx hb dX8_parallelsTo_7 (lv_at hl 4 rfl) ?_
      refine lv_iconst (v := 4) hx hb dX8_parallelsTo_9 rfl ?_
      refine lv_icmp_ge (tgt := 58) hx hb dX8_parallelsTo_10 (by decide) (fun c4 => ?_) (fun c4 => ?_)
      · rw [if_pos c4] at h
        exact kk x1 x2 x3 (Option.some.inj h).symm _ _ ls hP hS (lv_sub hl [0, 1, 2, 3, 4] rfl)
      · rw [if_neg c4] at h
        refine lv_iload hx hb dX8_parallelsTo_13 (lv_at hl 4 rfl) ?_
        refine lv_iconst (v := 1) hx hb dX8_parallelsTo_15 rfl ?_
        refine lv_iadd hx hb dX8_parallelsTo_16 ?_
        refine lv_istore (lv' := [(5, .int (x3 + 1)), (0, .ref (adr G 1)), (1, .int a1), (2, .int x1), (3, .int x2), (4, .int x3)]) hx hb dX8_parallelsTo_17 hl (by decide) rfl (fun ls hl => ?_)
        have L12 : ∀ (f : Nat) (x5 : Int32) (x6 : Int32) (x7 : Int32) (qL : (Int32 × Int32 × Int32)) (h : Tu_parallelsTo_L19 a1 M x3 f x5 x6 x7 = some qL) (H : Heap) (locs : List Loc) (ls : Array Slot) (hP : va_P G.1 vwCl (wld G (M, Mr, Mo)) H) (hS : va_S (hyA G) s.heap H locs) (hl : lv_has ls 6 [(0, .ref (adr G 1)), (1, .int a1), (2, .int x5), (3, .int x6), (4, .int x3), (5, .int x7)]) (kk : ∀ (y5 : Int32) (y6 : Int32) (y7 : Int32), qL = (y5, y6, y7) → ∀ (H : Heap) (locs : List Loc) (ls : Array Slot), va_P G.1 vwCl (wld G (M, Mr, Mo)) H → va_S (hyA G) s.heap H locs → lv_has ls 6 [(0, .ref (adr G 1)), (1, .int a1), (2, .int y5), (3, .int y6), (4, .int x3), (5, .int y7)] → W p l e { frames := 3, cells := 0, slots := 6 * 0, locals := 73 } s m ([.ref (adr G 1), .int a1] : List Value).toArray below meth c H locs 0 0 (vx_MQ below (hyQ G (.inr (some (.int res)), (M, Mr, Mo))) (hyXQ G (.inr (some (.int res)), (M, Mr, Mo))) ([.ref (adr G 1), .int a1] : List Value).toArray s 0 (6 * 0) (hyA G)) (F0 m 52 ls [])), W p l e { frames := 3, cells := 0, slots := 6 * 0, locals := 73 } s m ([.ref (adr G 1), .int a1] : List Value).toArray below meth c H locs 0 0 (vx_MQ below (hyQ G (.inr (some (.int res)), (M, Mr, Mo))) (hyXQ G (.inr (some (.int res)), (M, Mr, Mo))) ([.ref (adr G 1), .int a1] : List Value).toArray s 0 (6 * 0) (hyA G)) (F0 m 19 ls []) := by
          intro f
          induction f with
          | zero =>
            intro x5 x6 x7 qL h H locs ls hP hS hl kk
            rw [Tu_parallelsTo_L19] at h
            cases h
          | succ f ih =>
            intro x5 x6 x7 qL h H locs ls hP hS hl kk
            rw [Tu_parallelsTo_L19] at h
            refine lv_iload hx hb dX8_parallelsTo_19 (lv_at hl 5 rfl) ?_
            refine lv_iconst (v := 4) hx hb dX8_parallelsTo_21 rfl ?_
            refine lv_icmp_ge (tgt := 52) hx hb dX8_parallelsTo_22 (by decide) (fun c8 => ?_) (fun c8 => ?_)
            · rw [if_pos c8] at h
              exact kk x5 x6 x7 (Option.some.inj h).symm _ _ ls hP hS (lv_sub hl [0, 1, 2, 3, 4, 5] rfl)
            · rw [if_neg c8] at h
              refine lv_aload_n hx hb dX8_parallelsTo_25 rfl (lv_at hl 0 rfl) ?_
              refine lv_iload_n hx hb dX8_parallelsTo_26 rfl (lv_at hl 1 rfl) ?_
              refine lv_iload hx hb dX8_parallelsTo_27 (lv_at hl 4 rfl) ?_
              refine lv_iload hx hb dX8_parallelsTo_29 (lv_at hl 5 rfl) ?_
              obtain ⟨v9, hv9, h⟩ := hy_bind h
              refine hy_ret (hy_rV0 (T := (M, Mr, Mo)) (v := some (.int (bI v9))) (T2 := (M, Mr, Mo)) (As := [.int a1, .int x3, .int x7]) (rest := []) (n := 0) hx hb hml hown hts hX hP hS hl (c_Tu_goParallel Mr Mo a1 x3 x7 M hv9) m_Tu_goParallel q_621 (hy_recv hX hP 1 7 (by decide) rfl rfl) rfl rfl (Nat.le_of_ble_eq_true rfl) dX8_parallelsTo_31 ⟨Nat.le_of_ble_eq_true rfl, Nat.le_of_ble_eq_true rfl⟩ ⟨Nat.zero_le _, Nat.zero_le _⟩) hS (fun H locs hP hS => ?_)
              have J11 : ∀ (H : Heap) (locs : List Loc) (ls : Array Slot) (u1 : Int32), u1 = (if v9 then (x5 ||| (1 <<< (x6 &&& 31))) else x5) → va_P G.1 vwCl (wld G (M, Mr, Mo)) H → va_S (hyA G) s.heap H locs → lv_has ls 6 [(0, .ref (adr G 1)), (1, .int a1), (2, .int u1), (3, .int x6), (4, .int x3), (5, .int x7)] → W p l e { frames := 3, cells := 0, slots := 6 * 0, locals := 73 } s m ([.ref (adr G 1), .int a1] : List Value).toArray below meth c H locs 0 0 (vx_MQ below (hyQ G (.inr (some (.int res)), (M, Mr, Mo))) (hyXQ G (.inr (some (.int res)), (M, Mr, Mo))) ([.ref (adr G 1), .int a1] : List Value).toArray s 0 (6 * 0) (hyA G)) (F0 m 43 ls []) := by
                intro H locs ls u1 eu1 hP hS hl
                subst eu1
                refine lv_iinc (v := (x6 + 1)) (lv' := [(3, .int (x6 + 1)), (0, .ref (adr G 1)), (1, .int a1), (2, .int (if v9 then (x5 ||| (1 <<< (x6 &&& 31))) else x5)), (4, .int x3), (5, .int x7)]) hx hb dX8_parallelsTo_43 hl (k := 3) rfl rfl (by decide) rfl (fun ls hl => ?_)
                refine lv_iinc (v := (x7 + 1)) (lv' := [(5, .int (x7 + 1)), (3, .int (x6 + 1)), (0, .ref (adr G 1)), (1, .int a1), (2, .int (if v9 then (x5 ||| (1 <<< (x6 &&& 31))) else x5)), (4, .int x3)]) hx hb dX8_parallelsTo_46 hl (k := 5) rfl rfl (by decide) rfl (fun ls hl => ?_)
                refine lv_goto (tgt := 19) hx hb dX8_parallelsTo_49 (by decide) ?_
                exact ih (if v9 then (x5 ||| (1 <<< (x6 &&& 31))) else x5) (x6 + 1) (x7 + 1) _ h  _ _ ls hP hS (lv_sub hl [2, 3, 4, 1, 5, 0] rfl) kk
              refine lv_if_eq (tgt := 43) hx hb dX8_parallelsTo_34 (by decide) (fun c10 => ?_) (fun c10 => ?_)
              · exact J11 _ _ ls x5 (by rw [if_neg (bI_0 c10)] <;> rfl) hP hS (lv_sub hl [0, 1, 2, 3, 4, 5] rfl)
              · refine lv_iload_n hx hb dX8_parallelsTo_37 rfl (lv_at hl 2 rfl) ?_
                refine lv_iconst (v := 1) hx hb dX8_parallelsTo_38 rfl ?_
                refine lv_iload_n hx hb dX8_parallelsTo_39 rfl (lv_at hl 3 rfl) ?_
                refine lv_ishl hx hb dX8_parallelsTo_40 ?_
                refine lv_ior hx hb dX8_parallelsTo_41 ?_
                refine lv_istore_n (lv' := [(2, .int (x5 ||| (1 <<< (x6 &&& 31)))), (0, .ref (adr G 1)), (1, .int a1), (3, .int x6), (4, .int x3), (5, .int x7)]) hx hb dX8_parallelsTo_42 rfl hl (by decide) rfl (fun ls hl => ?_)
                exact J11 _ _ ls (x5 ||| (1 <<< (x6 &&& 31))) (by rw [if_pos (bI_1 c10)] <;> rfl) hP hS (lv_sub hl [1, 2, 0, 3, 4, 5] rfl)
        obtain ⟨q13, hq13, h⟩ := hy_bind h
        refine L12 hyFu x1 x2 (x3 + 1) q13 hq13 _ _ ls hP hS (lv_sub hl [1, 2, 3, 4, 5, 0] rfl) ?_
        intro y5 y6 y7 e9 H locs ls hP hS hl
        subst e9
        try dsimp only at h
        refine lv_iinc (v := (x3 + 1)) (lv' := [(4, .int (x3 + 1)), (0, .ref (adr G 1)), (1, .int a1), (2, .int y5), (3, .int y6), (5, .int y7)]) hx hb dX8_parallelsTo_52 hl (k := 4) rfl rfl (by decide) rfl (fun ls hl => ?_)
        refine lv_goto (tgt := 7) hx hb dX8_parallelsTo_55 (by decide) ?_
        exact ih y5 y6 (x3 + 1) _ h  _ _ ls hP hS (lv_sub hl [1, 2, 3, 4, 0] rfl) kk
  obtain ⟨q15, hq15, h⟩ := hy_bind h
  refine L14 hyFu 0 0 0 q15 hq15 _ _ ls hP hS (lv_sub hl [3, 4, 2, 1, 0] rfl) ?_
  intro y1 y2 y3 e9 H locs ls hP hS hl
  subst e9
  try dsimp only at h
  refine lv_iload_n hx hb dX8_parallelsTo_58 rfl (lv_at hl 2 rfl) ?_
  exact hy_iret (T := (M, Mr, Mo)) hx hb hr hlocks hP hS (Nat.zero_le _) (Nat.zero_le _) (by rw [← (Option.some.inj h)] <;> rfl) dX8_parallelsTo_59
set_option maxHeartbeats 1000000 in
set_option maxRecDepth 100000 in
theorem c_Tu_notesWithParallels {l : Launch} {G : hyG} (Mr Mo : hyM) (M : hyM) {res : Int32} (h : Tu_notesWithParallels M = some res) : hyC l yX8_notesWithParallels (.code yX8_notesWithParallels cX8_notesWithParallels 3 (some .int)) 4 98 (0) G [.ref (adr G 1)] (M, Mr, Mo) (.inr (some (.int res)), (M, Mr, Mo)) := by
  refine hy_of (by decide +kernel) (Nat.le_of_ble_eq_true rfl) ?_
  intro p e s m below meth c hx hb hml hown hts hr hlocks ht hX hP hS ls hl
  have hl : lv_has ls 3 [(0, .ref (adr G 1))] := hl
  rw [Tu_notesWithParallels] at h
  refine lv_iconst (v := 0) hx hb dX8_notesWithParallels_0 rfl ?_
  refine lv_istore_n (lv' := [(1, .int 0), (0, .ref (adr G 1))]) hx hb dX8_notesWithParallels_1 rfl hl (by decide) rfl (fun ls hl => ?_)
  refine lv_iconst (v := 0) hx hb dX8_notesWithParallels_2 rfl ?_
  refine lv_istore_n (lv' := [(2, .int 0), (1, .int 0), (0, .ref (adr G 1))]) hx hb dX8_notesWithParallels_3 rfl hl (by decide) rfl (fun ls hl => ?_)
  have L7 : ∀ (f : Nat) (x1 : Int32) (x2 : Int32) (qL : (Int32 × Int32)) (h : Tu_notesWithParallels_L4 M f x1 x2 = some qL) (H : Heap) (locs : List Loc) (ls : Array Slot) (hP : va_P G.1 vwCl (wld G (M, Mr, Mo)) H) (hS : va_S (hyA G) s.heap H locs) (hl : lv_has ls 3 [(0, .ref (adr G 1)), (1, .int x1), (2, .int x2)]) (kk : ∀ (y1 : Int32) (y2 : Int32), qL = (y1, y2) → ∀ (H : Heap) (locs : List Loc) (ls : Array Slot), va_P G.1 vwCl (wld G (M, Mr, Mo)) H → va_S (hyA G) s.heap H locs → lv_has ls 3 [(0, .ref (adr G 1)), (1, .int y1), (2, .int y2)] → W p l e { frames := 4, cells := 0, slots := 6 * 0, locals := 98 } s m ([.ref (adr G 1)] : List Value).toArray below meth c H locs 0 0 (vx_MQ below (hyQ G (.inr (some (.int res)), (M, Mr, Mo))) (hyXQ G (.inr (some (.int res)), (M, Mr, Mo))) ([.ref (adr G 1)] : List Value).toArray s 0 (6 * 0) (hyA G)) (F0 m 37 ls [])), W p l e { frames := 4, cells := 0, slots := 6 * 0, locals := 98 } s m ([.ref (adr G 1)] : List Value).toArray below meth c H locs 0 0 (vx_MQ below (hyQ G (.inr (some (.int res)), (M, Mr, Mo))) (hyXQ G (.inr (some (.int res)), (M, Mr, Mo))) ([.ref (adr G 1)] : List Value).toArray s 0 (6 * 0) (hyA G)) (F0 m 4 ls []) := by
    intro f
    induction f with
    | zero =>
      intro x1 x2 qL h H locs ls hP hS hl kk
      rw [Tu_notesWithParallels_L4] at h
      cases h
    | succ f ih =>
      intro x1 x2 qL h H locs ls hP hS hl kk
      rw [Tu_notesWithParallels_L4] at h
      refine lv_iload_n hx hb dX8_notesWithParallels_4 rfl (lv_at hl 2 rfl) ?_
      refine lv_aload_n hx hb dX8_notesWithParallels_5 rfl (lv_at hl 0 rfl) ?_
      refine hy_get (T := (M, Mr, Mo)) (o := 1) (k := 4) (v := .int (M.1 1 4)) hx hb hown hts hX hP (by decide) rfl rfl inX8g (by decide) q_124 rfl dX8_notesWithParallels_6 ?_
      refine lv_icmp_ge (tgt := 37) hx hb dX8_notesWithParallels_9 (by decide) (fun c3 => ?_) (fun c3 => ?_)
      · rw [if_pos c3] at h
        exact kk x1 x2 (Option.some.inj h).symm _ _ ls hP hS (lv_sub hl [0, 1, 2] rfl)
      · rw [if_neg c3] at h
        refine lv_iload_n hx hb dX8_notesWithParallels_12 rfl (lv_at hl 1 rfl) ?_
        refine lv_aload_n hx hb dX8_notesWithParallels_13 rfl (lv_at hl 0 rfl) ?_
        refine lv_iload_n hx hb dX8_notesWithParallels_14 rfl (lv_at hl 2 rfl) ?_
        obtain ⟨v4, hv4, h⟩ := hy_bind h
        refine hy_ret (hy_rV0 (T := (M, Mr, Mo)) (v := some (.int v4)) (T2 := (M, Mr, Mo)) (As := [.int x2]) (rest := [.int x1]) (n := 0) hx hb hml hown hts hX hP hS hl (c_Tu_parallelsTo Mr Mo x2 M hv4) m_Tu_parallelsTo q_617 (hy_recv hX hP 1 7 (by decide) rfl rfl) rfl rfl (Nat.le_of_ble_eq_true rfl) dX8_notesWithParallels_15 ⟨Nat.le_of_ble_eq_true rfl, Nat.le_of_ble_eq_true rfl⟩ ⟨Nat.zero_le _, Nat.zero_le _⟩) hS (fun H locs hP hS => ?_)
        have J6 : ∀ (H : Heap) (locs : List Loc) (ls : Array Slot) (u1 : Int32), u1 = (bI (!decide (v4 = 0))) → va_P G.1 vwCl (wld G (M, Mr, Mo)) H → va_S (hyA G) s.heap H locs → lv_has ls 3 [(0, .ref (adr G 1)), (1, .int x1), (2, .int x2)] → W p l e { frames := 4, cells := 0, slots := 6 * 0, locals := 98 } s m ([.ref (adr G 1)] : List Value).toArray below meth c H locs 0 0 (vx_MQ below (hyQ G (.inr (some (.int res)), (M, Mr, Mo))) (hyXQ G (.inr (some (.int res)), (M, Mr, Mo))) ([.ref (adr G 1)] : List Value).toArray s 0 (6 * 0) (hyA G)) (F0 m 26 ls [.int u1, .int x1]) := by
          intro H locs ls u1 eu1 hP hS hl
          subst eu1
          refine hy_ret (hy_rSN (T := (M, Mr, Mo)) (v := some (.int (Hp_flag (!decide (v4 = 0)) M))) (T2 := (M, Mr, Mo)) (As := [.int (bI (!decide (v4 = 0)))]) (rest := [.int x1]) (n := 0) hx hb hml hown hts hX hP hS hl (c_Hp_flag Mr Mo (!decide (v4 = 0)) M rfl) m_Hp_flag q_632 rfl rfl (Nat.le_of_ble_eq_true rfl) dX8_notesWithParallels_26 ⟨Nat.le_of_ble_eq_true rfl, Nat.le_of_ble_eq_true rfl⟩ ⟨Nat.zero_le _, Nat.zero_le _⟩) hS (fun H locs hP hS => ?_)
          refine lv_iadd hx hb dX8_notesWithParallels_29 ?_
          refine lv_istore_n (lv' := [(1, .int (x1 + (Hp_flag (!decide (v4 = 0)) M))), (0, .ref (adr G 1)), (2, .int x2)]) hx hb dX8_notesWithParallels_30 rfl hl (by decide) rfl (fun ls hl => ?_)
          refine lv_iinc (v := (x2 + 1)) (lv' := [(2, .int (x2 + 1)), (1, .int (x1 + (Hp_flag (!decide (v4 = 0)) M))), (0, .ref (adr G 1))]) hx hb dX8_notesWithParallels_31 hl (k := 2) rfl rfl (by decide) rfl (fun ls hl => ?_)
          refine lv_goto (tgt := 4) hx hb dX8_notesWithParallels_34 (by decide) ?_
          exact ih (x1 + (Hp_flag (!decide (v4 = 0)) M)) (x2 + 1) _ h  _ _ ls hP hS (lv_sub hl [2, 1, 0] rfl) kk
        refine lv_if_eq (tgt := 25) hx hb dX8_notesWithParallels_18 (by decide) (fun c5 => ?_) (fun c5 => ?_)
        · refine lv_iconst (v := 0) hx hb dX8_notesWithParallels_25 rfl ?_
          exact J6 _ _ ls 0 (by rw [decide_eq_true c5] <;> rfl) hP hS (lv_sub hl [0, 1, 2] rfl)
        · refine lv_iconst (v := 1) hx hb dX8_notesWithParallels_21 rfl ?_
          refine lv_goto (tgt := 26) hx hb dX8_notesWithParallels_22 (by decide) ?_
          exact J6 _ _ ls 1 (by rw [decide_eq_false c5] <;> rfl) hP hS (lv_sub hl [0, 1, 2] rfl)
  obtain ⟨q8, hq8, h⟩ := hy_bind h
  refine L7 hyFu 0 0 q8 hq8 _ _ ls hP hS (lv_sub hl [2, 1, 0] rfl) ?_
  intro y1 y2 e9 H locs ls hP hS hl
  subst e9
  try dsimp only at h
  refine lv_iload_n hx hb dX8_notesWithParallels_37 rfl (lv_at hl 1 rfl) ?_
  exact hy_iret (T := (M, Mr, Mo)) hx hb hr hlocks hP hS (Nat.zero_le _) (Nat.zero_le _) (by rw [← (Option.some.inj h)] <;> rfl) dX8_notesWithParallels_38
set_option maxHeartbeats 1000000 in
set_option maxRecDepth 100000 in
theorem c_Ve_push {l : Launch} {G : hyG} (Mr Mo : hyM) (a1 : Int32) (a2 : Int32) (a3 : Int32) (a4 : Bool) (M : hyM) {res : hyM} (h : Ve_push a1 a2 a3 a4 M = res) : hyC l yX9_push (.code yX9_push cX9_push 7 none) 1 22 (0) G [.ref (adr G 9), .int a1, .int a2, .int a3, .int (bI a4)] (M, Mr, Mo) (.inr none, (res, Mr, Mo)) := by
  refine hy_of (by decide +kernel) (Nat.le_of_ble_eq_true rfl) ?_
  intro p e s m below meth c hx hb hml hown hts hr hlocks ht hX hP hS ls hl
  have hl : lv_has ls 7 [(0, .ref (adr G 9)), (1, .int a1), (2, .int a2), (3, .int a3), (4, .int (bI a4))] := hl
  rw [Ve_push] at h
  refine lv_aload_n hx hb dX9_push_0 rfl (lv_at hl 0 rfl) ?_
  refine hy_get (T := (M, Mr, Mo)) (o := 9) (k := 0) (v := .ref (adr G 10)) hx hb hown hts hX hP (by decide) rfl rfl inX9g (by decide) q_184 rfl dX9_push_1 ?_
  refine lv_iload_n hx hb dX9_push_4 rfl (lv_at hl 1 rfl) ?_
  refine hy_ret (hy_rSN (T := (M, Mr, Mo)) (v := some (.int (atf 96 (M.1 10) a1))) (T2 := (M, Mr, Mo)) (As := [.ref (adr G 10), .int a1]) (rest := []) (n := 0) hx hb hml hown hts hX hP hS hl (c_at 10 96 (hy34 G (by decide)) (by decide) (fun _ _ => rfl) a1 (M, Mr, Mo)) m_Hp_at q_419 rfl rfl (Nat.le_of_ble_eq_true rfl) dX9_push_5 ⟨Nat.le_of_ble_eq_true rfl, Nat.le_of_ble_eq_true rfl⟩ ⟨Nat.zero_le _, Nat.zero_le _⟩) hS (fun H locs hP hS => ?_)
  refine lv_istore (lv' := [(5, .int (atf 96 (M.1 10) a1)), (0, .ref (adr G 9)), (1, .int a1), (2, .int a2), (3, .int a3), (4, .int (bI a4))]) hx hb dX9_push_8 hl (by decide) rfl (fun ls hl => ?_)
  refine lv_iload_n hx hb dX9_push_10 rfl (lv_at hl 3 rfl) ?_
  refine lv_iload_n hx hb dX9_push_11 rfl (lv_at hl 4 rfl) ?_
  refine lv_bipush (v := 7) hx hb dX9_push_12 rfl ?_
  refine lv_ishl hx hb dX9_push_14 ?_
  refine lv_iadd hx hb dX9_push_15 ?_
  refine lv_iload hx hb dX9_push_16 (lv_at hl 5 rfl) ?_
  refine hy_ret (hy_rSN (T := (M, Mr, Mo)) (v := some (.int (Hp_flag a4 M))) (T2 := (M, Mr, Mo)) (As := [.int (bI a4)]) (rest := [.int (a2 + (a3 <<< (7 &&& 31)))]) (n := 0) hx hb hml hown hts hX hP hS hl (c_Hp_flag Mr Mo a4 M rfl) m_Hp_flag q_422 rfl rfl (Nat.le_of_ble_eq_true rfl) dX9_push_18 ⟨Nat.le_of_ble_eq_true rfl, Nat.le_of_ble_eq_true rfl⟩ ⟨Nat.zero_le _, Nat.zero_le _⟩) hS (fun H locs hP hS => ?_)
  refine lv_bipush (v := 11) hx hb dX9_push_21 rfl ?_
  refine lv_ishl hx hb dX9_push_23 ?_
  refine lv_iadd hx hb dX9_push_24 ?_
  refine lv_istore (lv' := [(6, .int ((a2 + (a3 <<< (7 &&& 31))) + ((Hp_flag a4 M) <<< (11 &&& 31)))), (5, .int (atf 96 (M.1 10) a1)), (0, .ref (adr G 9)), (1, .int a1), (2, .int a2), (3, .int a3), (4, .int (bI a4))]) hx hb dX9_push_25 hl (by decide) rfl (fun ls hl => ?_)
  refine lv_aload_n hx hb dX9_push_27 rfl (lv_at hl 2 rfl) ?_
  refine hy_get (T := (M, Mr, Mo)) (o := 9) (k := 1) (v := .ref (adr G 11)) hx hb hown hts hX hP (by decide) rfl rfl inX9g (by decide) q_185 rfl dX9_push_28 ?_
  refine lv_iload_n hx hb dX9_push_31 rfl (lv_at hl 3 rfl) ?_
  refine lv_bipush (v := 30) hx hb dX9_push_32 rfl ?_
  refine lv_imul hx hb dX9_push_34 ?_
  refine lv_iload hx hb dX9_push_35 (lv_at hl 1 rfl) ?_
  refine lv_iadd hx hb dX9_push_37 ?_
  refine lv_iload hx hb dX9_push_38 (lv_at hl 0 rfl) ?_
  refine hy_ret (hy_rSN (T := (M, Mr, Mo)) (v := none) (T2 := ((putf M 11 2880 ((a1 * 30) + (atf 96 (M.1 10) a1)) ((a2 + (a3 <<< (7 &&& 31))) + ((Hp_flag a4 M) <<< (11 &&& 31)))), Mr, Mo)) (As := [.ref (adr G 11), .int ((a1 * 30) + (atf 96 (M.1 10) a1)), .int ((a2 + (a3 <<< (7 &&& 31))) + ((Hp_flag a4 M) <<< (11 &&& 31)))]) (rest := []) (n := 0) hx hb hml hown hts hX hP hS hl (c_put Mr Mo 11 2880 (by decide) (by decide) (fun _ _ => rfl) ((a1 * 30) + (atf 96 (M.1 10) a1)) ((a2 + (a3 <<< (7 &&& 31))) + ((Hp_flag a4 M) <<< (11 &&& 31))) M) m_Hp_put q_425 rfl rfl (Nat.le_of_ble_eq_true rfl) dX9_push_40 ⟨Nat.le_of_ble_eq_true rfl, Nat.le_of_ble_eq_true rfl⟩ ⟨Nat.zero_le _, Nat.zero_le _⟩) hS (fun H locs hP hS => ?_)
  refine lv_aload_n hx hb dX9_push_43 rfl (lv_at hl 2 rfl) ?_
  refine hy_get (T := ((putf M 11 2880 ((a1 * 30) + (atf 96 (M.1 10) a1)) ((a2 + (a3 <<< (7 &&& 31))) + ((Hp_flag a4 M) <<< (11 &&& 31)))), Mr, Mo)) (o := 9) (k := 0) (v := .ref (adr G 10)) hx hb hown hts hX hP (by decide) rfl rfl inX9g (by decide) q_184 rfl dX9_push_44 ?_
  refine lv_iload_n hx hb dX9_push_47 rfl (lv_at hl 3 rfl) ?_
  refine lv_iload hx hb dX9_push_48 (lv_at hl 1 rfl) ?_
  refine lv_iconst (v := 1) hx hb dX9_push_50 rfl ?_
  refine lv_iadd hx hb dX9_push_51 ?_
  refine hy_ret (hy_rSN (T := ((putf M 11 2880 ((a1 * 30) + (atf 96 (M.1 10) a1)) ((a2 + (a3 <<< (7 &&& 31))) + ((Hp_flag a4 M) <<< (11 &&& 31)))), Mr, Mo)) (v := none) (T2 := ((putf (putf M 11 2880 ((a1 * 30) + (atf 96 (M.1 10) a1)) ((a2 + (a3 <<< (7 &&& 31))) + ((Hp_flag a4 M) <<< (11 &&& 31)))) 10 96 a1 ((atf 96 (M.1 10) a1) + 1)), Mr, Mo)) (As := [.ref (adr G 10), .int a1, .int ((atf 96 (M.1 10) a1) + 1)]) (rest := []) (n := 0) hx hb hml hown hts hX hP hS hl (c_put Mr Mo 10 96 (by decide) (by decide) (fun _ _ => rfl) a1 ((atf 96 (M.1 10) a1) + 1) (putf M 11 2880 ((a1 * 30) + (atf 96 (M.1 10) a1)) ((a2 + (a3 <<< (7 &&& 31))) + ((Hp_flag a4 M) <<< (11 &&& 31))))) m_Hp_put q_425 rfl rfl (Nat.le_of_ble_eq_true rfl) dX9_push_52 ⟨Nat.le_of_ble_eq_true rfl, Nat.le_of_ble_eq_true rfl⟩ ⟨Nat.zero_le _, Nat.zero_le _⟩) hS (fun H locs hP hS => ?_)
  exact hy_vret (T := ((putf (putf M 11 2880 ((a1 * 30) + (atf 96 (M.1 10) a1)) ((a2 + (a3 <<< (7 &&& 31))) + ((Hp_flag a4 M) <<< (11 &&& 31)))) 10 96 a1 ((atf 96 (M.1 10) a1) + 1)), Mr, Mo)) hx hb hr hlocks hP hS (Nat.zero_le _) (Nat.zero_le _) (by rw [← h] <;> rfl) dX9_push_55
set_option maxHeartbeats 1000000 in
set_option maxRecDepth 100000 in
theorem c_Ve_take {l : Launch} {G : hyG} (Mr Mo : hyM) (a1 : Int32) (a2 : Int32) (M : hyM) {res : hyM} (h : Ve_take a1 a2 M = some res) : hyC l yX9_take (.code yX9_take cX9_take 9 none) 2 48 (0) G [.ref (adr G 9), .int a1, .int a2, .ref (adr G 28)] (M, Mr, Mo) (.inr none, (res, Mr, Mo)) := by
  refine hy_of (by decide +kernel) (Nat.le_of_ble_eq_true rfl) ?_
  intro p e s m below meth c hx hb hml hown hts hr hlocks ht hX hP hS ls hl
  have hl : lv_has ls 9 [(0, .ref (adr G 9)), (1, .int a1), (2, .int a2), (3, .ref (adr G 28))] := hl
  rw [Ve_take] at h
  refine lv_aload_n hx hb dX9_take_0 rfl (lv_at hl 0 rfl) ?_
  refine lv_iload_n hx hb dX9_take_1 rfl (lv_at hl 1 rfl) ?_
  refine lv_iload_n hx hb dX9_take_2 rfl (lv_at hl 2 rfl) ?_
  refine hy_ret (hy_rV0 (T := (M, Mr, Mo)) (v := some (.int (Ve_rowOf a1 a2 M))) (T2 := (M, Mr, Mo)) (As := [.int a1, .int a2]) (rest := []) (n := 0) hx hb hml hown hts hX hP hS hl (c_Ve_rowOf Mr Mo a1 a2 M rfl) m_Ve_rowOf q_415 (hy_recv hX hP 9 8 (by decide) rfl rfl) rfl rfl (Nat.le_of_ble_eq_true rfl) dX9_take_3 ⟨Nat.le_of_ble_eq_true rfl, Nat.le_of_ble_eq_true rfl⟩ ⟨Nat.zero_le _, Nat.zero_le _⟩) hS (fun H locs hP hS => ?_)
  refine lv_istore (lv' := [(4, .int (Ve_rowOf a1 a2 M)), (0, .ref (adr G 9)), (1, .int a1), (2, .int a2), (3, .ref (adr G 28))]) hx hb dX9_take_6 hl (by decide) rfl (fun ls hl => ?_)
  refine lv_iconst (v := 0) hx hb dX9_take_8 rfl ?_
  refine lv_istore (lv' := [(5, .int 0), (4, .int (Ve_rowOf a1 a2 M)), (0, .ref (adr G 9)), (1, .int a1), (2, .int a2), (3, .ref (adr G 28))]) hx hb dX9_take_9 hl (by decide) rfl (fun ls hl => ?_)
  refine lv_iconst (v := 0) hx hb dX9_take_11 rfl ?_
  refine lv_istore (lv' := [(6, .int 0), (5, .int 0), (4, .int (Ve_rowOf a1 a2 M)), (0, .ref (adr G 9)), (1, .int a1), (2, .int a2), (3, .ref (adr G 28))]) hx hb dX9_take_12 hl (by decide) rfl (fun ls hl => ?_)
  refine lv_aload_n hx hb dX9_take_14 rfl (lv_at hl 3 rfl) ?_
  refine hy_get (T := (M, Mr, Mo)) (o := 9) (k := 0) (v := .ref (adr G 10)) hx hb hown hts hX hP (by decide) rfl rfl inX9g (by decide) q_184 rfl dX9_take_15 ?_
  refine lv_iload hx hb dX9_take_18 (lv_at hl 2 rfl) ?_
  refine lv_iconst (v := 0) hx hb dX9_take_20 rfl ?_
  refine hy_ret (hy_rSN (T := (M, Mr, Mo)) (v := none) (T2 := ((putf M 10 96 (Ve_rowOf a1 a2 M) 0), Mr, Mo)) (As := [.ref (adr G 10), .int (Ve_rowOf a1 a2 M), .int 0]) (rest := []) (n := 0) hx hb hml hown hts hX hP hS hl (c_put Mr Mo 10 96 (by decide) (by decide) (fun _ _ => rfl) (Ve_rowOf a1 a2 M) 0 M) m_Hp_put q_425 rfl rfl (Nat.le_of_ble_eq_true rfl) dX9_take_21 ⟨Nat.le_of_ble_eq_true rfl, Nat.le_of_ble_eq_true rfl⟩ ⟨Nat.zero_le _, Nat.zero_le _⟩) hS (fun H locs hP hS => ?_)
  obtain ⟨M1, hM1, h⟩ := hy_bind h
  rw [Option.some.inj hM1] at hP
  refine lv_iconst (v := 0) hx hb dX9_take_24 rfl ?_
  refine lv_istore (lv' := [(7, .int 0), (6, .int 0), (5, .int 0), (4, .int (Ve_rowOf a1 a2 M)), (0, .ref (adr G 9)), (1, .int a1), (2, .int a2), (3, .ref (adr G 28))]) hx hb dX9_take_25 hl (by decide) rfl (fun ls hl => ?_)
  have L13 : ∀ (f : Nat) (x2 : Int32) (x3 : Int32) (x4 : Int32) (M5 : hyM) (qL : (Int32 × Int32 × Int32 × hyM)) (h : Ve_take_L27 a1 a2 M f x2 x3 x4 M5 = some qL) (H : Heap) (locs : List Loc) (ls : Array Slot) (hP : va_P G.1 vwCl (wld G (M5, Mr, Mo)) H) (hS : va_S (hyA G) s.heap H locs) (hl : lv_has ls 9 [(0, .ref (adr G 9)), (1, .int a1), (2, .int a2), (3, .ref (adr G 28)), (4, .int (Ve_rowOf a1 a2 M)), (5, .int x2), (6, .int x3), (7, .int x4)]) (kk : ∀ (y2 : Int32) (y3 : Int32) (y4 : Int32) (NM5 : hyM), qL = (y2, y3, y4, NM5) → ∀ (H : Heap) (locs : List Loc) (ls : Array Slot), va_P G.1 vwCl (wld G (NM5, Mr, Mo)) H → va_S (hyA G) s.heap H locs → lv_has ls 9 [(0, .ref (adr G 9)), (1, .int a1), (2, .int a2), (3, .ref (adr G 28)), (4, .int (Ve_rowOf a1 a2 M)), (5, .int y2), (6, .int y3), (7, .int y4)] → W p l e { frames := 2, cells := 0, slots := 6 * 0, locals := 48 } s m ([.ref (adr G 9), .int a1, .int a2, .ref (adr G 28)] : List Value).toArray below meth c H locs 0 0 (vx_MQ below (hyQ G (.inr none, (res, Mr, Mo))) (hyXQ G (.inr none, (res, Mr, Mo))) ([.ref (adr G 9), .int a1, .int a2, .ref (adr G 28)] : List Value).toArray s 0 (6 * 0) (hyA G)) (F0 m 103 ls [])), W p l e { frames := 2, cells := 0, slots := 6 * 0, locals := 48 } s m ([.ref (adr G 9), .int a1, .int a2, .ref (adr G 28)] : List Value).toArray below meth c H locs 0 0 (vx_MQ below (hyQ G (.inr none, (res, Mr, Mo))) (hyXQ G (.inr none, (res, Mr, Mo))) ([.ref (adr G 9), .int a1, .int a2, .ref (adr G 28)] : List Value).toArray s 0 (6 * 0) (hyA G)) (F0 m 27 ls []) := by
    intro f
    induction f with
    | zero =>
      intro x2 x3 x4 M5 qL h H locs ls hP hS hl kk
      rw [Ve_take_L27] at h
      cases h
    | succ f ih =>
      intro x2 x3 x4 M5 qL h H locs ls hP hS hl kk
      rw [Ve_take_L27] at h
      refine lv_iload hx hb dX9_take_27 (lv_at hl 7 rfl) ?_
      refine lv_aload_n hx hb dX9_take_29 rfl (lv_at hl 3 rfl) ?_
      refine hy_getN (T := (M5, Mr, Mo)) (o := 28) (k := 1) (v := .int (M5.1 28 1)) hx hb hown hts hX hP (by decide) rfl rfl inX3g (by decide) q_286 rfl dX9_take_30 ?_
      refine lv_icmp_ge (tgt := 103) hx hb dX9_take_33 (by decide) (fun c6 => ?_) (fun c6 => ?_)
      · rw [if_pos c6] at h
        exact kk x2 x3 x4 M5 (Option.some.inj h).symm _ _ ls hP hS (lv_sub hl [0, 1, 2, 3, 4, 5, 6, 7] rfl)
      · rw [if_neg c6] at h
        refine lv_aload_n hx hb dX9_take_36 rfl (lv_at hl 3 rfl) ?_
        refine lv_iload hx hb dX9_take_37 (lv_at hl 7 rfl) ?_
        refine hy_ret (hy_rVN (T := (M5, Mr, Mo)) (v := some (.int (In_codeAt x4 M5))) (T2 := (M5, Mr, Mo)) (As := [.int x4]) (rest := []) (n := 0) hx hb hml hown hts hX hP hS hl (c_In_codeAt Mr Mo x4 M5 rfl) m_In_codeAt q_1084 (hy_recv hX hP 28 3 (by decide) rfl rfl) rfl rfl (Nat.le_of_ble_eq_true rfl) dX9_take_39 ⟨Nat.le_of_ble_eq_true rfl, Nat.le_of_ble_eq_true rfl⟩ ⟨Nat.zero_le _, Nat.zero_le _⟩) hS (fun H locs hP hS => ?_)
        refine lv_istore (lv' := [(8, .int (In_codeAt x4 M5)), (0, .ref (adr G 9)), (1, .int a1), (2, .int a2), (3, .ref (adr G 28)), (4, .int (Ve_rowOf a1 a2 M)), (5, .int x2), (6, .int x3), (7, .int x4)]) hx hb dX9_take_42 hl (by decide) rfl (fun ls hl => ?_)
        refine lv_iload hx hb dX9_take_44 (lv_at hl 0 rfl) ?_
        refine hy_ret (hy_rSN (T := (M5, Mr, Mo)) (v := some (.int (bI (In_isOfSyllable (In_codeAt x4 M5) M5)))) (T2 := (M5, Mr, Mo)) (As := [.int (In_codeAt x4 M5)]) (rest := []) (n := 0) hx hb hml hown hts hX hP hS hl (c_In_isOfSyllable Mr Mo (In_codeAt x4 M5) M5 rfl) m_In_isOfSyllable q_1085 rfl rfl (Nat.le_of_ble_eq_true rfl) dX9_take_46 ⟨Nat.le_of_ble_eq_true rfl, Nat.le_of_ble_eq_true rfl⟩ ⟨Nat.zero_le _, Nat.zero_le _⟩) hS (fun H locs hP hS => ?_)
        refine lv_if_ne (tgt := 80) hx hb dX9_take_49 (by decide) (fun c7 => ?_) (fun c7 => ?_)
        · rw [if_pos (bI_1 c7)] at h
          refine lv_iload hx hb dX9_take_80 (lv_at hl 7 rfl) ?_
          have J9 : ∀ (H : Heap) (locs : List Loc) (ls : Array Slot) (u1 : Int32), u1 = (if x3 = 0 then (In_codeAt x4 M5) else x2) → va_P G.1 vwCl (wld G (M5, Mr, Mo)) H → va_S (hyA G) s.heap H locs → lv_has ls 9 [(0, .ref (adr G 9)), (1, .int a1), (2, .int a2), (3, .ref (adr G 28)), (4, .int (Ve_rowOf a1 a2 M)), (5, .int x2), (6, .int x3), (7, .int x4), (8, .int (In_codeAt x4 M5))] → W p l e { frames := 2, cells := 0, slots := 6 * 0, locals := 48 } s m ([.ref (adr G 9), .int a1, .int a2, .ref (adr G 28)] : List Value).toArray below meth c H locs 0 0 (vx_MQ below (hyQ G (.inr none, (res, Mr, Mo))) (hyXQ G (.inr none, (res, Mr, Mo))) ([.ref (adr G 9), .int a1, .int a2, .ref (adr G 28)] : List Value).toArray s 0 (6 * 0) (hyA G)) (F0 m 92 ls [.int u1]) := by
            intro H locs ls u1 eu1 hP hS hl
            subst eu1
            refine lv_istore (lv' := [(5, .int (if x3 = 0 then (In_codeAt x4 M5) else x2)), (0, .ref (adr G 9)), (1, .int a1), (2, .int a2), (3, .ref (adr G 28)), (4, .int (Ve_rowOf a1 a2 M)), (6, .int x3), (7, .int x4), (8, .int (In_codeAt x4 M5))]) hx hb dX9_take_92 hl (by decide) rfl (fun ls hl => ?_)
            refine lv_iinc (v := (x3 + 1)) (lv' := [(6, .int (x3 + 1)), (5, .int (if x3 = 0 then (In_codeAt x4 M5) else x2)), (0, .ref (adr G 9)), (1, .int a1), (2, .int a2), (3, .ref (adr G 28)), (4, .int (Ve_rowOf a1 a2 M)), (7, .int x4), (8, .int (In_codeAt x4 M5))]) hx hb dX9_take_94 hl (k := 6) rfl rfl (by decide) rfl (fun ls hl => ?_)
            refine lv_iinc (v := (x4 + 1)) (lv' := [(7, .int (x4 + 1)), (6, .int (x3 + 1)), (5, .int (if x3 = 0 then (In_codeAt x4 M5) else x2)), (0, .ref (adr G 9)), (1, .int a1), (2, .int a2), (3, .ref (adr G 28)), (4, .int (Ve_rowOf a1 a2 M)), (8, .int (In_codeAt x4 M5))]) hx hb dX9_take_97 hl (k := 7) rfl rfl (by decide) rfl (fun ls hl => ?_)
            refine lv_goto (tgt := 27) hx hb dX9_take_100 (by decide) ?_
            exact ih (if x3 = 0 then (In_codeAt x4 M5) else x2) (x3 + 1) (x4 + 1) M5 _ h  _ _ ls hP hS (lv_sub hl [3, 4, 5, 6, 7, 2, 1, 0] rfl) kk
          refine lv_if_ne (tgt := 90) hx hb dX9_take_82 (by decide) (fun c8 => ?_) (fun c8 => ?_)
          · refine lv_iload hx hb dX9_take_90 (lv_at hl 6 rfl) ?_
            exact J9 _ _ ls x2 (by rw [if_neg c8] <;> rfl) hP hS (lv_sub hl [1, 2, 3, 4, 5, 6, 7, 8, 0] rfl)
          · refine lv_iload hx hb dX9_take_85 (lv_at hl 0 rfl) ?_
            refine lv_goto (tgt := 92) hx hb dX9_take_87 (by decide) ?_
            exact J9 _ _ ls (In_codeAt x4 M5) (by rw [if_pos c8] <;> rfl) hP hS (lv_sub hl [1, 2, 3, 4, 5, 6, 7, 8, 0] rfl)
        · rw [if_neg (bI_0 c7)] at h
          refine lv_aload_n hx hb dX9_take_52 rfl (lv_at hl 1 rfl) ?_
          refine lv_iload hx hb dX9_take_53 (lv_at hl 5 rfl) ?_
          refine lv_iload hx hb dX9_take_55 (lv_at hl 6 rfl) ?_
          refine lv_iload hx hb dX9_take_57 (lv_at hl 7 rfl) ?_
          refine lv_iload hx hb dX9_take_59 (lv_at hl 0 rfl) ?_
          refine lv_bipush (v := 45) hx hb dX9_take_61 rfl ?_
          have J12 : ∀ (H : Heap) (locs : List Loc) (ls : Array Slot) (u1 : Int32), u1 = (bI (decide ((In_codeAt x4 M5) = 45))) → va_P G.1 vwCl (wld G (M5, Mr, Mo)) H → va_S (hyA G) s.heap H locs → lv_has ls 9 [(0, .ref (adr G 9)), (1, .int a1), (2, .int a2), (3, .ref (adr G 28)), (4, .int (Ve_rowOf a1 a2 M)), (5, .int x2), (6, .int x3), (7, .int x4), (8, .int (In_codeAt x4 M5))] → W p l e { frames := 2, cells := 0, slots := 6 * 0, locals := 48 } s m ([.ref (adr G 9), .int a1, .int a2, .ref (adr G 28)] : List Value).toArray below meth c H locs 0 0 (vx_MQ below (hyQ G (.inr none, (res, Mr, Mo))) (hyXQ G (.inr none, (res, Mr, Mo))) ([.ref (adr G 9), .int a1, .int a2, .ref (adr G 28)] : List Value).toArray s 0 (6 * 0) (hyA G)) (F0 m 71 ls [.int u1, .int x3, .int x2, .int (Ve_rowOf a1 a2 M), .ref (adr G 9)]) := by
            intro H locs ls u1 eu1 hP hS hl
            subst eu1
            refine hy_ret (hy_rV0 (T := (M5, Mr, Mo)) (v := none) (T2 := ((Ve_push (Ve_rowOf a1 a2 M) x2 x3 (decide ((In_codeAt x4 M5) = 45)) M5), Mr, Mo)) (As := [.int (Ve_rowOf a1 a2 M), .int x2, .int x3, .int (bI (decide ((In_codeAt x4 M5) = 45)))]) (rest := []) (n := 0) hx hb hml hown hts hX hP hS hl (c_Ve_push Mr Mo (Ve_rowOf a1 a2 M) x2 x3 (decide ((In_codeAt x4 M5) = 45)) M5 rfl) m_Ve_push q_1086 (hy_recv hX hP 9 8 (by decide) rfl rfl) rfl rfl (Nat.le_of_ble_eq_true rfl) dX9_take_71 ⟨Nat.le_of_ble_eq_true rfl, Nat.le_of_ble_eq_true rfl⟩ ⟨Nat.zero_le _, Nat.zero_le _⟩) hS (fun H locs hP hS => ?_)
            obtain ⟨M11, hM11, h⟩ := hy_bind h
            rw [Option.some.inj hM11] at hP
            refine lv_iconst (v := 0) hx hb dX9_take_74 rfl ?_
            refine lv_istore (lv' := [(6, .int 0), (0, .ref (adr G 9)), (1, .int a1), (2, .int a2), (3, .ref (adr G 28)), (4, .int (Ve_rowOf a1 a2 M)), (5, .int x2), (7, .int x4), (8, .int (In_codeAt x4 M5))]) hx hb dX9_take_75 hl (by decide) rfl (fun ls hl => ?_)
            refine lv_goto (tgt := 97) hx hb dX9_take_77 (by decide) ?_
            refine lv_iinc (v := (x4 + 1)) (lv' := [(7, .int (x4 + 1)), (6, .int 0), (0, .ref (adr G 9)), (1, .int a1), (2, .int a2), (3, .ref (adr G 28)), (4, .int (Ve_rowOf a1 a2 M)), (5, .int x2), (8, .int (In_codeAt x4 M5))]) hx hb dX9_take_97 hl (k := 7) rfl rfl (by decide) rfl (fun ls hl => ?_)
            refine lv_goto (tgt := 27) hx hb dX9_take_100 (by decide) ?_
            exact ih x2 0 (x4 + 1) M11 _ h  _ _ ls hP hS (lv_sub hl [2, 3, 4, 5, 6, 7, 1, 0] rfl) kk
          refine lv_icmp_ne (tgt := 70) hx hb dX9_take_63 (by decide) (fun c10 => ?_) (fun c10 => ?_)
          · refine lv_iconst (v := 0) hx hb dX9_take_70 rfl ?_
            exact J12 _ _ ls 0 (by rw [decide_eq_false c10] <;> rfl) hP hS (lv_sub hl [1, 2, 3, 4, 5, 6, 7, 8, 0] rfl)
          · refine lv_iconst (v := 1) hx hb dX9_take_66 rfl ?_
            refine lv_goto (tgt := 71) hx hb dX9_take_67 (by decide) ?_
            exact J12 _ _ ls 1 (by rw [decide_eq_true c10] <;> rfl) hP hS (lv_sub hl [1, 2, 3, 4, 5, 6, 7, 8, 0] rfl)
  obtain ⟨q15, hq15, h⟩ := hy_bind h
  refine L13 hyFu 0 0 0 M1 q15 hq15 _ _ ls hP hS (lv_sub hl [4, 5, 6, 7, 3, 2, 1, 0] rfl) ?_
  intro y2 y3 y4 NM5 e9 H locs ls hP hS hl
  subst e9
  try dsimp only at h
  refine lv_aload_n hx hb dX9_take_103 rfl (lv_at hl 0 rfl) ?_
  refine lv_iload hx hb dX9_take_104 (lv_at hl 4 rfl) ?_
  refine lv_iload hx hb dX9_take_106 (lv_at hl 5 rfl) ?_
  refine lv_iload hx hb dX9_take_108 (lv_at hl 6 rfl) ?_
  refine lv_iconst (v := 0) hx hb dX9_take_110 rfl ?_
  refine hy_ret (hy_rV0 (T := (NM5, Mr, Mo)) (v := none) (T2 := ((Ve_push (Ve_rowOf a1 a2 M) y2 y3 false NM5), Mr, Mo)) (As := [.int (Ve_rowOf a1 a2 M), .int y2, .int y3, .int 0]) (rest := []) (n := 0) hx hb hml hown hts hX hP hS hl (c_Ve_push Mr Mo (Ve_rowOf a1 a2 M) y2 y3 false NM5 rfl) m_Ve_push q_1086 (hy_recv hX hP 9 8 (by decide) rfl rfl) rfl rfl (Nat.le_of_ble_eq_true rfl) dX9_take_111 ⟨Nat.le_of_ble_eq_true rfl, Nat.le_of_ble_eq_true rfl⟩ ⟨Nat.zero_le _, Nat.zero_le _⟩) hS (fun H locs hP hS => ?_)
  obtain ⟨M14, hM14, h⟩ := hy_bind h
  rw [Option.some.inj hM14] at hP
  exact hy_vret (T := (M14, Mr, Mo)) hx hb hr hlocks hP hS (Nat.zero_le _) (Nat.zero_le _) (by rw [← (Option.some.inj h)] <;> rfl) dX9_take_114
set_option maxHeartbeats 1000000 in
set_option maxRecDepth 100000 in
theorem c_Ve_removeLines {l : Launch} {G : hyG} (Mr Mo : hyM) (a1 : Int32) (M : hyM) {res : (Int32 × hyM)} (h : Ve_removeLines a1 M = some res) : hyC l yX9_removeLines (.code yX9_removeLines cX9_removeLines 4 (some .int)) 2 44 (0) G [.ref (adr G 9), .int a1] (M, Mr, Mo) (.inr (some (.int res.1)), (res.2, Mr, Mo)) := by
  refine hy_of (by decide +kernel) (Nat.le_of_ble_eq_true rfl) ?_
  intro p e s m below meth c hx hb hml hown hts hr hlocks ht hX hP hS ls hl
  have hl : lv_has ls 4 [(0, .ref (adr G 9)), (1, .int a1)] := hl
  rw [Ve_removeLines] at h
  refine lv_iconst (v := 0) hx hb dX9_removeLines_0 rfl ?_
  refine lv_istore_n (lv' := [(2, .int 0), (0, .ref (adr G 9)), (1, .int a1)]) hx hb dX9_removeLines_1 rfl hl (by decide) rfl (fun ls hl => ?_)
  refine lv_iconst (v := 0) hx hb dX9_removeLines_2 rfl ?_
  refine lv_istore_n (lv' := [(3, .int 0), (2, .int 0), (0, .ref (adr G 9)), (1, .int a1)]) hx hb dX9_removeLines_3 rfl hl (by decide) rfl (fun ls hl => ?_)
  have L8 : ∀ (f : Nat) (x1 : Int32) (x2 : Int32) (M3 : hyM) (qL : (Int32 × Int32 × hyM)) (h : Ve_removeLines_L4 a1 f x1 x2 M3 = some qL) (H : Heap) (locs : List Loc) (ls : Array Slot) (hP : va_P G.1 vwCl (wld G (M3, Mr, Mo)) H) (hS : va_S (hyA G) s.heap H locs) (hl : lv_has ls 4 [(0, .ref (adr G 9)), (1, .int a1), (2, .int x1), (3, .int x2)]) (kk : ∀ (y1 : Int32) (y2 : Int32) (NM3 : hyM), qL = (y1, y2, NM3) → ∀ (H : Heap) (locs : List Loc) (ls : Array Slot), va_P G.1 vwCl (wld G (NM3, Mr, Mo)) H → va_S (hyA G) s.heap H locs → lv_has ls 4 [(0, .ref (adr G 9)), (1, .int a1), (2, .int y1), (3, .int y2)] → W p l e { frames := 2, cells := 0, slots := 6 * 0, locals := 44 } s m ([.ref (adr G 9), .int a1] : List Value).toArray below meth c H locs 0 0 (vx_MQ below (hyQ G (.inr (some (.int res.1)), (res.2, Mr, Mo))) (hyXQ G (.inr (some (.int res.1)), (res.2, Mr, Mo))) ([.ref (adr G 9), .int a1] : List Value).toArray s 0 (6 * 0) (hyA G)) (F0 m 50 ls [])), W p l e { frames := 2, cells := 0, slots := 6 * 0, locals := 44 } s m ([.ref (adr G 9), .int a1] : List Value).toArray below meth c H locs 0 0 (vx_MQ below (hyQ G (.inr (some (.int res.1)), (res.2, Mr, Mo))) (hyXQ G (.inr (some (.int res.1)), (res.2, Mr, Mo))) ([.ref (adr G 9), .int a1] : List Value).toArray s 0 (6 * 0) (hyA G)) (F0 m 4 ls []) := by
    intro f
    induction f with
    | zero =>
      intro x1 x2 M3 qL h H locs ls hP hS hl kk
      rw [Ve_removeLines_L4] at h
      cases h
    | succ f ih =>
      intro x1 x2 M3 qL h H locs ls hP hS hl kk
      rw [Ve_removeLines_L4] at h
      refine lv_iload_n hx hb dX9_removeLines_4 rfl (lv_at hl 3 rfl) ?_
      refine lv_bipush (v := 24) hx hb dX9_removeLines_5 rfl ?_
      refine lv_icmp_ge (tgt := 50) hx hb dX9_removeLines_7 (by decide) (fun c4 => ?_) (fun c4 => ?_)
      · rw [if_pos c4] at h
        exact kk x1 x2 M3 (Option.some.inj h).symm _ _ ls hP hS (lv_sub hl [0, 1, 2, 3] rfl)
      · rw [if_neg c4] at h
        refine lv_iload_n hx hb dX9_removeLines_10 rfl (lv_at hl 2 rfl) ?_
        refine lv_aload_n hx hb dX9_removeLines_11 rfl (lv_at hl 0 rfl) ?_
        refine lv_iload_n hx hb dX9_removeLines_12 rfl (lv_at hl 1 rfl) ?_
        refine lv_iload_n hx hb dX9_removeLines_13 rfl (lv_at hl 3 rfl) ?_
        refine hy_ret (hy_rV0 (T := (M3, Mr, Mo)) (v := some (.int (Ve_syllablesOf a1 x2 M3))) (T2 := (M3, Mr, Mo)) (As := [.int a1, .int x2]) (rest := [.int x1]) (n := 0) hx hb hml hown hts hX hP hS hl (c_Ve_syllablesOf Mr Mo a1 x2 M3 rfl) m_Ve_syllablesOf q_411 (hy_recv hX hP 9 8 (by decide) rfl rfl) rfl rfl (Nat.le_of_ble_eq_true rfl) dX9_removeLines_14 ⟨Nat.le_of_ble_eq_true rfl, Nat.le_of_ble_eq_true rfl⟩ ⟨Nat.zero_le _, Nat.zero_le _⟩) hS (fun H locs hP hS => ?_)
        have J7 : ∀ (H : Heap) (locs : List Loc) (ls : Array Slot) (u1 : Int32), u1 = (bI (!decide ((Ve_syllablesOf a1 x2 M3) ≤ 0))) → va_P G.1 vwCl (wld G (M3, Mr, Mo)) H → va_S (hyA G) s.heap H locs → lv_has ls 4 [(0, .ref (adr G 9)), (1, .int a1), (2, .int x1), (3, .int x2)] → W p l e { frames := 2, cells := 0, slots := 6 * 0, locals := 44 } s m ([.ref (adr G 9), .int a1] : List Value).toArray below meth c H locs 0 0 (vx_MQ below (hyQ G (.inr (some (.int res.1)), (res.2, Mr, Mo))) (hyXQ G (.inr (some (.int res.1)), (res.2, Mr, Mo))) ([.ref (adr G 9), .int a1] : List Value).toArray s 0 (6 * 0) (hyA G)) (F0 m 25 ls [.int u1, .int x1]) := by
          intro H locs ls u1 eu1 hP hS hl
          subst eu1
          refine hy_ret (hy_rSN (T := (M3, Mr, Mo)) (v := some (.int (Hp_flag (!decide ((Ve_syllablesOf a1 x2 M3) ≤ 0)) M3))) (T2 := (M3, Mr, Mo)) (As := [.int (bI (!decide ((Ve_syllablesOf a1 x2 M3) ≤ 0)))]) (rest := [.int x1]) (n := 0) hx hb hml hown hts hX hP hS hl (c_Hp_flag Mr Mo (!decide ((Ve_syllablesOf a1 x2 M3) ≤ 0)) M3 rfl) m_Hp_flag q_422 rfl rfl (Nat.le_of_ble_eq_true rfl) dX9_removeLines_25 ⟨Nat.le_of_ble_eq_true rfl, Nat.le_of_ble_eq_true rfl⟩ ⟨Nat.zero_le _, Nat.zero_le _⟩) hS (fun H locs hP hS => ?_)
          refine lv_iadd hx hb dX9_removeLines_28 ?_
          refine lv_istore_n (lv' := [(2, .int (x1 + (Hp_flag (!decide ((Ve_syllablesOf a1 x2 M3) ≤ 0)) M3))), (0, .ref (adr G 9)), (1, .int a1), (3, .int x2)]) hx hb dX9_removeLines_29 rfl hl (by decide) rfl (fun ls hl => ?_)
          refine lv_aload_n hx hb dX9_removeLines_30 rfl (lv_at hl 1 rfl) ?_
          refine hy_get (T := (M3, Mr, Mo)) (o := 9) (k := 0) (v := .ref (adr G 10)) hx hb hown hts hX hP (by decide) rfl rfl inX9g (by decide) q_184 rfl dX9_removeLines_31 ?_
          refine lv_aload_n hx hb dX9_removeLines_34 rfl (lv_at hl 1 rfl) ?_
          refine lv_iload_n hx hb dX9_removeLines_35 rfl (lv_at hl 2 rfl) ?_
          refine lv_iload_n hx hb dX9_removeLines_36 rfl (lv_at hl 3 rfl) ?_
          refine hy_ret (hy_rV0 (T := (M3, Mr, Mo)) (v := some (.int (Ve_rowOf a1 x2 M3))) (T2 := (M3, Mr, Mo)) (As := [.int a1, .int x2]) (rest := [.ref (adr G 10)]) (n := 0) hx hb hml hown hts hX hP hS hl (c_Ve_rowOf Mr Mo a1 x2 M3 rfl) m_Ve_rowOf q_415 (hy_recv hX hP 9 8 (by decide) rfl rfl) rfl rfl (Nat.le_of_ble_eq_true rfl) dX9_removeLines_37 ⟨Nat.le_of_ble_eq_true rfl, Nat.le_of_ble_eq_true rfl⟩ ⟨Nat.zero_le _, Nat.zero_le _⟩) hS (fun H locs hP hS => ?_)
          refine lv_iconst (v := 0) hx hb dX9_removeLines_40 rfl ?_
          refine hy_ret (hy_rSN (T := (M3, Mr, Mo)) (v := none) (T2 := ((putf M3 10 96 (Ve_rowOf a1 x2 M3) 0), Mr, Mo)) (As := [.ref (adr G 10), .int (Ve_rowOf a1 x2 M3), .int 0]) (rest := []) (n := 0) hx hb hml hown hts hX hP hS hl (c_put Mr Mo 10 96 (by decide) (by decide) (fun _ _ => rfl) (Ve_rowOf a1 x2 M3) 0 M3) m_Hp_put q_425 rfl rfl (Nat.le_of_ble_eq_true rfl) dX9_removeLines_41 ⟨Nat.le_of_ble_eq_true rfl, Nat.le_of_ble_eq_true rfl⟩ ⟨Nat.zero_le _, Nat.zero_le _⟩) hS (fun H locs hP hS => ?_)
          obtain ⟨M6, hM6, h⟩ := hy_bind h
          rw [Option.some.inj hM6] at hP
          refine lv_iinc (v := (x2 + 1)) (lv' := [(3, .int (x2 + 1)), (2, .int (x1 + (Hp_flag (!decide ((Ve_syllablesOf a1 x2 M3) ≤ 0)) M3))), (0, .ref (adr G 9)), (1, .int a1)]) hx hb dX9_removeLines_44 hl (k := 3) rfl rfl (by decide) rfl (fun ls hl => ?_)
          refine lv_goto (tgt := 4) hx hb dX9_removeLines_47 (by decide) ?_
          exact ih (x1 + (Hp_flag (!decide ((Ve_syllablesOf a1 x2 M3) ≤ 0)) M3)) (x2 + 1) M6 _ h  _ _ ls hP hS (lv_sub hl [2, 3, 1, 0] rfl) kk
        refine lv_if_le (tgt := 24) hx hb dX9_removeLines_17 (by decide) (fun c5 => ?_) (fun c5 => ?_)
        · refine lv_iconst (v := 0) hx hb dX9_removeLines_24 rfl ?_
          exact J7 _ _ ls 0 (by rw [decide_eq_true c5] <;> rfl) hP hS (lv_sub hl [0, 1, 2, 3] rfl)
        · refine lv_iconst (v := 1) hx hb dX9_removeLines_20 rfl ?_
          refine lv_goto (tgt := 25) hx hb dX9_removeLines_21 (by decide) ?_
          exact J7 _ _ ls 1 (by rw [decide_eq_false c5] <;> rfl) hP hS (lv_sub hl [0, 1, 2, 3] rfl)
  obtain ⟨q9, hq9, h⟩ := hy_bind h
  refine L8 hyFu 0 0 M q9 hq9 _ _ ls hP hS (lv_sub hl [2, 3, 1, 0] rfl) ?_
  intro y1 y2 NM3 e9 H locs ls hP hS hl
  subst e9
  try dsimp only at h
  refine lv_iload_n hx hb dX9_removeLines_50 rfl (lv_at hl 2 rfl) ?_
  exact hy_iret (T := (NM3, Mr, Mo)) hx hb hr hlocks hP hS (Nat.zero_le _) (Nat.zero_le _) (by rw [← (Option.some.inj h)] <;> rfl) dX9_removeLines_51
set_option maxHeartbeats 1000000 in
set_option maxRecDepth 100000 in
theorem c_Ve_isLinked {l : Launch} {G : hyG} (Mr Mo : hyM) (a1 : Int32) (a2 : Int32) (a3 : Int32) (M : hyM) {res : Bool} (h : Ve_isLinked a1 a2 a3 M = res) : hyC l yX9_isLinked (.code yX9_isLinked cX9_isLinked 4 (some .boolean)) 2 45 (0) G [.ref (adr G 9), .int a1, .int a2, .int a3] (M, Mr, Mo) (.inr (some (.int (bI res))), (M, Mr, Mo)) := by
  refine hy_of (by decide +kernel) (Nat.le_of_ble_eq_true rfl) ?_
  intro p e s m below meth c hx hb hml hown hts hr hlocks ht hX hP hS ls hl
  have hl : lv_has ls 4 [(0, .ref (adr G 9)), (1, .int a1), (2, .int a2), (3, .int a3)] := hl
  rw [Ve_isLinked] at h
  refine lv_aload_n hx hb dX9_isLinked_0 rfl (lv_at hl 0 rfl) ?_
  refine lv_iload_n hx hb dX9_isLinked_1 rfl (lv_at hl 1 rfl) ?_
  refine lv_iload_n hx hb dX9_isLinked_2 rfl (lv_at hl 2 rfl) ?_
  refine lv_iload_n hx hb dX9_isLinked_3 rfl (lv_at hl 3 rfl) ?_
  refine hy_ret (hy_rV0 (T := (M, Mr, Mo)) (v := some (.int (Ve_packedAt a1 a2 a3 M))) (T2 := (M, Mr, Mo)) (As := [.int a1, .int a2, .int a3]) (rest := []) (n := 0) hx hb hml hown hts hX hP hS hl (c_Ve_packedAt Mr Mo a1 a2 a3 M rfl) m_Ve_packedAt q_527 (hy_recv hX hP 9 8 (by decide) rfl rfl) rfl rfl (Nat.le_of_ble_eq_true rfl) dX9_isLinked_4 ⟨Nat.le_of_ble_eq_true rfl, Nat.le_of_ble_eq_true rfl⟩ ⟨Nat.zero_le _, Nat.zero_le _⟩) hS (fun H locs hP hS => ?_)
  refine lv_bipush (v := 11) hx hb dX9_isLinked_7 rfl ?_
  refine lv_ishr hx hb dX9_isLinked_9 ?_
  have J2 : ∀ (H : Heap) (locs : List Loc) (ls : Array Slot) (u1 : Int32), u1 = (bI (!decide (((Ve_packedAt a1 a2 a3 M) >>> (11 &&& 31)) = 0))) → va_P G.1 vwCl (wld G (M, Mr, Mo)) H → va_S (hyA G) s.heap H locs → lv_has ls 4 [(0, .ref (adr G 9)), (1, .int a1), (2, .int a2), (3, .int a3)] → W p l e { frames := 2, cells := 0, slots := 6 * 0, locals := 45 } s m ([.ref (adr G 9), .int a1, .int a2, .int a3] : List Value).toArray below meth c H locs 0 0 (vx_MQ below (hyQ G (.inr (some (.int (bI res))), (M, Mr, Mo))) (hyXQ G (.inr (some (.int (bI res))), (M, Mr, Mo))) ([.ref (adr G 9), .int a1, .int a2, .int a3] : List Value).toArray s 0 (6 * 0) (hyA G)) (F0 m 18 ls [.int u1]) := by
    intro H locs ls u1 eu1 hP hS hl
    subst eu1
    exact hy_zret (T := (M, Mr, Mo)) hx hb hr hlocks hP hS (Nat.zero_le _) (Nat.zero_le _) (bI_nar (!decide (((Ve_packedAt a1 a2 a3 M) >>> (11 &&& 31)) = 0))) (by rw [← h] <;> rfl) dX9_isLinked_18
  refine lv_if_eq (tgt := 17) hx hb dX9_isLinked_10 (by decide) (fun c1 => ?_) (fun c1 => ?_)
  · refine lv_iconst (v := 0) hx hb dX9_isLinked_17 rfl ?_
    exact J2 _ _ ls 0 (by rw [decide_eq_true c1] <;> rfl) hP hS (lv_sub hl [0, 1, 2, 3] rfl)
  · refine lv_iconst (v := 1) hx hb dX9_isLinked_13 rfl ?_
    refine lv_goto (tgt := 18) hx hb dX9_isLinked_14 (by decide) ?_
    exact J2 _ _ ls 1 (by rw [decide_eq_false c1] <;> rfl) hP hS (lv_sub hl [0, 1, 2, 3] rfl)
set_option maxHeartbeats 1000000 in
set_option maxRecDepth 100000 in
theorem c_Ve_wordsOf {l : Launch} {G : hyG} (Mr Mo : hyM) (a1 : Int32) (a2 : Int32) (M : hyM) {res : Int32} (h : Ve_wordsOf a1 a2 M = some res) : hyC l yX9_wordsOf (.code yX9_wordsOf cX9_wordsOf 5 (some .int)) 3 68 (0) G [.ref (adr G 9), .int a1, .int a2] (M, Mr, Mo) (.inr (some (.int res)), (M, Mr, Mo)) := by
  refine hy_of (by decide +kernel) (Nat.le_of_ble_eq_true rfl) ?_
  intro p e s m below meth c hx hb hml hown hts hr hlocks ht hX hP hS ls hl
  have hl : lv_has ls 5 [(0, .ref (adr G 9)), (1, .int a1), (2, .int a2)] := hl
  rw [Ve_wordsOf] at h
  refine lv_iconst (v := 0) hx hb dX9_wordsOf_0 rfl ?_
  refine lv_istore_n (lv' := [(3, .int 0), (0, .ref (adr G 9)), (1, .int a1), (2, .int a2)]) hx hb dX9_wordsOf_1 rfl hl (by decide) rfl (fun ls hl => ?_)
  refine lv_iconst (v := 0) hx hb dX9_wordsOf_2 rfl ?_
  refine lv_istore (lv' := [(4, .int 0), (3, .int 0), (0, .ref (adr G 9)), (1, .int a1), (2, .int a2)]) hx hb dX9_wordsOf_3 hl (by decide) rfl (fun ls hl => ?_)
  have L6 : ∀ (f : Nat) (x1 : Int32) (x2 : Int32) (qL : (Int32 × Int32)) (h : Ve_wordsOf_L5 a1 a2 M f x1 x2 = some qL) (H : Heap) (locs : List Loc) (ls : Array Slot) (hP : va_P G.1 vwCl (wld G (M, Mr, Mo)) H) (hS : va_S (hyA G) s.heap H locs) (hl : lv_has ls 5 [(0, .ref (adr G 9)), (1, .int a1), (2, .int a2), (3, .int x1), (4, .int x2)]) (kk : ∀ (y1 : Int32) (y2 : Int32), qL = (y1, y2) → ∀ (H : Heap) (locs : List Loc) (ls : Array Slot), va_P G.1 vwCl (wld G (M, Mr, Mo)) H → va_S (hyA G) s.heap H locs → lv_has ls 5 [(0, .ref (adr G 9)), (1, .int a1), (2, .int a2), (3, .int y1), (4, .int y2)] → W p l e { frames := 3, cells := 0, slots := 6 * 0, locals := 68 } s m ([.ref (adr G 9), .int a1, .int a2] : List Value).toArray below meth c H locs 0 0 (vx_MQ below (hyQ G (.inr (some (.int res)), (M, Mr, Mo))) (hyXQ G (.inr (some (.int res)), (M, Mr, Mo))) ([.ref (adr G 9), .int a1, .int a2] : List Value).toArray s 0 (6 * 0) (hyA G)) (F0 m 44 ls [])), W p l e { frames := 3, cells := 0, slots := 6 * 0, locals := 68 } s m ([.ref (adr G 9), .int a1, .int a2] : List Value).toArray below meth c H locs 0 0 (vx_MQ below (hyQ G (.inr (some (.int res)), (M, Mr, Mo))) (hyXQ G (.inr (some (.int res)), (M, Mr, Mo))) ([.ref (adr G 9), .int a1, .int a2] : List Value).toArray s 0 (6 * 0) (hyA G)) (F0 m 5 ls []) := by
    intro f
    induction f with
    | zero =>
      intro x1 x2 qL h H locs ls hP hS hl kk
      rw [Ve_wordsOf_L5] at h
      cases h
    | succ f ih =>
      intro x1 x2 qL h H locs ls hP hS hl kk
      rw [Ve_wordsOf_L5] at h
      refine lv_iload hx hb dX9_wordsOf_5 (lv_at hl 4 rfl) ?_
      refine lv_aload_n hx hb dX9_wordsOf_7 rfl (lv_at hl 0 rfl) ?_
      refine lv_iload_n hx hb dX9_wordsOf_8 rfl (lv_at hl 1 rfl) ?_
      refine lv_iload_n hx hb dX9_wordsOf_9 rfl (lv_at hl 2 rfl) ?_
      refine hy_ret (hy_rV0 (T := (M, Mr, Mo)) (v := some (.int (Ve_syllablesOf a1 a2 M))) (T2 := (M, Mr, Mo)) (As := [.int a1, .int a2]) (rest := [.int x2]) (n := 0) hx hb hml hown hts hX hP hS hl (c_Ve_syllablesOf Mr Mo a1 a2 M rfl) m_Ve_syllablesOf q_411 (hy_recv hX hP 9 8 (by decide) rfl rfl) rfl rfl (Nat.le_of_ble_eq_true rfl) dX9_wordsOf_10 ⟨Nat.le_of_ble_eq_true rfl, Nat.le_of_ble_eq_true rfl⟩ ⟨Nat.zero_le _, Nat.zero_le _⟩) hS (fun H locs hP hS => ?_)
      refine lv_icmp_ge (tgt := 44) hx hb dX9_wordsOf_13 (by decide) (fun c3 => ?_) (fun c3 => ?_)
      · rw [if_pos c3] at h
        exact kk x1 x2 (Option.some.inj h).symm _ _ ls hP hS (lv_sub hl [0, 1, 2, 3, 4] rfl)
      · rw [if_neg c3] at h
        refine lv_iload_n hx hb dX9_wordsOf_16 rfl (lv_at hl 3 rfl) ?_
        refine lv_aload_n hx hb dX9_wordsOf_17 rfl (lv_at hl 0 rfl) ?_
        refine lv_iload_n hx hb dX9_wordsOf_18 rfl (lv_at hl 1 rfl) ?_
        refine lv_iload_n hx hb dX9_wordsOf_19 rfl (lv_at hl 2 rfl) ?_
        refine lv_iload hx hb dX9_wordsOf_20 (lv_at hl 4 rfl) ?_
        refine hy_ret (hy_rV0 (T := (M, Mr, Mo)) (v := some (.int (bI (Ve_isLinked a1 a2 x2 M)))) (T2 := (M, Mr, Mo)) (As := [.int a1, .int a2, .int x2]) (rest := [.int x1]) (n := 0) hx hb hml hown hts hX hP hS hl (c_Ve_isLinked Mr Mo a1 a2 x2 M rfl) m_Ve_isLinked q_843 (hy_recv hX hP 9 8 (by decide) rfl rfl) rfl rfl (Nat.le_of_ble_eq_true rfl) dX9_wordsOf_22 ⟨Nat.le_of_ble_eq_true rfl, Nat.le_of_ble_eq_true rfl⟩ ⟨Nat.zero_le _, Nat.zero_le _⟩) hS (fun H locs hP hS => ?_)
        have J5 : ∀ (H : Heap) (locs : List Loc) (ls : Array Slot) (u1 : Int32), u1 = (bI (!(Ve_isLinked a1 a2 x2 M))) → va_P G.1 vwCl (wld G (M, Mr, Mo)) H → va_S (hyA G) s.heap H locs → lv_has ls 5 [(0, .ref (adr G 9)), (1, .int a1), (2, .int a2), (3, .int x1), (4, .int x2)] → W p l e { frames := 3, cells := 0, slots := 6 * 0, locals := 68 } s m ([.ref (adr G 9), .int a1, .int a2] : List Value).toArray below meth c H locs 0 0 (vx_MQ below (hyQ G (.inr (some (.int res)), (M, Mr, Mo))) (hyXQ G (.inr (some (.int res)), (M, Mr, Mo))) ([.ref (adr G 9), .int a1, .int a2] : List Value).toArray s 0 (6 * 0) (hyA G)) (F0 m 33 ls [.int u1, .int x1]) := by
          intro H locs ls u1 eu1 hP hS hl
          subst eu1
          refine hy_ret (hy_rSN (T := (M, Mr, Mo)) (v := some (.int (Hp_flag (!(Ve_isLinked a1 a2 x2 M)) M))) (T2 := (M, Mr, Mo)) (As := [.int (bI (!(Ve_isLinked a1 a2 x2 M)))]) (rest := [.int x1]) (n := 0) hx hb hml hown hts hX hP hS hl (c_Hp_flag Mr Mo (!(Ve_isLinked a1 a2 x2 M)) M rfl) m_Hp_flag q_422 rfl rfl (Nat.le_of_ble_eq_true rfl) dX9_wordsOf_33 ⟨Nat.le_of_ble_eq_true rfl, Nat.le_of_ble_eq_true rfl⟩ ⟨Nat.zero_le _, Nat.zero_le _⟩) hS (fun H locs hP hS => ?_)
          refine lv_iadd hx hb dX9_wordsOf_36 ?_
          refine lv_istore_n (lv' := [(3, .int (x1 + (Hp_flag (!(Ve_isLinked a1 a2 x2 M)) M))), (0, .ref (adr G 9)), (1, .int a1), (2, .int a2), (4, .int x2)]) hx hb dX9_wordsOf_37 rfl hl (by decide) rfl (fun ls hl => ?_)
          refine lv_iinc (v := (x2 + 1)) (lv' := [(4, .int (x2 + 1)), (3, .int (x1 + (Hp_flag (!(Ve_isLinked a1 a2 x2 M)) M))), (0, .ref (adr G 9)), (1, .int a1), (2, .int a2)]) hx hb dX9_wordsOf_38 hl (k := 4) rfl rfl (by decide) rfl (fun ls hl => ?_)
          refine lv_goto (tgt := 5) hx hb dX9_wordsOf_41 (by decide) ?_
          exact ih (x1 + (Hp_flag (!(Ve_isLinked a1 a2 x2 M)) M)) (x2 + 1) _ h  _ _ ls hP hS (lv_sub hl [2, 3, 4, 1, 0] rfl) kk
        refine lv_if_ne (tgt := 32) hx hb dX9_wordsOf_25 (by decide) (fun c4 => ?_) (fun c4 => ?_)
        · refine lv_iconst (v := 0) hx hb dX9_wordsOf_32 rfl ?_
          exact J5 _ _ ls 0 (by rw [(bI_1 c4)] <;> rfl) hP hS (lv_sub hl [0, 1, 2, 3, 4] rfl)
        · refine lv_iconst (v := 1) hx hb dX9_wordsOf_28 rfl ?_
          refine lv_goto (tgt := 33) hx hb dX9_wordsOf_29 (by decide) ?_
          exact J5 _ _ ls 1 (by rw [(bI_z c4)] <;> rfl) hP hS (lv_sub hl [0, 1, 2, 3, 4] rfl)
  obtain ⟨q7, hq7, h⟩ := hy_bind h
  refine L6 hyFu 0 0 q7 hq7 _ _ ls hP hS (lv_sub hl [2, 3, 4, 1, 0] rfl) ?_
  intro y1 y2 e9 H locs ls hP hS hl
  subst e9
  try dsimp only at h
  refine lv_iload_n hx hb dX9_wordsOf_44 rfl (lv_at hl 3 rfl) ?_
  exact hy_iret (T := (M, Mr, Mo)) hx hb hr hlocks hP hS (Nat.zero_le _) (Nat.zero_le _) (by rw [← (Option.some.inj h)] <;> rfl) dX9_wordsOf_45
set_option maxHeartbeats 1000000 in
set_option maxRecDepth 100000 in
theorem c_Ve_longestOf {l : Launch} {G : hyG} (Mr Mo : hyM) (a1 : Int32) (a2 : Int32) (M : hyM) {res : Int32} (h : Ve_longestOf a1 a2 M = some res) : hyC l yX9_longestOf (.code yX9_longestOf cX9_longestOf 5 (some .int)) 3 68 (0) G [.ref (adr G 9), .int a1, .int a2] (M, Mr, Mo) (.inr (some (.int res)), (M, Mr, Mo)) := by
  refine hy_of (by decide +kernel) (Nat.le_of_ble_eq_true rfl) ?_
  intro p e s m below meth c hx hb hml hown hts hr hlocks ht hX hP hS ls hl
  have hl : lv_has ls 5 [(0, .ref (adr G 9)), (1, .int a1), (2, .int a2)] := hl
  rw [Ve_longestOf] at h
  refine lv_iconst (v := 0) hx hb dX9_longestOf_0 rfl ?_
  refine lv_istore_n (lv' := [(3, .int 0), (0, .ref (adr G 9)), (1, .int a1), (2, .int a2)]) hx hb dX9_longestOf_1 rfl hl (by decide) rfl (fun ls hl => ?_)
  refine lv_iconst (v := 0) hx hb dX9_longestOf_2 rfl ?_
  refine lv_istore (lv' := [(4, .int 0), (3, .int 0), (0, .ref (adr G 9)), (1, .int a1), (2, .int a2)]) hx hb dX9_longestOf_3 hl (by decide) rfl (fun ls hl => ?_)
  have L4 : ∀ (f : Nat) (x1 : Int32) (x2 : Int32) (qL : (Int32 × Int32)) (h : Ve_longestOf_L5 a1 a2 M f x1 x2 = some qL) (H : Heap) (locs : List Loc) (ls : Array Slot) (hP : va_P G.1 vwCl (wld G (M, Mr, Mo)) H) (hS : va_S (hyA G) s.heap H locs) (hl : lv_has ls 5 [(0, .ref (adr G 9)), (1, .int a1), (2, .int a2), (3, .int x1), (4, .int x2)]) (kk : ∀ (y1 : Int32) (y2 : Int32), qL = (y1, y2) → ∀ (H : Heap) (locs : List Loc) (ls : Array Slot), va_P G.1 vwCl (wld G (M, Mr, Mo)) H → va_S (hyA G) s.heap H locs → lv_has ls 5 [(0, .ref (adr G 9)), (1, .int a1), (2, .int a2), (3, .int y1), (4, .int y2)] → W p l e { frames := 3, cells := 0, slots := 6 * 0, locals := 68 } s m ([.ref (adr G 9), .int a1, .int a2] : List Value).toArray below meth c H locs 0 0 (vx_MQ below (hyQ G (.inr (some (.int res)), (M, Mr, Mo))) (hyXQ G (.inr (some (.int res)), (M, Mr, Mo))) ([.ref (adr G 9), .int a1, .int a2] : List Value).toArray s 0 (6 * 0) (hyA G)) (F0 m 35 ls [])), W p l e { frames := 3, cells := 0, slots := 6 * 0, locals := 68 } s m ([.ref (adr G 9), .int a1, .int a2] : List Value).toArray below meth c H locs 0 0 (vx_MQ below (hyQ G (.inr (some (.int res)), (M, Mr, Mo))) (hyXQ G (.inr (some (.int res)), (M, Mr, Mo))) ([.ref (adr G 9), .int a1, .int a2] : List Value).toArray s 0 (6 * 0) (hyA G)) (F0 m 5 ls []) := by
    intro f
    induction f with
    | zero =>
      intro x1 x2 qL h H locs ls hP hS hl kk
      rw [Ve_longestOf_L5] at h
      cases h
    | succ f ih =>
      intro x1 x2 qL h H locs ls hP hS hl kk
      rw [Ve_longestOf_L5] at h
      refine lv_iload hx hb dX9_longestOf_5 (lv_at hl 4 rfl) ?_
      refine lv_aload_n hx hb dX9_longestOf_7 rfl (lv_at hl 0 rfl) ?_
      refine lv_iload_n hx hb dX9_longestOf_8 rfl (lv_at hl 1 rfl) ?_
      refine lv_iload_n hx hb dX9_longestOf_9 rfl (lv_at hl 2 rfl) ?_
      refine hy_ret (hy_rV0 (T := (M, Mr, Mo)) (v := some (.int (Ve_syllablesOf a1 a2 M))) (T2 := (M, Mr, Mo)) (As := [.int a1, .int a2]) (rest := [.int x2]) (n := 0) hx hb hml hown hts hX hP hS hl (c_Ve_syllablesOf Mr Mo a1 a2 M rfl) m_Ve_syllablesOf q_411 (hy_recv hX hP 9 8 (by decide) rfl rfl) rfl rfl (Nat.le_of_ble_eq_true rfl) dX9_longestOf_10 ⟨Nat.le_of_ble_eq_true rfl, Nat.le_of_ble_eq_true rfl⟩ ⟨Nat.zero_le _, Nat.zero_le _⟩) hS (fun H locs hP hS => ?_)
      refine lv_icmp_ge (tgt := 35) hx hb dX9_longestOf_13 (by decide) (fun c3 => ?_) (fun c3 => ?_)
      · rw [if_pos c3] at h
        exact kk x1 x2 (Option.some.inj h).symm _ _ ls hP hS (lv_sub hl [0, 1, 2, 3, 4] rfl)
      · rw [if_neg c3] at h
        refine lv_iload_n hx hb dX9_longestOf_16 rfl (lv_at hl 3 rfl) ?_
        refine lv_aload_n hx hb dX9_longestOf_17 rfl (lv_at hl 0 rfl) ?_
        refine lv_iload_n hx hb dX9_longestOf_18 rfl (lv_at hl 1 rfl) ?_
        refine lv_iload_n hx hb dX9_longestOf_19 rfl (lv_at hl 2 rfl) ?_
        refine lv_iload hx hb dX9_longestOf_20 (lv_at hl 4 rfl) ?_
        refine hy_ret (hy_rV0 (T := (M, Mr, Mo)) (v := some (.int (Ve_lengthAt a1 a2 x2 M))) (T2 := (M, Mr, Mo)) (As := [.int a1, .int a2, .int x2]) (rest := [.int x1]) (n := 0) hx hb hml hown hts hX hP hS hl (c_Ve_lengthAt Mr Mo a1 a2 x2 M rfl) m_Ve_lengthAt q_523 (hy_recv hX hP 9 8 (by decide) rfl rfl) rfl rfl (Nat.le_of_ble_eq_true rfl) dX9_longestOf_22 ⟨Nat.le_of_ble_eq_true rfl, Nat.le_of_ble_eq_true rfl⟩ ⟨Nat.zero_le _, Nat.zero_le _⟩) hS (fun H locs hP hS => ?_)
        refine va_mmax hx hb (hml.trans hl.1.symm) hown (hts _ q_531) (hts _ q_532) (hts _ q_98) (hts _ q_533) (by decide) (Nat.le_of_ble_eq_true rfl) (Nat.zero_le _) (Nat.zero_le _) dX9_longestOf_25 ?_
        refine W.eq (g2 := F0 m 28 ls (.int (jmax x1 (Ve_lengthAt a1 a2 x2 M)) :: _)) rfl ?_
        refine lv_istore_n (lv' := [(3, .int (jmax x1 (Ve_lengthAt a1 a2 x2 M))), (0, .ref (adr G 9)), (1, .int a1), (2, .int a2), (4, .int x2)]) hx hb dX9_longestOf_28 rfl hl (by decide) rfl (fun ls hl => ?_)
        refine lv_iinc (v := (x2 + 1)) (lv' := [(4, .int (x2 + 1)), (3, .int (jmax x1 (Ve_lengthAt a1 a2 x2 M))), (0, .ref (adr G 9)), (1, .int a1), (2, .int a2)]) hx hb dX9_longestOf_29 hl (k := 4) rfl rfl (by decide) rfl (fun ls hl => ?_)
        refine lv_goto (tgt := 5) hx hb dX9_longestOf_32 (by decide) ?_
        exact ih (jmax x1 (Ve_lengthAt a1 a2 x2 M)) (x2 + 1) _ h  _ _ ls hP hS (lv_sub hl [2, 3, 4, 1, 0] rfl) kk
  obtain ⟨q5, hq5, h⟩ := hy_bind h
  refine L4 hyFu 0 0 q5 hq5 _ _ ls hP hS (lv_sub hl [2, 3, 4, 1, 0] rfl) ?_
  intro y1 y2 e9 H locs ls hP hS hl
  subst e9
  try dsimp only at h
  refine lv_iload_n hx hb dX9_longestOf_35 rfl (lv_at hl 3 rfl) ?_
  exact hy_iret (T := (M, Mr, Mo)) hx hb hr hlocks hP hS (Nat.zero_le _) (Nat.zero_le _) (by rw [← (Option.some.inj h)] <;> rfl) dX9_longestOf_36
set_option maxHeartbeats 1000000 in
set_option maxRecDepth 100000 in
theorem c_Ve_signAt {l : Launch} {G : hyG} (Mr Mo : hyM) (a1 : Int32) (a2 : Int32) (a3 : Int32) (M : hyM) {res : Int32} (h : Ve_signAt a1 a2 a3 M = res) : hyC l yX9_signAt (.code yX9_signAt cX9_signAt 4 (some .int)) 2 45 (0) G [.ref (adr G 9), .int a1, .int a2, .int a3] (M, Mr, Mo) (.inr (some (.int res)), (M, Mr, Mo)) := by
  refine hy_of (by decide +kernel) (Nat.le_of_ble_eq_true rfl) ?_
  intro p e s m below meth c hx hb hml hown hts hr hlocks ht hX hP hS ls hl
  have hl : lv_has ls 4 [(0, .ref (adr G 9)), (1, .int a1), (2, .int a2), (3, .int a3)] := hl
  rw [Ve_signAt] at h
  refine lv_aload_n hx hb dX9_signAt_0 rfl (lv_at hl 0 rfl) ?_
  refine lv_iload_n hx hb dX9_signAt_1 rfl (lv_at hl 1 rfl) ?_
  refine lv_iload_n hx hb dX9_signAt_2 rfl (lv_at hl 2 rfl) ?_
  refine lv_iload_n hx hb dX9_signAt_3 rfl (lv_at hl 3 rfl) ?_
  refine hy_ret (hy_rV0 (T := (M, Mr, Mo)) (v := some (.int (Ve_packedAt a1 a2 a3 M))) (T2 := (M, Mr, Mo)) (As := [.int a1, .int a2, .int a3]) (rest := []) (n := 0) hx hb hml hown hts hX hP hS hl (c_Ve_packedAt Mr Mo a1 a2 a3 M rfl) m_Ve_packedAt q_527 (hy_recv hX hP 9 8 (by decide) rfl rfl) rfl rfl (Nat.le_of_ble_eq_true rfl) dX9_signAt_4 ⟨Nat.le_of_ble_eq_true rfl, Nat.le_of_ble_eq_true rfl⟩ ⟨Nat.zero_le _, Nat.zero_le _⟩) hS (fun H locs hP hS => ?_)
  refine lv_bipush (v := 127) hx hb dX9_signAt_7 rfl ?_
  refine lv_iand hx hb dX9_signAt_9 ?_
  exact hy_iret (T := (M, Mr, Mo)) hx hb hr hlocks hP hS (Nat.zero_le _) (Nat.zero_le _) (by rw [← h] <;> rfl) dX9_signAt_10
set_option maxHeartbeats 1000000 in
set_option maxRecDepth 100000 in
theorem c_Hp_checkRange {l : Launch} {G : hyG} (hlt : l.stackTraces = false) (Mr Mo : hyM) (a1 : Int32) (a2 : Int32) (a3 : Int32) (M : hyM) {res : (Nat ⊕ Unit)} (h : Hp_checkRange a1 a2 a3 M = res) : hyC l yX10_checkRange (.code yX10_checkRange cX10_checkRange 3 none) 6 90 (hyNo res) G [.int a1, .int a2, .int a3] (M, Mr, Mo) (hyoU res, (M, Mr, Mo)) := by
  refine hy_of (by decide +kernel) (Nat.le_of_ble_eq_true rfl) ?_
  intro p e s m below meth c hx hb hml hown hts hr hlocks ht hX hP hS ls hl
  have hl : lv_has ls 3 [(0, .int a1), (1, .int a2), (2, .int a3)] := hl
  rw [Hp_checkRange] at h
  refine lv_iload_n hx hb dX10_checkRange_0 rfl (lv_at hl 0 rfl) ?_
  refine lv_iload_n hx hb dX10_checkRange_1 rfl (lv_at hl 1 rfl) ?_
  have K3 : ∀ (H : Heap) (locs : List Loc), (if a1 < a2 then true else (!decide (a1 ≤ a3))) = true → va_P G.1 vwCl (wld G (M, Mr, Mo)) H → va_S (hyA G) s.heap H locs → W p l e { frames := 6, cells := (hyNo res), slots := 6 * (hyNo res), locals := 90 } s m ([.int a1, .int a2, .int a3] : List Value).toArray below meth c H locs 0 0 (vx_MQ below (hyQ G (hyoU res, (M, Mr, Mo))) (hyXQ G (hyoU res, (M, Mr, Mo))) ([.int a1, .int a2, .int a3] : List Value).toArray s (hyNo res) (6 * (hyNo res)) (hyA G)) (F0 m 10 ls []) := by
    intro H locs cb hP hS
    rw [if_pos cb] at h
    exact hy_throwW (T := (M, Mr, Mo)) (k := 1) (text := "an argument is out of range") hlt hx hb hml hown hts ht hlocks hX hP hS hl hyAt_1 q_331 q_97 (by decide) dX10_checkRange_10 dX10_checkRange_13 dX10_checkRange_14 dX10_checkRange_17 dX10_checkRange_20 ⟨Nat.le_of_ble_eq_true rfl, Nat.le_of_ble_eq_true rfl⟩ ⟨by rw [← h]; exact Nat.le_of_ble_eq_true rfl, by rw [← h]; exact Nat.le_of_ble_eq_true rfl⟩ ⟨by rw [← h]; exact Nat.le_of_ble_eq_true rfl, by rw [← h]; exact Nat.le_of_ble_eq_true rfl⟩ (by rw [← h] <;> rfl)
  have K4 : ∀ (H : Heap) (locs : List Loc), ¬ (if a1 < a2 then true else (!decide (a1 ≤ a3))) = true → va_P G.1 vwCl (wld G (M, Mr, Mo)) H → va_S (hyA G) s.heap H locs → W p l e { frames := 6, cells := (hyNo res), slots := 6 * (hyNo res), locals := 90 } s m ([.int a1, .int a2, .int a3] : List Value).toArray below meth c H locs 0 0 (vx_MQ below (hyQ G (hyoU res, (M, Mr, Mo))) (hyXQ G (hyoU res, (M, Mr, Mo))) ([.int a1, .int a2, .int a3] : List Value).toArray s (hyNo res) (6 * (hyNo res)) (hyA G)) (F0 m 21 ls []) := by
    intro H locs cb hP hS
    rw [if_neg cb] at h
    exact hy_vret (T := (M, Mr, Mo)) hx hb hr hlocks hP hS (Nat.zero_le _) (Nat.zero_le _) (by rw [← h] <;> rfl) dX10_checkRange_21
  refine lv_icmp_lt (tgt := 10) hx hb dX10_checkRange_2 (by decide) (fun c1 => ?_) (fun c1 => ?_)
  · exact K3 _ _ (by rw [if_pos c1] <;> first | rfl | decide) hP hS
  · refine lv_iload_n hx hb dX10_checkRange_5 rfl (lv_at hl 0 rfl) ?_
    refine lv_iload_n hx hb dX10_checkRange_6 rfl (lv_at hl 2 rfl) ?_
    refine lv_icmp_le (tgt := 21) hx hb dX10_checkRange_7 (by decide) (fun c2 => ?_) (fun c2 => ?_)
    · exact K4 _ _ (by rw [if_neg c1, decide_eq_true c2] <;> first | rfl | decide) hP hS
    · exact K3 _ _ (by rw [if_neg c1, decide_eq_false c2] <;> first | rfl | decide) hP hS
set_option maxHeartbeats 1000000 in
set_option maxRecDepth 100000 in
theorem c_Hp_layOut {l : Launch} {G : hyG} (Mr Mo : hyM) (M : hyM) {res : hyM} (h : Hp_layOut M = some res) : hyC l yX10_layOut (.code yX10_layOut cX10_layOut 1 none) 5 118 (0) G [.ref (adr G 0)] (M, Mr, Mo) (.inr none, (res, Mr, Mo)) := by
  refine hy_of (by decide +kernel) (Nat.le_of_ble_eq_true rfl) ?_
  intro p e s m below meth c hx hb hml hown hts hr hlocks ht hX hP hS ls hl
  have hl : lv_has ls 1 [(0, .ref (adr G 0))] := hl
  rw [Hp_layOut] at h
  refine lv_aload_n hx hb dX10_layOut_0 rfl (lv_at hl 0 rfl) ?_
  refine hy_get (T := (M, Mr, Mo)) (o := 0) (k := 4) (v := .ref (adr G 12)) hx hb hown hts hX hP (by decide) rfl rfl inX10g (by decide) q_297 rfl dX10_layOut_1 ?_
  refine lv_aload_n hx hb dX10_layOut_4 rfl (lv_at hl 0 rfl) ?_
  refine hy_get (T := (M, Mr, Mo)) (o := 0) (k := 0) (v := .ref (adr G 1)) hx hb hown hts hX hP (by decide) rfl rfl inX10g (by decide) q_293 rfl dX10_layOut_5 ?_
  obtain ⟨M1, hM1, h⟩ := hy_bind h
  refine hy_ret (hy_rVN (T := (M, Mr, Mo)) (v := none) (T2 := (M1, Mr, Mo)) (As := [.ref (adr G 1)]) (rest := []) (n := 0) hx hb hml hown hts hX hP hS hl (c_Ph_find Mr Mo M hM1) m_Ph_find q_432 (hy_recv hX hP 12 5 (by decide) rfl rfl) rfl rfl (Nat.le_of_ble_eq_true rfl) dX10_layOut_8 ⟨Nat.le_of_ble_eq_true rfl, Nat.le_of_ble_eq_true rfl⟩ ⟨Nat.zero_le _, Nat.zero_le _⟩) hS (fun H locs hP hS => ?_)
  refine lv_aload_n hx hb dX10_layOut_11 rfl (lv_at hl 0 rfl) ?_
  refine hy_get (T := (M1, Mr, Mo)) (o := 0) (k := 2) (v := .ref (adr G 5)) hx hb hown hts hX hP (by decide) rfl rfl inX10g (by decide) q_295 rfl dX10_layOut_12 ?_
  refine lv_aload_n hx hb dX10_layOut_15 rfl (lv_at hl 0 rfl) ?_
  refine hy_get (T := (M1, Mr, Mo)) (o := 0) (k := 4) (v := .ref (adr G 12)) hx hb hown hts hX hP (by decide) rfl rfl inX10g (by decide) q_297 rfl dX10_layOut_16 ?_
  refine hy_getN (T := (M1, Mr, Mo)) (o := 12) (k := 5) (v := .int (M1.1 12 5)) hx hb hown hts hX hP (by decide) rfl rfl inX6g (by decide) q_204 rfl dX10_layOut_19 ?_
  obtain ⟨M2, hM2, h⟩ := hy_bind h
  refine hy_ret (hy_rVN (T := (M1, Mr, Mo)) (v := none) (T2 := (M2, Mr, Mo)) (As := [.int (M1.1 12 5)]) (rest := []) (n := 0) hx hb hml hown hts hX hP hS hl (c_Re_keepWithin Mr Mo (M1.1 12 5) M1 hM2) m_Re_keepWithin q_454 (hy_recv hX hP 5 6 (by decide) rfl rfl) rfl rfl (Nat.le_of_ble_eq_true rfl) dX10_layOut_22 ⟨Nat.le_of_ble_eq_true rfl, Nat.le_of_ble_eq_true rfl⟩ ⟨Nat.zero_le _, Nat.zero_le _⟩) hS (fun H locs hP hS => ?_)
  refine lv_aload_n hx hb dX10_layOut_25 rfl (lv_at hl 0 rfl) ?_
  refine hy_get (T := (M2, Mr, Mo)) (o := 0) (k := 5) (v := .ref (adr G 18)) hx hb hown hts hX hP (by decide) rfl rfl inX10g (by decide) q_298 rfl dX10_layOut_26 ?_
  refine lv_aload_n hx hb dX10_layOut_29 rfl (lv_at hl 0 rfl) ?_
  refine hy_get (T := (M2, Mr, Mo)) (o := 0) (k := 4) (v := .ref (adr G 12)) hx hb hown hts hX hP (by decide) rfl rfl inX10g (by decide) q_297 rfl dX10_layOut_30 ?_
  refine hy_getN (T := (M2, Mr, Mo)) (o := 12) (k := 5) (v := .int (M2.1 12 5)) hx hb hown hts hX hP (by decide) rfl rfl inX6g (by decide) q_204 rfl dX10_layOut_33 ?_
  refine lv_aload_n hx hb dX10_layOut_36 rfl (lv_at hl 0 rfl) ?_
  refine hy_get (T := (M2, Mr, Mo)) (o := 0) (k := 2) (v := .ref (adr G 5)) hx hb hown hts hX hP (by decide) rfl rfl inX10g (by decide) q_295 rfl dX10_layOut_37 ?_
  obtain ⟨M3, hM3, h⟩ := hy_bind h
  refine hy_ret (hy_rVN (T := (M2, Mr, Mo)) (v := none) (T2 := (M3, Mr, Mo)) (As := [.int (M2.1 12 5), .ref (adr G 5)]) (rest := []) (n := 0) hx hb hml hown hts hX hP hS hl (c_Or_find Mr Mo (M2.1 12 5) M2 hM3) m_Or_find q_464 (hy_recv hX hP 18 4 (by decide) rfl rfl) rfl rfl (Nat.le_of_ble_eq_true rfl) dX10_layOut_40 ⟨Nat.le_of_ble_eq_true rfl, Nat.le_of_ble_eq_true rfl⟩ ⟨Nat.zero_le _, Nat.zero_le _⟩) hS (fun H locs hP hS => ?_)
  refine lv_aload_n hx hb dX10_layOut_43 rfl (lv_at hl 0 rfl) ?_
  refine hy_get (T := (M3, Mr, Mo)) (o := 0) (k := 6) (v := .ref (adr G 21)) hx hb hown hts hX hP (by decide) rfl rfl inX10g (by decide) q_299 rfl dX10_layOut_44 ?_
  refine lv_aload_n hx hb dX10_layOut_47 rfl (lv_at hl 0 rfl) ?_
  refine hy_get (T := (M3, Mr, Mo)) (o := 0) (k := 4) (v := .ref (adr G 12)) hx hb hown hts hX hP (by decide) rfl rfl inX10g (by decide) q_297 rfl dX10_layOut_48 ?_
  refine lv_aload_n hx hb dX10_layOut_51 rfl (lv_at hl 0 rfl) ?_
  refine hy_get (T := (M3, Mr, Mo)) (o := 0) (k := 5) (v := .ref (adr G 18)) hx hb hown hts hX hP (by decide) rfl rfl inX10g (by decide) q_298 rfl dX10_layOut_52 ?_
  refine lv_aload_n hx hb dX10_layOut_55 rfl (lv_at hl 0 rfl) ?_
  refine hy_get (T := (M3, Mr, Mo)) (o := 0) (k := 3) (v := .ref (adr G 9)) hx hb hown hts hX hP (by decide) rfl rfl inX10g (by decide) q_296 rfl dX10_layOut_56 ?_
  obtain ⟨M4, hM4, h⟩ := hy_bind h
  refine hy_ret (hy_rVN (T := (M3, Mr, Mo)) (v := none) (T2 := (M4, Mr, Mo)) (As := [.ref (adr G 12), .ref (adr G 18), .ref (adr G 9)]) (rest := []) (n := 0) hx hb hml hown hts hX hP hS hl (c_Co_findWidths Mr Mo M3 hM4) m_Co_findWidths q_494 (hy_recv hX hP 21 2 (by decide) rfl rfl) rfl rfl (Nat.le_of_ble_eq_true rfl) dX10_layOut_59 ⟨Nat.le_of_ble_eq_true rfl, Nat.le_of_ble_eq_true rfl⟩ ⟨Nat.zero_le _, Nat.zero_le _⟩) hS (fun H locs hP hS => ?_)
  refine lv_aload_n hx hb dX10_layOut_62 rfl (lv_at hl 0 rfl) ?_
  refine hy_get (T := (M4, Mr, Mo)) (o := 0) (k := 6) (v := .ref (adr G 21)) hx hb hown hts hX hP (by decide) rfl rfl inX10g (by decide) q_299 rfl dX10_layOut_63 ?_
  refine lv_aload_n hx hb dX10_layOut_66 rfl (lv_at hl 0 rfl) ?_
  refine hy_get (T := (M4, Mr, Mo)) (o := 0) (k := 4) (v := .ref (adr G 12)) hx hb hown hts hX hP (by decide) rfl rfl inX10g (by decide) q_297 rfl dX10_layOut_67 ?_
  refine lv_aload_n hx hb dX10_layOut_70 rfl (lv_at hl 0 rfl) ?_
  refine hy_get (T := (M4, Mr, Mo)) (o := 0) (k := 9) (v := .int (M4.1 0 9)) hx hb hown hts hX hP (by decide) rfl rfl inX10g (by decide) q_302 rfl dX10_layOut_71 ?_
  obtain ⟨M5, hM5, h⟩ := hy_bind h
  refine hy_ret (hy_rVN (T := (M4, Mr, Mo)) (v := none) (T2 := (M5, Mr, Mo)) (As := [.ref (adr G 12), .int (M4.1 0 9)]) (rest := []) (n := 0) hx hb hml hown hts hX hP hS hl (c_Co_findSystems Mr Mo (M4.1 0 9) M4 hM5) m_Co_findSystems q_544 (hy_recv hX hP 21 2 (by decide) rfl rfl) rfl rfl (Nat.le_of_ble_eq_true rfl) dX10_layOut_74 ⟨Nat.le_of_ble_eq_true rfl, Nat.le_of_ble_eq_true rfl⟩ ⟨Nat.zero_le _, Nat.zero_le _⟩) hS (fun H locs hP hS => ?_)
  exact hy_vret (T := (M5, Mr, Mo)) hx hb hr hlocks hP hS (Nat.zero_le _) (Nat.zero_le _) (by rw [← (Option.some.inj h)] <;> rfl) dX10_layOut_77
set_option maxHeartbeats 1000000 in
set_option maxRecDepth 100000 in
theorem c_Hp_begin {l : Launch} {G : hyG} (hlt : l.stackTraces = false) (Mr Mo : hyM) (a1 : Int32) (M : hyM) {res : ((Nat ⊕ Int32) × hyM)} (h : Hp_begin a1 M = some res) : hyC l yX10_begin (.code yX10_begin cX10_begin 4 (some .int)) 7 138 (hyNo res.1) G [.ref (adr G 0), .int a1] (M, Mr, Mo) (hyoI res.1, (res.2, Mr, Mo)) := by
  refine hy_of (by decide +kernel) (Nat.le_of_ble_eq_true rfl) ?_
  intro p e s m below meth c hx hb hml hown hts hr hlocks ht hX hP hS ls hl
  have hl : lv_has ls 4 [(0, .ref (adr G 0)), (1, .int a1)] := hl
  rw [Hp_begin] at h
  refine lv_iload_n hx hb dX10_begin_0 rfl (lv_at hl 1 rfl) ?_
  refine lv_iconst (v := 0) hx hb dX10_begin_1 rfl ?_
  refine lv_bipush (v := 11) hx hb dX10_begin_2 rfl ?_
  obtain ⟨u1, hu1⟩ : ∃ z, Hp_checkRange a1 0 11 M = z := ⟨_, rfl⟩
  rw [hu1] at h
  rcases u1 with k2 | r3
  all_goals try dsimp only at h
  · have er := (Option.some.inj h)
    refine hy_retX (ou := (.inl k2, (M, Mr, Mo))) (n := 1) (k := 0) (hy_rS (T := (M, Mr, Mo)) (ou := (.inl k2, (M, Mr, Mo))) (As := [.int a1, .int 0, .int 11]) (rest := []) (n := 1) hx hb hml hown hts hX hP hS hl (c_Hp_checkRange hlt Mr Mo a1 0 11 M (res := .inl k2) hu1) m_Hp_checkRange q_328 rfl rfl (Nat.le_of_ble_eq_true rfl) dX10_begin_4 ⟨Nat.le_of_ble_eq_true rfl, Nat.le_of_ble_eq_true rfl⟩ ⟨by rw [← er]; exact Nat.le_of_ble_eq_true rfl, by rw [← er]; exact Nat.le_of_ble_eq_true rfl⟩) hS (fun k hk q ce H locs hP hS hce hcv hcl => ?_) (fun v hv => by cases hv)
    cases hk
    exact hy_out (T := (M, Mr, Mo)) ht hlocks hP hS (by rw [← er]; exact Nat.le_of_ble_eq_true rfl) (by rw [← er]; exact Nat.le_of_ble_eq_true rfl) (by rw [← er] <;> rfl) hce hcv hcl
  · refine hy_retX (ou := (.inr (none), (M, Mr, Mo))) (n := 0) (k := 0) (hy_rS (T := (M, Mr, Mo)) (ou := (.inr (none), (M, Mr, Mo))) (As := [.int a1, .int 0, .int 11]) (rest := []) (n := 0) hx hb hml hown hts hX hP hS hl (c_Hp_checkRange hlt Mr Mo a1 0 11 M (res := .inr r3) hu1) m_Hp_checkRange q_328 rfl rfl (Nat.le_of_ble_eq_true rfl) dX10_begin_4 ⟨Nat.le_of_ble_eq_true rfl, Nat.le_of_ble_eq_true rfl⟩ ⟨Nat.zero_le _, Nat.zero_le _⟩) hS (fun k hk => by cases hk) (fun v hv H locs hP hS => ?_)
    cases hv
    refine lv_aload_n hx hb dX10_begin_7 rfl (lv_at hl 0 rfl) ?_
    refine hy_get (T := (M, Mr, Mo)) (o := 0) (k := 0) (v := .ref (adr G 1)) hx hb hown hts hX hP (by decide) rfl rfl inX10g (by decide) q_293 rfl dX10_begin_8 ?_
    refine hy_getN (T := (M, Mr, Mo)) (o := 1) (k := 4) (v := .int (M.1 1 4)) hx hb hown hts hX hP (by decide) rfl rfl inX8g (by decide) q_125 rfl dX10_begin_11 ?_
    refine lv_istore_n (lv' := [(2, .int (M.1 1 4)), (0, .ref (adr G 0)), (1, .int a1)]) hx hb dX10_begin_14 rfl hl (by decide) rfl (fun ls hl => ?_)
    refine lv_aload_n hx hb dX10_begin_15 rfl (lv_at hl 1 rfl) ?_
    refine hy_get (T := (M, Mr, Mo)) (o := 0) (k := 0) (v := .ref (adr G 1)) hx hb hown hts hX hP (by decide) rfl rfl inX10g (by decide) q_293 rfl dX10_begin_16 ?_
    refine lv_iload_n hx hb dX10_begin_19 rfl (lv_at hl 2 rfl) ?_
    refine hy_ret (hy_rVN (T := (M, Mr, Mo)) (v := none) (T2 := ((Tu_restart a1 M), Mr, Mo)) (As := [.int a1]) (rest := []) (n := 0) hx hb hml hown hts hX hP hS hl (c_Tu_restart Mr Mo a1 M rfl) m_Tu_restart q_399 (hy_recv hX hP 1 7 (by decide) rfl rfl) rfl rfl (Nat.le_of_ble_eq_true rfl) dX10_begin_20 ⟨Nat.le_of_ble_eq_true rfl, Nat.le_of_ble_eq_true rfl⟩ ⟨Nat.zero_le _, Nat.zero_le _⟩) hS (fun H locs hP hS => ?_)
    obtain ⟨M4, hM4, h⟩ := hy_bind h
    rw [Option.some.inj hM4] at hP
    refine lv_aload_n hx hb dX10_begin_23 rfl (lv_at hl 1 rfl) ?_
    refine hy_get (T := (M4, Mr, Mo)) (o := 0) (k := 1) (v := .ref (adr G 4)) hx hb hown hts hX hP (by decide) rfl rfl inX10g (by decide) q_294 rfl dX10_begin_24 ?_
    refine lv_iconst (v := 4) hx hb dX10_begin_27 rfl ?_
    refine lv_iconst (v := 0) hx hb dX10_begin_28 rfl ?_
    refine hy_ret (hy_rVN (T := (M4, Mr, Mo)) (v := none) (T2 := ((Ba_change 4 0 M4), Mr, Mo)) (As := [.int 4, .int 0]) (rest := []) (n := 0) hx hb hml hown hts hX hP hS hl (c_Ba_change Mr Mo 4 0 M4 rfl) m_Ba_change q_403 (hy_recv hX hP 4 0 (by decide) rfl rfl) rfl rfl (Nat.le_of_ble_eq_true rfl) dX10_begin_29 ⟨Nat.le_of_ble_eq_true rfl, Nat.le_of_ble_eq_true rfl⟩ ⟨Nat.zero_le _, Nat.zero_le _⟩) hS (fun H locs hP hS => ?_)
    obtain ⟨M5, hM5, h⟩ := hy_bind h
    rw [Option.some.inj hM5] at hP
    refine lv_aload_n hx hb dX10_begin_32 rfl (lv_at hl 1 rfl) ?_
    refine hy_get (T := (M5, Mr, Mo)) (o := 0) (k := 2) (v := .ref (adr G 5)) hx hb hown hts hX hP (by decide) rfl rfl inX10g (by decide) q_295 rfl dX10_begin_33 ?_
    refine lv_iconst (v := 0) hx hb dX10_begin_36 rfl ?_
    refine hy_putIN (ty := .int) (T := (M5, Mr, Mo)) (T2 := ((wI M5 5 3 0), Mr, Mo)) (o := 5) (k := 3) hx hb hown hts hX hP hS (by decide) rfl rfl rfl rfl inX7g tyX7_ok nmX7 (by decide) q_168 rfl rfl rfl rfl (Nat.le_of_ble_eq_true rfl) dX10_begin_37 (fun H locs hP hS => ?_)
    obtain ⟨M6, hM6, h⟩ := hy_bind h
    rw [Option.some.inj hM6] at hP
    refine lv_iconst (v := 0) hx hb dX10_begin_40 rfl ?_
    refine lv_istore_n (lv' := [(3, .int 0), (2, .int (M.1 1 4)), (0, .ref (adr G 0)), (1, .int a1)]) hx hb dX10_begin_41 rfl hl (by decide) rfl (fun ls hl => ?_)
    have L12 : ∀ (f : Nat) (x7 : Int32) (M8 : hyM) (qL : (Int32 × hyM)) (h : Hp_begin_L42  f x7 M8 = some qL) (H : Heap) (locs : List Loc) (ls : Array Slot) (hP : va_P G.1 vwCl (wld G (M8, Mr, Mo)) H) (hS : va_S (hyA G) s.heap H locs) (hl : lv_has ls 4 [(0, .ref (adr G 0)), (1, .int a1), (2, .int (M.1 1 4)), (3, .int x7)]) (kk : ∀ (y7 : Int32) (NM8 : hyM), qL = (y7, NM8) → ∀ (H : Heap) (locs : List Loc) (ls : Array Slot), va_P G.1 vwCl (wld G (NM8, Mr, Mo)) H → va_S (hyA G) s.heap H locs → lv_has ls 4 [(0, .ref (adr G 0)), (1, .int a1), (2, .int (M.1 1 4)), (3, .int y7)] → W p l e { frames := 7, cells := (hyNo res.1), slots := 6 * (hyNo res.1), locals := 138 } s m ([.ref (adr G 0), .int a1] : List Value).toArray below meth c H locs 0 0 (vx_MQ below (hyQ G (hyoI res.1, (res.2, Mr, Mo))) (hyXQ G (hyoI res.1, (res.2, Mr, Mo))) ([.ref (adr G 0), .int a1] : List Value).toArray s (hyNo res.1) (6 * (hyNo res.1)) (hyA G)) (F0 m 62 ls [])), W p l e { frames := 7, cells := (hyNo res.1), slots := 6 * (hyNo res.1), locals := 138 } s m ([.ref (adr G 0), .int a1] : List Value).toArray below meth c H locs 0 0 (vx_MQ below (hyQ G (hyoI res.1, (res.2, Mr, Mo))) (hyXQ G (hyoI res.1, (res.2, Mr, Mo))) ([.ref (adr G 0), .int a1] : List Value).toArray s (hyNo res.1) (6 * (hyNo res.1)) (hyA G)) (F0 m 42 ls []) := by
      intro f
      induction f with
      | zero =>
        intro x7 M8 qL h H locs ls hP hS hl kk
        rw [Hp_begin_L42] at h
        cases h
      | succ f ih =>
        intro x7 M8 qL h H locs ls hP hS hl kk
        rw [Hp_begin_L42] at h
        refine lv_iload_n hx hb dX10_begin_42 rfl (lv_at hl 3 rfl) ?_
        refine lv_iconst (v := 4) hx hb dX10_begin_43 rfl ?_
        refine lv_icmp_ge (tgt := 62) hx hb dX10_begin_44 (by decide) (fun c9 => ?_) (fun c9 => ?_)
        · rw [if_pos c9] at h
          exact kk x7 M8 (Option.some.inj h).symm _ _ ls hP hS (lv_sub hl [0, 1, 2, 3] rfl)
        · rw [if_neg c9] at h
          refine lv_aload_n hx hb dX10_begin_47 rfl (lv_at hl 0 rfl) ?_
          refine hy_get (T := (M8, Mr, Mo)) (o := 0) (k := 3) (v := .ref (adr G 9)) hx hb hown hts hX hP (by decide) rfl rfl inX10g (by decide) q_296 rfl dX10_begin_48 ?_
          refine lv_iload_n hx hb dX10_begin_51 rfl (lv_at hl 3 rfl) ?_
          obtain ⟨⟨v11, M10⟩, hM10, h⟩ := hy_bind h
          try dsimp only at h
          refine hy_ret (hy_rVN (T := (M8, Mr, Mo)) (v := some (.int v11)) (T2 := (M10, Mr, Mo)) (As := [.int x7]) (rest := []) (n := 0) hx hb hml hown hts hX hP hS hl (c_Ve_removeLines Mr Mo x7 M8 hM10) m_Ve_removeLines q_407 (hy_recv hX hP 9 8 (by decide) rfl rfl) rfl rfl (Nat.le_of_ble_eq_true rfl) dX10_begin_52 ⟨Nat.le_of_ble_eq_true rfl, Nat.le_of_ble_eq_true rfl⟩ ⟨Nat.zero_le _, Nat.zero_le _⟩) hS (fun H locs hP hS => ?_)
          refine lv_pop hx hb dX10_begin_55 rfl ?_
          refine lv_iinc (v := (x7 + 1)) (lv' := [(3, .int (x7 + 1)), (0, .ref (adr G 0)), (1, .int a1), (2, .int (M.1 1 4))]) hx hb dX10_begin_56 hl (k := 3) rfl rfl (by decide) rfl (fun ls hl => ?_)
          refine lv_goto (tgt := 42) hx hb dX10_begin_59 (by decide) ?_
          exact ih (x7 + 1) M10 _ h  _ _ ls hP hS (lv_sub hl [1, 2, 3, 0] rfl) kk
    obtain ⟨q15, hq15, h⟩ := hy_bind h
    refine L12 hyFu 0 M6 q15 hq15 _ _ ls hP hS (lv_sub hl [2, 3, 1, 0] rfl) ?_
    intro y7 NM8 e9 H locs ls hP hS hl
    subst e9
    try dsimp only at h
    refine lv_aload_n hx hb dX10_begin_62 rfl (lv_at hl 0 rfl) ?_
    refine lv_bipush (v := 80) hx hb dX10_begin_63 rfl ?_
    refine hy_putI (ty := .int) (T := (NM8, Mr, Mo)) (T2 := ((wI NM8 0 9 80), Mr, Mo)) (o := 0) (k := 9) hx hb hown hts hX hP hS (by decide) rfl rfl rfl rfl inX10g tyX10_ok nmX10 (by decide) q_302 rfl rfl rfl rfl (Nat.le_of_ble_eq_true rfl) dX10_begin_65 (fun H locs hP hS => ?_)
    obtain ⟨M13, hM13, h⟩ := hy_bind h
    rw [Option.some.inj hM13] at hP
    refine lv_aload_n hx hb dX10_begin_68 rfl (lv_at hl 0 rfl) ?_
    obtain ⟨M14, hM14, h⟩ := hy_bind h
    refine hy_ret (hy_rV0 (T := (M13, Mr, Mo)) (v := none) (T2 := (M14, Mr, Mo)) (As := []) (rest := []) (n := 0) hx hb hml hown hts hX hP hS hl (c_Hp_layOut Mr Mo M13 hM14) m_Hp_layOut q_428 (hy_recv hX hP 0 9 (by decide) rfl rfl) rfl rfl (Nat.le_of_ble_eq_true rfl) dX10_begin_69 ⟨Nat.le_of_ble_eq_true rfl, Nat.le_of_ble_eq_true rfl⟩ ⟨Nat.zero_le _, Nat.zero_le _⟩) hS (fun H locs hP hS => ?_)
    refine lv_iload_n hx hb dX10_begin_72 rfl (lv_at hl 2 rfl) ?_
    exact hy_iret (T := (M14, Mr, Mo)) hx hb hr hlocks hP hS (Nat.zero_le _) (Nat.zero_le _) (by rw [← (Option.some.inj h)] <;> rfl) dX10_begin_73
set_option maxHeartbeats 1000000 in
set_option maxRecDepth 100000 in
theorem c_Hp_checkPitch {l : Launch} {G : hyG} (hlt : l.stackTraces = false) (Mr Mo : hyM) (a1 : Int32) (M : hyM) {res : (Nat ⊕ Unit)} (h : Hp_checkPitch a1 M = res) : hyC l yX10_checkPitch (.code yX10_checkPitch cX10_checkPitch 1 none) 7 112 (hyNo res) G [.int a1] (M, Mr, Mo) (hyoU res, (M, Mr, Mo)) := by
  refine hy_of (by decide +kernel) (Nat.le_of_ble_eq_true rfl) ?_
  intro p e s m below meth c hx hb hml hown hts hr hlocks ht hX hP hS ls hl
  have hl : lv_has ls 1 [(0, .int a1)] := hl
  rw [Hp_checkPitch] at h
  refine lv_iload_n hx hb dX10_checkPitch_0 rfl (lv_at hl 0 rfl) ?_
  refine lv_bipush (v := 36) hx hb dX10_checkPitch_1 rfl ?_
  refine lv_bipush (v := 84) hx hb dX10_checkPitch_3 rfl ?_
  obtain ⟨u1, hu1⟩ : ∃ z, Hp_checkRange a1 36 84 M = z := ⟨_, rfl⟩
  rw [hu1] at h
  rcases u1 with k2 | r3
  all_goals try dsimp only at h
  · have er := h
    refine hy_retX (ou := (.inl k2, (M, Mr, Mo))) (n := 1) (k := 0) (hy_rS (T := (M, Mr, Mo)) (ou := (.inl k2, (M, Mr, Mo))) (As := [.int a1, .int 36, .int 84]) (rest := []) (n := 1) hx hb hml hown hts hX hP hS hl (c_Hp_checkRange hlt Mr Mo a1 36 84 M (res := .inl k2) hu1) m_Hp_checkRange q_328 rfl rfl (Nat.le_of_ble_eq_true rfl) dX10_checkPitch_5 ⟨Nat.le_of_ble_eq_true rfl, Nat.le_of_ble_eq_true rfl⟩ ⟨by rw [← er]; exact Nat.le_of_ble_eq_true rfl, by rw [← er]; exact Nat.le_of_ble_eq_true rfl⟩) hS (fun k hk q ce H locs hP hS hce hcv hcl => ?_) (fun v hv => by cases hv)
    cases hk
    exact hy_out (T := (M, Mr, Mo)) ht hlocks hP hS (by rw [← er]; exact Nat.le_of_ble_eq_true rfl) (by rw [← er]; exact Nat.le_of_ble_eq_true rfl) (by rw [← er] <;> rfl) hce hcv hcl
  · refine hy_retX (ou := (.inr (none), (M, Mr, Mo))) (n := 0) (k := 0) (hy_rS (T := (M, Mr, Mo)) (ou := (.inr (none), (M, Mr, Mo))) (As := [.int a1, .int 36, .int 84]) (rest := []) (n := 0) hx hb hml hown hts hX hP hS hl (c_Hp_checkRange hlt Mr Mo a1 36 84 M (res := .inr r3) hu1) m_Hp_checkRange q_328 rfl rfl (Nat.le_of_ble_eq_true rfl) dX10_checkPitch_5 ⟨Nat.le_of_ble_eq_true rfl, Nat.le_of_ble_eq_true rfl⟩ ⟨Nat.zero_le _, Nat.zero_le _⟩) hS (fun k hk => by cases hk) (fun v hv H locs hP hS => ?_)
    cases hv
    exact hy_vret (T := (M, Mr, Mo)) hx hb hr hlocks hP hS (Nat.zero_le _) (Nat.zero_le _) (by rw [← h] <;> rfl) dX10_checkPitch_8
set_option maxHeartbeats 1000000 in
set_option maxRecDepth 100000 in
theorem c_Hp_addNote {l : Launch} {G : hyG} (hlt : l.stackTraces = false) (Mr Mo : hyM) (a1 : Int32) (a2 : Int32) (a3 : Int32) (a4 : Int32) (a5 : Int32) (M : hyM) {res : ((Nat ⊕ Int32) × hyM)} (h : Hp_addNote a1 a2 a3 a4 a5 M = some res) : hyC l yX10_addNote (.code yX10_addNote cX10_addNote 6 (some .int)) 8 138 (hyNo res.1) G [.ref (adr G 0), .int a1, .int a2, .int a3, .int a4, .int a5] (M, Mr, Mo) (hyoI res.1, (res.2, Mr, Mo)) := by
  refine hy_of (by decide +kernel) (Nat.le_of_ble_eq_true rfl) ?_
  intro p e s m below meth c hx hb hml hown hts hr hlocks ht hX hP hS ls hl
  have hl : lv_has ls 6 [(0, .ref (adr G 0)), (1, .int a1), (2, .int a2), (3, .int a3), (4, .int a4), (5, .int a5)] := hl
  rw [Hp_addNote] at h
  refine lv_iload_n hx hb dX10_addNote_0 rfl (lv_at hl 1 rfl) ?_
  refine lv_iconst (v := 1) hx hb dX10_addNote_1 rfl ?_
  refine lv_bipush (v := 8) hx hb dX10_addNote_2 rfl ?_
  obtain ⟨u1, hu1⟩ : ∃ z, Hp_checkRange a1 1 8 M = z := ⟨_, rfl⟩
  rw [hu1] at h
  rcases u1 with k2 | r3
  all_goals try dsimp only at h
  · have er := (Option.some.inj h)
    refine hy_retX (ou := (.inl k2, (M, Mr, Mo))) (n := 1) (k := 0) (hy_rS (T := (M, Mr, Mo)) (ou := (.inl k2, (M, Mr, Mo))) (As := [.int a1, .int 1, .int 8]) (rest := []) (n := 1) hx hb hml hown hts hX hP hS hl (c_Hp_checkRange hlt Mr Mo a1 1 8 M (res := .inl k2) hu1) m_Hp_checkRange q_328 rfl rfl (Nat.le_of_ble_eq_true rfl) dX10_addNote_4 ⟨Nat.le_of_ble_eq_true rfl, Nat.le_of_ble_eq_true rfl⟩ ⟨by rw [← er]; exact Nat.le_of_ble_eq_true rfl, by rw [← er]; exact Nat.le_of_ble_eq_true rfl⟩) hS (fun k hk q ce H locs hP hS hce hcv hcl => ?_) (fun v hv => by cases hv)
    cases hk
    exact hy_out (T := (M, Mr, Mo)) ht hlocks hP hS (by rw [← er]; exact Nat.le_of_ble_eq_true rfl) (by rw [← er]; exact Nat.le_of_ble_eq_true rfl) (by rw [← er] <;> rfl) hce hcv hcl
  · refine hy_retX (ou := (.inr (none), (M, Mr, Mo))) (n := 0) (k := 0) (hy_rS (T := (M, Mr, Mo)) (ou := (.inr (none), (M, Mr, Mo))) (As := [.int a1, .int 1, .int 8]) (rest := []) (n := 0) hx hb hml hown hts hX hP hS hl (c_Hp_checkRange hlt Mr Mo a1 1 8 M (res := .inr r3) hu1) m_Hp_checkRange q_328 rfl rfl (Nat.le_of_ble_eq_true rfl) dX10_addNote_4 ⟨Nat.le_of_ble_eq_true rfl, Nat.le_of_ble_eq_true rfl⟩ ⟨Nat.zero_le _, Nat.zero_le _⟩) hS (fun k hk => by cases hk) (fun v hv H locs hP hS => ?_)
    cases hv
    refine lv_iload_n hx hb dX10_addNote_7 rfl (lv_at hl 2 rfl) ?_
    obtain ⟨u4, hu4⟩ : ∃ z, Hp_checkPitch a2 M = z := ⟨_, rfl⟩
    rw [hu4] at h
    rcases u4 with k5 | r6
    all_goals try dsimp only at h
    · have er := (Option.some.inj h)
      refine hy_retX (ou := (.inl k5, (M, Mr, Mo))) (n := 1) (k := 0) (hy_rS (T := (M, Mr, Mo)) (ou := (.inl k5, (M, Mr, Mo))) (As := [.int a2]) (rest := []) (n := 1) hx hb hml hown hts hX hP hS hl (c_Hp_checkPitch hlt Mr Mo a2 M (res := .inl k5) hu4) m_Hp_checkPitch q_991 rfl rfl (Nat.le_of_ble_eq_true rfl) dX10_addNote_8 ⟨Nat.le_of_ble_eq_true rfl, Nat.le_of_ble_eq_true rfl⟩ ⟨by rw [← er]; exact Nat.le_of_ble_eq_true rfl, by rw [← er]; exact Nat.le_of_ble_eq_true rfl⟩) hS (fun k hk q ce H locs hP hS hce hcv hcl => ?_) (fun v hv => by cases hv)
      cases hk
      exact hy_out (T := (M, Mr, Mo)) ht hlocks hP hS (by rw [← er]; exact Nat.le_of_ble_eq_true rfl) (by rw [← er]; exact Nat.le_of_ble_eq_true rfl) (by rw [← er] <;> rfl) hce hcv hcl
    · refine hy_retX (ou := (.inr (none), (M, Mr, Mo))) (n := 0) (k := 0) (hy_rS (T := (M, Mr, Mo)) (ou := (.inr (none), (M, Mr, Mo))) (As := [.int a2]) (rest := []) (n := 0) hx hb hml hown hts hX hP hS hl (c_Hp_checkPitch hlt Mr Mo a2 M (res := .inr r6) hu4) m_Hp_checkPitch q_991 rfl rfl (Nat.le_of_ble_eq_true rfl) dX10_addNote_8 ⟨Nat.le_of_ble_eq_true rfl, Nat.le_of_ble_eq_true rfl⟩ ⟨Nat.zero_le _, Nat.zero_le _⟩) hS (fun k hk => by cases hk) (fun v hv H locs hP hS => ?_)
      cases hv
      refine lv_iload_n hx hb dX10_addNote_11 rfl (lv_at hl 3 rfl) ?_
      obtain ⟨u7, hu7⟩ : ∃ z, Hp_checkPitch a3 M = z := ⟨_, rfl⟩
      rw [hu7] at h
      rcases u7 with k8 | r9
      all_goals try dsimp only at h
      · have er := (Option.some.inj h)
        refine hy_retX (ou := (.inl k8, (M, Mr, Mo))) (n := 1) (k := 0) (hy_rS (T := (M, Mr, Mo)) (ou := (.inl k8, (M, Mr, Mo))) (As := [.int a3]) (rest := []) (n := 1) hx hb hml hown hts hX hP hS hl (c_Hp_checkPitch hlt Mr Mo a3 M (res := .inl k8) hu7) m_Hp_checkPitch q_991 rfl rfl (Nat.le_of_ble_eq_true rfl) dX10_addNote_12 ⟨Nat.le_of_ble_eq_true rfl, Nat.le_of_ble_eq_true rfl⟩ ⟨by rw [← er]; exact Nat.le_of_ble_eq_true rfl, by rw [← er]; exact Nat.le_of_ble_eq_true rfl⟩) hS (fun k hk q ce H locs hP hS hce hcv hcl => ?_) (fun v hv => by cases hv)
        cases hk
        exact hy_out (T := (M, Mr, Mo)) ht hlocks hP hS (by rw [← er]; exact Nat.le_of_ble_eq_true rfl) (by rw [← er]; exact Nat.le_of_ble_eq_true rfl) (by rw [← er] <;> rfl) hce hcv hcl
      · refine hy_retX (ou := (.inr (none), (M, Mr, Mo))) (n := 0) (k := 0) (hy_rS (T := (M, Mr, Mo)) (ou := (.inr (none), (M, Mr, Mo))) (As := [.int a3]) (rest := []) (n := 0) hx hb hml hown hts hX hP hS hl (c_Hp_checkPitch hlt Mr Mo a3 M (res := .inr r9) hu7) m_Hp_checkPitch q_991 rfl rfl (Nat.le_of_ble_eq_true rfl) dX10_addNote_12 ⟨Nat.le_of_ble_eq_true rfl, Nat.le_of_ble_eq_true rfl⟩ ⟨Nat.zero_le _, Nat.zero_le _⟩) hS (fun k hk => by cases hk) (fun v hv H locs hP hS => ?_)
        cases hv
        refine lv_iload hx hb dX10_addNote_15 (lv_at hl 4 rfl) ?_
        obtain ⟨u10, hu10⟩ : ∃ z, Hp_checkPitch a4 M = z := ⟨_, rfl⟩
        rw [hu10] at h
        rcases u10 with k11 | r12
        all_goals try dsimp only at h
        · have er := (Option.some.inj h)
          refine hy_retX (ou := (.inl k11, (M, Mr, Mo))) (n := 1) (k := 0) (hy_rS (T := (M, Mr, Mo)) (ou := (.inl k11, (M, Mr, Mo))) (As := [.int a4]) (rest := []) (n := 1) hx hb hml hown hts hX hP hS hl (c_Hp_checkPitch hlt Mr Mo a4 M (res := .inl k11) hu10) m_Hp_checkPitch q_991 rfl rfl (Nat.le_of_ble_eq_true rfl) dX10_addNote_17 ⟨Nat.le_of_ble_eq_true rfl, Nat.le_of_ble_eq_true rfl⟩ ⟨by rw [← er]; exact Nat.le_of_ble_eq_true rfl, by rw [← er]; exact Nat.le_of_ble_eq_true rfl⟩) hS (fun k hk q ce H locs hP hS hce hcv hcl => ?_) (fun v hv => by cases hv)
          cases hk
          exact hy_out (T := (M, Mr, Mo)) ht hlocks hP hS (by rw [← er]; exact Nat.le_of_ble_eq_true rfl) (by rw [← er]; exact Nat.le_of_ble_eq_true rfl) (by rw [← er] <;> rfl) hce hcv hcl
        · refine hy_retX (ou := (.inr (none), (M, Mr, Mo))) (n := 0) (k := 0) (hy_rS (T := (M, Mr, Mo)) (ou := (.inr (none), (M, Mr, Mo))) (As := [.int a4]) (rest := []) (n := 0) hx hb hml hown hts hX hP hS hl (c_Hp_checkPitch hlt Mr Mo a4 M (res := .inr r12) hu10) m_Hp_checkPitch q_991 rfl rfl (Nat.le_of_ble_eq_true rfl) dX10_addNote_17 ⟨Nat.le_of_ble_eq_true rfl, Nat.le_of_ble_eq_true rfl⟩ ⟨Nat.zero_le _, Nat.zero_le _⟩) hS (fun k hk => by cases hk) (fun v hv H locs hP hS => ?_)
          cases hv
          refine lv_iload hx hb dX10_addNote_20 (lv_at hl 5 rfl) ?_
          obtain ⟨u13, hu13⟩ : ∃ z, Hp_checkPitch a5 M = z := ⟨_, rfl⟩
          rw [hu13] at h
          rcases u13 with k14 | r15
          all_goals try dsimp only at h
          · have er := (Option.some.inj h)
            refine hy_retX (ou := (.inl k14, (M, Mr, Mo))) (n := 1) (k := 0) (hy_rS (T := (M, Mr, Mo)) (ou := (.inl k14, (M, Mr, Mo))) (As := [.int a5]) (rest := []) (n := 1) hx hb hml hown hts hX hP hS hl (c_Hp_checkPitch hlt Mr Mo a5 M (res := .inl k14) hu13) m_Hp_checkPitch q_991 rfl rfl (Nat.le_of_ble_eq_true rfl) dX10_addNote_22 ⟨Nat.le_of_ble_eq_true rfl, Nat.le_of_ble_eq_true rfl⟩ ⟨by rw [← er]; exact Nat.le_of_ble_eq_true rfl, by rw [← er]; exact Nat.le_of_ble_eq_true rfl⟩) hS (fun k hk q ce H locs hP hS hce hcv hcl => ?_) (fun v hv => by cases hv)
            cases hk
            exact hy_out (T := (M, Mr, Mo)) ht hlocks hP hS (by rw [← er]; exact Nat.le_of_ble_eq_true rfl) (by rw [← er]; exact Nat.le_of_ble_eq_true rfl) (by rw [← er] <;> rfl) hce hcv hcl
          · refine hy_retX (ou := (.inr (none), (M, Mr, Mo))) (n := 0) (k := 0) (hy_rS (T := (M, Mr, Mo)) (ou := (.inr (none), (M, Mr, Mo))) (As := [.int a5]) (rest := []) (n := 0) hx hb hml hown hts hX hP hS hl (c_Hp_checkPitch hlt Mr Mo a5 M (res := .inr r15) hu13) m_Hp_checkPitch q_991 rfl rfl (Nat.le_of_ble_eq_true rfl) dX10_addNote_22 ⟨Nat.le_of_ble_eq_true rfl, Nat.le_of_ble_eq_true rfl⟩ ⟨Nat.zero_le _, Nat.zero_le _⟩) hS (fun k hk => by cases hk) (fun v hv H locs hP hS => ?_)
            cases hv
            refine lv_aload_n hx hb dX10_addNote_25 rfl (lv_at hl 0 rfl) ?_
            refine hy_get (T := (M, Mr, Mo)) (o := 0) (k := 0) (v := .ref (adr G 1)) hx hb hown hts hX hP (by decide) rfl rfl inX10g (by decide) q_293 rfl dX10_addNote_26 ?_
            refine hy_getN (T := (M, Mr, Mo)) (o := 1) (k := 4) (v := .int (M.1 1 4)) hx hb hown hts hX hP (by decide) rfl rfl inX8g (by decide) q_125 rfl dX10_addNote_29 ?_
            refine lv_bipush (v := 40) hx hb dX10_addNote_32 rfl ?_
            refine lv_icmp_lt (tgt := 47) hx hb dX10_addNote_34 (by decide) (fun c16 => ?_) (fun c16 => ?_)
            · rw [if_pos c16] at h
              refine lv_aload_n hx hb dX10_addNote_47 rfl (lv_at hl 0 rfl) ?_
              refine hy_get (T := (M, Mr, Mo)) (o := 0) (k := 0) (v := .ref (adr G 1)) hx hb hown hts hX hP (by decide) rfl rfl inX10g (by decide) q_293 rfl dX10_addNote_48 ?_
              refine lv_iload_n hx hb dX10_addNote_51 rfl (lv_at hl 1 rfl) ?_
              refine lv_iload_n hx hb dX10_addNote_52 rfl (lv_at hl 2 rfl) ?_
              refine lv_iload_n hx hb dX10_addNote_53 rfl (lv_at hl 3 rfl) ?_
              refine lv_iload hx hb dX10_addNote_54 (lv_at hl 4 rfl) ?_
              refine lv_iload hx hb dX10_addNote_56 (lv_at hl 5 rfl) ?_
              obtain ⟨M17, hM17, h⟩ := hy_bind h
              refine hy_ret (hy_rVN (T := (M, Mr, Mo)) (v := none) (T2 := (M17, Mr, Mo)) (As := [.int a1, .int a2, .int a3, .int a4, .int a5]) (rest := []) (n := 0) hx hb hml hown hts hX hP hS hl (c_Tu_push Mr Mo a1 a2 a3 a4 a5 M hM17) m_Tu_push q_995 (hy_recv hX hP 1 7 (by decide) rfl rfl) rfl rfl (Nat.le_of_ble_eq_true rfl) dX10_addNote_58 ⟨Nat.le_of_ble_eq_true rfl, Nat.le_of_ble_eq_true rfl⟩ ⟨Nat.zero_le _, Nat.zero_le _⟩) hS (fun H locs hP hS => ?_)
              refine lv_aload_n hx hb dX10_addNote_61 rfl (lv_at hl 0 rfl) ?_
              obtain ⟨M18, hM18, h⟩ := hy_bind h
              refine hy_ret (hy_rV0 (T := (M17, Mr, Mo)) (v := none) (T2 := (M18, Mr, Mo)) (As := []) (rest := []) (n := 0) hx hb hml hown hts hX hP hS hl (c_Hp_layOut Mr Mo M17 hM18) m_Hp_layOut q_428 (hy_recv hX hP 0 9 (by decide) rfl rfl) rfl rfl (Nat.le_of_ble_eq_true rfl) dX10_addNote_62 ⟨Nat.le_of_ble_eq_true rfl, Nat.le_of_ble_eq_true rfl⟩ ⟨Nat.zero_le _, Nat.zero_le _⟩) hS (fun H locs hP hS => ?_)
              refine lv_aload_n hx hb dX10_addNote_65 rfl (lv_at hl 0 rfl) ?_
              refine hy_get (T := (M18, Mr, Mo)) (o := 0) (k := 0) (v := .ref (adr G 1)) hx hb hown hts hX hP (by decide) rfl rfl inX10g (by decide) q_293 rfl dX10_addNote_66 ?_
              refine hy_getN (T := (M18, Mr, Mo)) (o := 1) (k := 4) (v := .int (M18.1 1 4)) hx hb hown hts hX hP (by decide) rfl rfl inX8g (by decide) q_125 rfl dX10_addNote_69 ?_
              refine lv_iconst (v := 1) hx hb dX10_addNote_72 rfl ?_
              refine lv_isub hx hb dX10_addNote_73 ?_
              exact hy_iret (T := (M18, Mr, Mo)) hx hb hr hlocks hP hS (Nat.zero_le _) (Nat.zero_le _) (by rw [← (Option.some.inj h)] <;> rfl) dX10_addNote_74
            · rw [if_neg c16] at h
              exact hy_throw (T := (M, Mr, Mo)) (k := 2) (text := "the tune has all its notes") hlt hx hb hml hown hts ht hlocks hX hP hS hl hyAt_2 q_883 q_99 (by decide) dX10_addNote_37 dX10_addNote_40 dX10_addNote_41 dX10_addNote_43 dX10_addNote_46 ⟨Nat.le_of_ble_eq_true rfl, Nat.le_of_ble_eq_true rfl⟩ ⟨by rw [← (Option.some.inj h)]; exact Nat.le_of_ble_eq_true rfl, by rw [← (Option.some.inj h)]; exact Nat.le_of_ble_eq_true rfl⟩ ⟨by rw [← (Option.some.inj h)]; exact Nat.le_of_ble_eq_true rfl, by rw [← (Option.some.inj h)]; exact Nat.le_of_ble_eq_true rfl⟩ (by rw [← (Option.some.inj h)] <;> rfl)
