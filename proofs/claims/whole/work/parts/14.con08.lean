set_option maxHeartbeats 1000000 in
set_option maxRecDepth 100000 in
theorem c_Hp_mixedVerse {l : Launch} {G : hyG} (Mr Mo : hyM) (a1 : Int64) (a2 : Int32) (M : hyM) {res : Int64} (h : Hp_mixedVerse a1 a2 M = some res) : hyC l yX10_mixedVerse (.code yX10_mixedVerse cX10_mixedVerse 8 (some .long)) 5 115 (0) G [.ref (adr G 0), .long a1, .int a2] (M, Mr, Mo) (.inr (some (.long res)), (M, Mr, Mo)) := by
  refine hy_of (by decide +kernel) (Nat.le_of_ble_eq_true rfl) ?_
  intro p e s m below meth c hx hb hml hown hts hr hlocks ht hX hP hS ls hl
  have hl : lv_has ls 8 [(0, .ref (adr G 0)), (1, .long a1), (3, .int a2)] := hl
  rw [Hp_mixedVerse] at h
  refine lv_lload_n hx hb dX10_mixedVerse_0 rfl (lv_at hl 1 rfl) ?_
  refine lv_aload_n hx hb dX10_mixedVerse_1 rfl (lv_at hl 0 rfl) ?_
  refine lv_iload_n hx hb dX10_mixedVerse_2 rfl (lv_at hl 2 rfl) ?_
  obtain ⟨v1, hv1, h⟩ := hy_bind h
  refine hy_ret (hy_rV0 (T := (M, Mr, Mo)) (v := some (.int v1)) (T2 := (M, Mr, Mo)) (As := [.int a2]) (rest := [.long a1]) (n := 0) hx hb hml hown hts hX hP hS hl (c_Hp_firstMisfit Mr Mo a2 M hv1) m_Hp_firstMisfit q_623 (hy_recv hX hP 0 9 (by decide) rfl rfl) rfl rfl (Nat.le_of_ble_eq_true rfl) dX10_mixedVerse_3 ⟨Nat.le_of_ble_eq_true rfl, Nat.le_of_ble_eq_true rfl⟩ ⟨Nat.zero_le _, Nat.zero_le _⟩) hS (fun H locs hP hS => ?_)
  refine lv_i2l (v := v1.toInt64) hx hb dX10_mixedVerse_6 rfl ?_
  refine hy_ret (hy_rS0 (T := (M, Mr, Mo)) (v := some (.long (Hp_mixed a1 v1.toInt64 M))) (T2 := (M, Mr, Mo)) (As := [.long a1, .long v1.toInt64]) (rest := []) (n := 0) hx hb hml hown hts hX hP hS hl (c_Hp_mixed Mr Mo a1 v1.toInt64 M rfl) m_Hp_mixed q_648 rfl rfl (Nat.le_of_ble_eq_true rfl) dX10_mixedVerse_7 ⟨Nat.le_of_ble_eq_true rfl, Nat.le_of_ble_eq_true rfl⟩ ⟨Nat.zero_le _, Nat.zero_le _⟩) hS (fun H locs hP hS => ?_)
  refine lv_lstore (lv' := [(4, .long (Hp_mixed a1 v1.toInt64 M)), (0, .ref (adr G 0)), (1, .long a1), (3, .int a2)]) hx hb dX10_mixedVerse_10 hl (by decide) rfl (fun ls hl => ?_)
  refine lv_iconst (v := 0) hx hb dX10_mixedVerse_12 rfl ?_
  refine lv_istore (lv' := [(6, .int 0), (4, .long (Hp_mixed a1 v1.toInt64 M)), (0, .ref (adr G 0)), (1, .long a1), (3, .int a2)]) hx hb dX10_mixedVerse_13 hl (by decide) rfl (fun ls hl => ?_)
  have L11 : ∀ (f : Nat) (x2 : Int64) (x3 : Int32) (qL : (Int64 × Int32)) (h : Hp_mixedVerse_L15 a2 M f x2 x3 = some qL) (H : Heap) (locs : List Loc) (ls : Array Slot) (hP : va_P G.1 vwCl (wld G (M, Mr, Mo)) H) (hS : va_S (hyA G) s.heap H locs) (hl : lv_has ls 8 [(0, .ref (adr G 0)), (1, .long a1), (3, .int a2), (4, .long x2), (6, .int x3)]) (kk : ∀ (y2 : Int64) (y3 : Int32), qL = (y2, y3) → ∀ (H : Heap) (locs : List Loc) (ls : Array Slot), va_P G.1 vwCl (wld G (M, Mr, Mo)) H → va_S (hyA G) s.heap H locs → lv_has ls 8 [(0, .ref (adr G 0)), (1, .long a1), (3, .int a2), (4, .long y2), (6, .int y3)] → W p l e { frames := 5, cells := 0, slots := 6 * 0, locals := 115 } s m ([.ref (adr G 0), .long a1, .int a2] : List Value).toArray below meth c H locs 0 0 (vx_MQ below (hyQ G (.inr (some (.long res)), (M, Mr, Mo))) (hyXQ G (.inr (some (.long res)), (M, Mr, Mo))) ([.ref (adr G 0), .long a1, .int a2] : List Value).toArray s 0 (6 * 0) (hyA G)) (F0 m 60 ls [])), W p l e { frames := 5, cells := 0, slots := 6 * 0, locals := 115 } s m ([.ref (adr G 0), .long a1, .int a2] : List Value).toArray below meth c H locs 0 0 (vx_MQ below (hyQ G (.inr (some (.long res)), (M, Mr, Mo))) (hyXQ G (.inr (some (.long res)), (M, Mr, Mo))) ([.ref (adr G 0), .long a1, .int a2] : List Value).toArray s 0 (6 * 0) (hyA G)) (F0 m 15 ls []) := by
    intro f
    induction f with
    | zero =>
      intro x2 x3 qL h H locs ls hP hS hl kk
      rw [Hp_mixedVerse_L15] at h
      cases h
    | succ f ih =>
      intro x2 x3 qL h H locs ls hP hS hl kk
      rw [Hp_mixedVerse_L15] at h
      refine lv_iload hx hb dX10_mixedVerse_15 (lv_at hl 4 rfl) ?_
      refine lv_bipush (v := 24) hx hb dX10_mixedVerse_17 rfl ?_
      refine lv_icmp_ge (tgt := 60) hx hb dX10_mixedVerse_19 (by decide) (fun c4 => ?_) (fun c4 => ?_)
      · rw [if_pos c4] at h
        exact kk x2 x3 (Option.some.inj h).symm _ _ ls hP hS (lv_sub hl [0, 1, 2, 3, 4] rfl)
      · rw [if_neg c4] at h
        refine lv_iconst (v := 0) hx hb dX10_mixedVerse_22 rfl ?_
        refine lv_istore (lv' := [(7, .int 0), (0, .ref (adr G 0)), (1, .long a1), (3, .int a2), (4, .long x2), (6, .int x3)]) hx hb dX10_mixedVerse_23 hl (by decide) rfl (fun ls hl => ?_)
        have L9 : ∀ (f : Nat) (x5 : Int64) (x6 : Int32) (qL : (Int64 × Int32)) (h : Hp_mixedVerse_L25 a2 M x3 f x5 x6 = some qL) (H : Heap) (locs : List Loc) (ls : Array Slot) (hP : va_P G.1 vwCl (wld G (M, Mr, Mo)) H) (hS : va_S (hyA G) s.heap H locs) (hl : lv_has ls 8 [(0, .ref (adr G 0)), (1, .long a1), (3, .int a2), (4, .long x5), (6, .int x3), (7, .int x6)]) (kk : ∀ (y5 : Int64) (y6 : Int32), qL = (y5, y6) → ∀ (H : Heap) (locs : List Loc) (ls : Array Slot), va_P G.1 vwCl (wld G (M, Mr, Mo)) H → va_S (hyA G) s.heap H locs → lv_has ls 8 [(0, .ref (adr G 0)), (1, .long a1), (3, .int a2), (4, .long y5), (6, .int x3), (7, .int y6)] → W p l e { frames := 5, cells := 0, slots := 6 * 0, locals := 115 } s m ([.ref (adr G 0), .long a1, .int a2] : List Value).toArray below meth c H locs 0 0 (vx_MQ below (hyQ G (.inr (some (.long res)), (M, Mr, Mo))) (hyXQ G (.inr (some (.long res)), (M, Mr, Mo))) ([.ref (adr G 0), .long a1, .int a2] : List Value).toArray s 0 (6 * 0) (hyA G)) (F0 m 54 ls [])), W p l e { frames := 5, cells := 0, slots := 6 * 0, locals := 115 } s m ([.ref (adr G 0), .long a1, .int a2] : List Value).toArray below meth c H locs 0 0 (vx_MQ below (hyQ G (.inr (some (.long res)), (M, Mr, Mo))) (hyXQ G (.inr (some (.long res)), (M, Mr, Mo))) ([.ref (adr G 0), .long a1, .int a2] : List Value).toArray s 0 (6 * 0) (hyA G)) (F0 m 25 ls []) := by
          intro f
          induction f with
          | zero =>
            intro x5 x6 qL h H locs ls hP hS hl kk
            rw [Hp_mixedVerse_L25] at h
            cases h
          | succ f ih =>
            intro x5 x6 qL h H locs ls hP hS hl kk
            rw [Hp_mixedVerse_L25] at h
            refine lv_iload hx hb dX10_mixedVerse_25 (lv_at hl 5 rfl) ?_
            refine lv_iconst (v := 3) hx hb dX10_mixedVerse_27 rfl ?_
            refine lv_icmp_ge (tgt := 54) hx hb dX10_mixedVerse_28 (by decide) (fun c7 => ?_) (fun c7 => ?_)
            · rw [if_pos c7] at h
              exact kk x5 x6 (Option.some.inj h).symm _ _ ls hP hS (lv_sub hl [0, 1, 2, 3, 4, 5] rfl)
            · rw [if_neg c7] at h
              refine lv_lload hx hb dX10_mixedVerse_31 (lv_at hl 3 rfl) ?_
              refine lv_aload_n hx hb dX10_mixedVerse_33 rfl (lv_at hl 0 rfl) ?_
              refine lv_iload_n hx hb dX10_mixedVerse_34 rfl (lv_at hl 2 rfl) ?_
              refine lv_iload hx hb dX10_mixedVerse_35 (lv_at hl 4 rfl) ?_
              refine lv_iload hx hb dX10_mixedVerse_37 (lv_at hl 5 rfl) ?_
              obtain ⟨v8, hv8, h⟩ := hy_bind h
              refine hy_ret (hy_rV0 (T := (M, Mr, Mo)) (v := some (.int v8)) (T2 := (M, Mr, Mo)) (As := [.int a2, .int x3, .int x6]) (rest := [.long x5]) (n := 0) hx hb hml hown hts hX hP hS hl (c_Hp_lineProperty Mr Mo a2 x3 x6 M hv8) m_Hp_lineProperty q_748 (hy_recv hX hP 0 9 (by decide) rfl rfl) rfl rfl (Nat.le_of_ble_eq_true rfl) dX10_mixedVerse_39 ⟨Nat.le_of_ble_eq_true rfl, Nat.le_of_ble_eq_true rfl⟩ ⟨Nat.zero_le _, Nat.zero_le _⟩) hS (fun H locs hP hS => ?_)
              refine lv_i2l (v := v8.toInt64) hx hb dX10_mixedVerse_42 rfl ?_
              refine hy_ret (hy_rS0 (T := (M, Mr, Mo)) (v := some (.long (Hp_mixed x5 v8.toInt64 M))) (T2 := (M, Mr, Mo)) (As := [.long x5, .long v8.toInt64]) (rest := []) (n := 0) hx hb hml hown hts hX hP hS hl (c_Hp_mixed Mr Mo x5 v8.toInt64 M rfl) m_Hp_mixed q_648 rfl rfl (Nat.le_of_ble_eq_true rfl) dX10_mixedVerse_43 ⟨Nat.le_of_ble_eq_true rfl, Nat.le_of_ble_eq_true rfl⟩ ⟨Nat.zero_le _, Nat.zero_le _⟩) hS (fun H locs hP hS => ?_)
              refine lv_lstore (lv' := [(4, .long (Hp_mixed x5 v8.toInt64 M)), (0, .ref (adr G 0)), (1, .long a1), (3, .int a2), (6, .int x3), (7, .int x6)]) hx hb dX10_mixedVerse_46 hl (by decide) rfl (fun ls hl => ?_)
              refine lv_iinc (v := (x6 + 1)) (lv' := [(7, .int (x6 + 1)), (4, .long (Hp_mixed x5 v8.toInt64 M)), (0, .ref (adr G 0)), (1, .long a1), (3, .int a2), (6, .int x3)]) hx hb dX10_mixedVerse_48 hl (k := 5) rfl rfl (by decide) rfl (fun ls hl => ?_)
              refine lv_goto (tgt := 25) hx hb dX10_mixedVerse_51 (by decide) ?_
              exact ih (Hp_mixed x5 v8.toInt64 M) (x6 + 1) _ h  _ _ ls hP hS (lv_sub hl [2, 3, 4, 1, 5, 0] rfl) kk
        obtain ⟨q10, hq10, h⟩ := hy_bind h
        refine L9 hyFu x2 0 q10 hq10 _ _ ls hP hS (lv_sub hl [1, 2, 3, 4, 5, 0] rfl) ?_
        intro y5 y6 e9 H locs ls hP hS hl
        subst e9
        try dsimp only at h
        refine lv_iinc (v := (x3 + 1)) (lv' := [(6, .int (x3 + 1)), (0, .ref (adr G 0)), (1, .long a1), (3, .int a2), (4, .long y5), (7, .int y6)]) hx hb dX10_mixedVerse_54 hl (k := 4) rfl rfl (by decide) rfl (fun ls hl => ?_)
        refine lv_goto (tgt := 15) hx hb dX10_mixedVerse_57 (by decide) ?_
        exact ih y5 (x3 + 1) _ h  _ _ ls hP hS (lv_sub hl [1, 2, 3, 4, 0] rfl) kk
  obtain ⟨q12, hq12, h⟩ := hy_bind h
  refine L11 hyFu (Hp_mixed a1 v1.toInt64 M) 0 q12 hq12 _ _ ls hP hS (lv_sub hl [2, 3, 4, 1, 0] rfl) ?_
  intro y2 y3 e9 H locs ls hP hS hl
  subst e9
  try dsimp only at h
  refine lv_lload hx hb dX10_mixedVerse_60 (lv_at hl 3 rfl) ?_
  exact hy_lret (T := (M, Mr, Mo)) hx hb hr hlocks hP hS (Nat.zero_le _) (Nat.zero_le _) (by rw [← (Option.some.inj h)] <;> rfl) dX10_mixedVerse_62
set_option maxHeartbeats 1000000 in
set_option maxRecDepth 100000 in
theorem c_Hp_mixedBelow {l : Launch} {G : hyG} (Mr Mo : hyM) (a1 : Int64) (a2 : Int32) (M : hyM) {res : Int64} (h : Hp_mixedBelow a1 a2 M = some res) : hyC l yX10_mixedBelow (.code yX10_mixedBelow cX10_mixedBelow 9 (some .long)) 4 94 (0) G [.ref (adr G 0), .long a1, .int a2] (M, Mr, Mo) (.inr (some (.long res)), (M, Mr, Mo)) := by
  refine hy_of (by decide +kernel) (Nat.le_of_ble_eq_true rfl) ?_
  intro p e s m below meth c hx hb hml hown hts hr hlocks ht hX hP hS ls hl
  have hl : lv_has ls 9 [(0, .ref (adr G 0)), (1, .long a1), (3, .int a2)] := hl
  rw [Hp_mixedBelow] at h
  refine lv_lload_n hx hb dX10_mixedBelow_0 rfl (lv_at hl 1 rfl) ?_
  refine lv_lstore (lv' := [(4, .long a1), (0, .ref (adr G 0)), (1, .long a1), (3, .int a2)]) hx hb dX10_mixedBelow_1 hl (by decide) rfl (fun ls hl => ?_)
  refine lv_aload_n hx hb dX10_mixedBelow_3 rfl (lv_at hl 1 rfl) ?_
  refine hy_get (T := (M, Mr, Mo)) (o := 0) (k := 5) (v := .ref (adr G 18)) hx hb hown hts hX hP (by decide) rfl rfl inX10g (by decide) q_359 rfl dX10_mixedBelow_4 ?_
  refine hy_getN (T := (M, Mr, Mo)) (o := 18) (k := 2) (v := .int (M.1 18 2)) hx hb hown hts hX hP (by decide) rfl rfl inX5g (by decide) q_289 rfl dX10_mixedBelow_7 ?_
  have J12 : ∀ (H : Heap) (locs : List Loc) (ls : Array Slot) (u1 : Int32), u1 = (if (M.1 18 2) ≤ 0 then 0 else (Ph_notesOf (Or_phraseAt 0 M) M)) → va_P G.1 vwCl (wld G (M, Mr, Mo)) H → va_S (hyA G) s.heap H locs → lv_has ls 9 [(0, .ref (adr G 0)), (1, .long a1), (3, .int a2), (4, .long a1)] → W p l e { frames := 4, cells := 0, slots := 6 * 0, locals := 94 } s m ([.ref (adr G 0), .long a1, .int a2] : List Value).toArray below meth c H locs 0 0 (vx_MQ below (hyQ G (.inr (some (.long res)), (M, Mr, Mo))) (hyXQ G (.inr (some (.long res)), (M, Mr, Mo))) ([.ref (adr G 0), .long a1, .int a2] : List Value).toArray s 0 (6 * 0) (hyA G)) (F0 m 32 ls [.int u1]) := by
    intro H locs ls u1 eu1 hP hS hl
    subst eu1
    refine lv_istore (lv' := [(6, .int (if (M.1 18 2) ≤ 0 then 0 else (Ph_notesOf (Or_phraseAt 0 M) M))), (0, .ref (adr G 0)), (1, .long a1), (3, .int a2), (4, .long a1)]) hx hb dX10_mixedBelow_32 hl (by decide) rfl (fun ls hl => ?_)
    refine lv_iconst (v := 0) hx hb dX10_mixedBelow_34 rfl ?_
    refine lv_istore (lv' := [(7, .int 0), (6, .int (if (M.1 18 2) ≤ 0 then 0 else (Ph_notesOf (Or_phraseAt 0 M) M))), (0, .ref (adr G 0)), (1, .long a1), (3, .int a2), (4, .long a1)]) hx hb dX10_mixedBelow_35 hl (by decide) rfl (fun ls hl => ?_)
    have L10 : ∀ (f : Nat) (x2 : Int64) (x3 : Int32) (qL : (Int64 × Int32)) (h : Hp_mixedBelow_L37 a2 M f x2 x3 = some qL) (H : Heap) (locs : List Loc) (ls : Array Slot) (hP : va_P G.1 vwCl (wld G (M, Mr, Mo)) H) (hS : va_S (hyA G) s.heap H locs) (hl : lv_has ls 9 [(0, .ref (adr G 0)), (1, .long a1), (3, .int a2), (4, .long x2), (6, .int (if (M.1 18 2) ≤ 0 then 0 else (Ph_notesOf (Or_phraseAt 0 M) M))), (7, .int x3)]) (kk : ∀ (y2 : Int64) (y3 : Int32), qL = (y2, y3) → ∀ (H : Heap) (locs : List Loc) (ls : Array Slot), va_P G.1 vwCl (wld G (M, Mr, Mo)) H → va_S (hyA G) s.heap H locs → lv_has ls 9 [(0, .ref (adr G 0)), (1, .long a1), (3, .int a2), (4, .long y2), (6, .int (if (M.1 18 2) ≤ 0 then 0 else (Ph_notesOf (Or_phraseAt 0 M) M))), (7, .int y3)] → W p l e { frames := 4, cells := 0, slots := 6 * 0, locals := 94 } s m ([.ref (adr G 0), .long a1, .int a2] : List Value).toArray below meth c H locs 0 0 (vx_MQ below (hyQ G (.inr (some (.long res)), (M, Mr, Mo))) (hyXQ G (.inr (some (.long res)), (M, Mr, Mo))) ([.ref (adr G 0), .long a1, .int a2] : List Value).toArray s 0 (6 * 0) (hyA G)) (F0 m 83 ls [])), W p l e { frames := 4, cells := 0, slots := 6 * 0, locals := 94 } s m ([.ref (adr G 0), .long a1, .int a2] : List Value).toArray below meth c H locs 0 0 (vx_MQ below (hyQ G (.inr (some (.long res)), (M, Mr, Mo))) (hyXQ G (.inr (some (.long res)), (M, Mr, Mo))) ([.ref (adr G 0), .long a1, .int a2] : List Value).toArray s 0 (6 * 0) (hyA G)) (F0 m 37 ls []) := by
      intro f
      induction f with
      | zero =>
        intro x2 x3 qL h H locs ls hP hS hl kk
        rw [Hp_mixedBelow_L37] at h
        cases h
      | succ f ih =>
        intro x2 x3 qL h H locs ls hP hS hl kk
        rw [Hp_mixedBelow_L37] at h
        refine lv_iload hx hb dX10_mixedBelow_37 (lv_at hl 5 rfl) ?_
        refine lv_iload hx hb dX10_mixedBelow_39 (lv_at hl 4 rfl) ?_
        refine lv_icmp_ge (tgt := 83) hx hb dX10_mixedBelow_41 (by decide) (fun c4 => ?_) (fun c4 => ?_)
        · rw [if_pos c4] at h
          exact kk x2 x3 (Option.some.inj h).symm _ _ ls hP hS (lv_sub hl [0, 1, 2, 3, 4, 5] rfl)
        · rw [if_neg c4] at h
          refine lv_iconst (v := 0) hx hb dX10_mixedBelow_44 rfl ?_
          refine lv_istore (lv' := [(8, .int 0), (0, .ref (adr G 0)), (1, .long a1), (3, .int a2), (4, .long x2), (6, .int (if (M.1 18 2) ≤ 0 then 0 else (Ph_notesOf (Or_phraseAt 0 M) M))), (7, .int x3)]) hx hb dX10_mixedBelow_45 hl (by decide) rfl (fun ls hl => ?_)
          have L8 : ∀ (f : Nat) (x5 : Int64) (x6 : Int32) (qL : (Int64 × Int32)) (h : Hp_mixedBelow_L47 a2 M x3 f x5 x6 = some qL) (H : Heap) (locs : List Loc) (ls : Array Slot) (hP : va_P G.1 vwCl (wld G (M, Mr, Mo)) H) (hS : va_S (hyA G) s.heap H locs) (hl : lv_has ls 9 [(0, .ref (adr G 0)), (1, .long a1), (3, .int a2), (4, .long x5), (6, .int (if (M.1 18 2) ≤ 0 then 0 else (Ph_notesOf (Or_phraseAt 0 M) M))), (7, .int x3), (8, .int x6)]) (kk : ∀ (y5 : Int64) (y6 : Int32), qL = (y5, y6) → ∀ (H : Heap) (locs : List Loc) (ls : Array Slot), va_P G.1 vwCl (wld G (M, Mr, Mo)) H → va_S (hyA G) s.heap H locs → lv_has ls 9 [(0, .ref (adr G 0)), (1, .long a1), (3, .int a2), (4, .long y5), (6, .int (if (M.1 18 2) ≤ 0 then 0 else (Ph_notesOf (Or_phraseAt 0 M) M))), (7, .int x3), (8, .int y6)] → W p l e { frames := 4, cells := 0, slots := 6 * 0, locals := 94 } s m ([.ref (adr G 0), .long a1, .int a2] : List Value).toArray below meth c H locs 0 0 (vx_MQ below (hyQ G (.inr (some (.long res)), (M, Mr, Mo))) (hyXQ G (.inr (some (.long res)), (M, Mr, Mo))) ([.ref (adr G 0), .long a1, .int a2] : List Value).toArray s 0 (6 * 0) (hyA G)) (F0 m 77 ls [])), W p l e { frames := 4, cells := 0, slots := 6 * 0, locals := 94 } s m ([.ref (adr G 0), .long a1, .int a2] : List Value).toArray below meth c H locs 0 0 (vx_MQ below (hyQ G (.inr (some (.long res)), (M, Mr, Mo))) (hyXQ G (.inr (some (.long res)), (M, Mr, Mo))) ([.ref (adr G 0), .long a1, .int a2] : List Value).toArray s 0 (6 * 0) (hyA G)) (F0 m 47 ls []) := by
            intro f
            induction f with
            | zero =>
              intro x5 x6 qL h H locs ls hP hS hl kk
              rw [Hp_mixedBelow_L47] at h
              cases h
            | succ f ih =>
              intro x5 x6 qL h H locs ls hP hS hl kk
              rw [Hp_mixedBelow_L47] at h
              refine lv_iload hx hb dX10_mixedBelow_47 (lv_at hl 6 rfl) ?_
              refine lv_iconst (v := 4) hx hb dX10_mixedBelow_49 rfl ?_
              refine lv_icmp_ge (tgt := 77) hx hb dX10_mixedBelow_50 (by decide) (fun c7 => ?_) (fun c7 => ?_)
              · rw [if_pos c7] at h
                exact kk x5 x6 (Option.some.inj h).symm _ _ ls hP hS (lv_sub hl [0, 1, 2, 3, 4, 5, 6] rfl)
              · rw [if_neg c7] at h
                refine lv_lload hx hb dX10_mixedBelow_53 (lv_at hl 3 rfl) ?_
                refine lv_aload_n hx hb dX10_mixedBelow_55 rfl (lv_at hl 0 rfl) ?_
                refine lv_iload_n hx hb dX10_mixedBelow_56 rfl (lv_at hl 2 rfl) ?_
                refine lv_iconst (v := 0) hx hb dX10_mixedBelow_57 rfl ?_
                refine lv_iload hx hb dX10_mixedBelow_58 (lv_at hl 5 rfl) ?_
                refine lv_iload hx hb dX10_mixedBelow_60 (lv_at hl 6 rfl) ?_
                refine hy_ret (hy_rV0 (T := (M, Mr, Mo)) (v := some (.int (Hp_belowProperty a2 0 x3 x6 M))) (T2 := (M, Mr, Mo)) (As := [.int a2, .int 0, .int x3, .int x6]) (rest := [.long x5]) (n := 0) hx hb hml hown hts hX hP hS hl (c_Hp_belowProperty Mr Mo a2 0 x3 x6 M rfl) m_Hp_belowProperty q_775 (hy_recv hX hP 0 9 (by decide) rfl rfl) rfl rfl (Nat.le_of_ble_eq_true rfl) dX10_mixedBelow_62 ⟨Nat.le_of_ble_eq_true rfl, Nat.le_of_ble_eq_true rfl⟩ ⟨Nat.zero_le _, Nat.zero_le _⟩) hS (fun H locs hP hS => ?_)
                refine lv_i2l (v := (Hp_belowProperty a2 0 x3 x6 M).toInt64) hx hb dX10_mixedBelow_65 rfl ?_
                refine hy_ret (hy_rS0 (T := (M, Mr, Mo)) (v := some (.long (Hp_mixed x5 ((Hp_belowProperty a2 0 x3 x6 M).toInt64) M))) (T2 := (M, Mr, Mo)) (As := [.long x5, .long ((Hp_belowProperty a2 0 x3 x6 M).toInt64)]) (rest := []) (n := 0) hx hb hml hown hts hX hP hS hl (c_Hp_mixed Mr Mo x5 ((Hp_belowProperty a2 0 x3 x6 M).toInt64) M rfl) m_Hp_mixed q_648 rfl rfl (Nat.le_of_ble_eq_true rfl) dX10_mixedBelow_66 ⟨Nat.le_of_ble_eq_true rfl, Nat.le_of_ble_eq_true rfl⟩ ⟨Nat.zero_le _, Nat.zero_le _⟩) hS (fun H locs hP hS => ?_)
                refine lv_lstore (lv' := [(4, .long (Hp_mixed x5 ((Hp_belowProperty a2 0 x3 x6 M).toInt64) M)), (0, .ref (adr G 0)), (1, .long a1), (3, .int a2), (6, .int (if (M.1 18 2) ≤ 0 then 0 else (Ph_notesOf (Or_phraseAt 0 M) M))), (7, .int x3), (8, .int x6)]) hx hb dX10_mixedBelow_69 hl (by decide) rfl (fun ls hl => ?_)
                refine lv_iinc (v := (x6 + 1)) (lv' := [(8, .int (x6 + 1)), (4, .long (Hp_mixed x5 ((Hp_belowProperty a2 0 x3 x6 M).toInt64) M)), (0, .ref (adr G 0)), (1, .long a1), (3, .int a2), (6, .int (if (M.1 18 2) ≤ 0 then 0 else (Ph_notesOf (Or_phraseAt 0 M) M))), (7, .int x3)]) hx hb dX10_mixedBelow_71 hl (k := 6) rfl rfl (by decide) rfl (fun ls hl => ?_)
                refine lv_goto (tgt := 47) hx hb dX10_mixedBelow_74 (by decide) ?_
                exact ih (Hp_mixed x5 ((Hp_belowProperty a2 0 x3 x6 M).toInt64) M) (x6 + 1) _ h  _ _ ls hP hS (lv_sub hl [2, 3, 4, 1, 5, 6, 0] rfl) kk
          obtain ⟨q9, hq9, h⟩ := hy_bind h
          refine L8 hyFu x2 0 q9 hq9 _ _ ls hP hS (lv_sub hl [1, 2, 3, 4, 5, 6, 0] rfl) ?_
          intro y5 y6 e9 H locs ls hP hS hl
          subst e9
          try dsimp only at h
          refine lv_iinc (v := (x3 + 1)) (lv' := [(7, .int (x3 + 1)), (0, .ref (adr G 0)), (1, .long a1), (3, .int a2), (4, .long y5), (6, .int (if (M.1 18 2) ≤ 0 then 0 else (Ph_notesOf (Or_phraseAt 0 M) M))), (8, .int y6)]) hx hb dX10_mixedBelow_77 hl (k := 5) rfl rfl (by decide) rfl (fun ls hl => ?_)
          refine lv_goto (tgt := 37) hx hb dX10_mixedBelow_80 (by decide) ?_
          exact ih y5 (x3 + 1) _ h  _ _ ls hP hS (lv_sub hl [1, 2, 3, 4, 5, 0] rfl) kk
    obtain ⟨q11, hq11, h⟩ := hy_bind h
    refine L10 hyFu a1 0 q11 hq11 _ _ ls hP hS (lv_sub hl [2, 3, 4, 5, 1, 0] rfl) ?_
    intro y2 y3 e9 H locs ls hP hS hl
    subst e9
    try dsimp only at h
    refine lv_lload hx hb dX10_mixedBelow_83 (lv_at hl 3 rfl) ?_
    exact hy_lret (T := (M, Mr, Mo)) hx hb hr hlocks hP hS (Nat.zero_le _) (Nat.zero_le _) (by rw [← (Option.some.inj h)] <;> rfl) dX10_mixedBelow_85
  refine lv_if_le (tgt := 31) hx hb dX10_mixedBelow_10 (by decide) (fun c1 => ?_) (fun c1 => ?_)
  · refine lv_iconst (v := 0) hx hb dX10_mixedBelow_31 rfl ?_
    exact J12 _ _ ls 0 (by rw [if_pos c1] <;> rfl) hP hS (lv_sub hl [1, 2, 3, 0] rfl)
  · refine lv_aload_n hx hb dX10_mixedBelow_13 rfl (lv_at hl 1 rfl) ?_
    refine hy_get (T := (M, Mr, Mo)) (o := 0) (k := 4) (v := .ref (adr G 12)) hx hb hown hts hX hP (by decide) rfl rfl inX10g (by decide) q_358 rfl dX10_mixedBelow_14 ?_
    refine lv_aload_n hx hb dX10_mixedBelow_17 rfl (lv_at hl 1 rfl) ?_
    refine hy_get (T := (M, Mr, Mo)) (o := 0) (k := 5) (v := .ref (adr G 18)) hx hb hown hts hX hP (by decide) rfl rfl inX10g (by decide) q_359 rfl dX10_mixedBelow_18 ?_
    refine lv_iconst (v := 0) hx hb dX10_mixedBelow_21 rfl ?_
    refine hy_ret (hy_rVN (T := (M, Mr, Mo)) (v := some (.int (Or_phraseAt 0 M))) (T2 := (M, Mr, Mo)) (As := [.int 0]) (rest := [.ref (adr G 12)]) (n := 0) hx hb hml hown hts hX hP hS hl (c_Or_phraseAt Mr Mo 0 M rfl) m_Or_phraseAt q_583 (hy_recv hX hP 18 4 (by decide) rfl rfl) rfl rfl (Nat.le_of_ble_eq_true rfl) dX10_mixedBelow_22 ⟨Nat.le_of_ble_eq_true rfl, Nat.le_of_ble_eq_true rfl⟩ ⟨Nat.zero_le _, Nat.zero_le _⟩) hS (fun H locs hP hS => ?_)
    refine hy_ret (hy_rVN (T := (M, Mr, Mo)) (v := some (.int (Ph_notesOf (Or_phraseAt 0 M) M))) (T2 := (M, Mr, Mo)) (As := [.int (Or_phraseAt 0 M)]) (rest := []) (n := 0) hx hb hml hown hts hX hP hS hl (c_Ph_notesOf Mr Mo (Or_phraseAt 0 M) M rfl) m_Ph_notesOf q_769 (hy_recv hX hP 12 5 (by decide) rfl rfl) rfl rfl (Nat.le_of_ble_eq_true rfl) dX10_mixedBelow_25 ⟨Nat.le_of_ble_eq_true rfl, Nat.le_of_ble_eq_true rfl⟩ ⟨Nat.zero_le _, Nat.zero_le _⟩) hS (fun H locs hP hS => ?_)
    refine lv_goto (tgt := 32) hx hb dX10_mixedBelow_28 (by decide) ?_
    exact J12 _ _ ls (Ph_notesOf (Or_phraseAt 0 M) M) (by rw [if_neg c1] <;> rfl) hP hS (lv_sub hl [1, 2, 3, 0] rfl)
set_option maxHeartbeats 1000000 in
set_option maxRecDepth 100000 in
theorem c_Hp_mixedBook {l : Launch} {G : hyG} (Mr Mo : hyM) (a1 : Int64) (M : hyM) {res : Int64} (h : Hp_mixedBook a1 M = some res) : hyC l yX10_mixedBook (.code yX10_mixedBook cX10_mixedBook 7 (some .long)) 4 86 (0) G [.ref (adr G 0), .long a1] (M, Mr, Mo) (.inr (some (.long res)), (M, Mr, Mo)) := by
  refine hy_of (by decide +kernel) (Nat.le_of_ble_eq_true rfl) ?_
  intro p e s m below meth c hx hb hml hown hts hr hlocks ht hX hP hS ls hl
  have hl : lv_has ls 7 [(0, .ref (adr G 0)), (1, .long a1)] := hl
  rw [Hp_mixedBook] at h
  refine lv_lload_n hx hb dX10_mixedBook_0 rfl (lv_at hl 1 rfl) ?_
  refine lv_lstore_n (lv' := [(3, .long a1), (0, .ref (adr G 0)), (1, .long a1)]) hx hb dX10_mixedBook_1 rfl hl (by decide) rfl (fun ls hl => ?_)
  refine lv_iconst (v := 0) hx hb dX10_mixedBook_2 rfl ?_
  refine lv_istore (lv' := [(5, .int 0), (3, .long a1), (0, .ref (adr G 0)), (1, .long a1)]) hx hb dX10_mixedBook_3 hl (by decide) rfl (fun ls hl => ?_)
  have L10 : ∀ (f : Nat) (x1 : Int64) (x2 : Int32) (qL : (Int64 × Int32)) (h : Hp_mixedBook_L5 M f x1 x2 = some qL) (H : Heap) (locs : List Loc) (ls : Array Slot) (hP : va_P G.1 vwCl (wld G (M, Mr, Mo)) H) (hS : va_S (hyA G) s.heap H locs) (hl : lv_has ls 7 [(0, .ref (adr G 0)), (1, .long a1), (3, .long x1), (5, .int x2)]) (kk : ∀ (y1 : Int64) (y2 : Int32), qL = (y1, y2) → ∀ (H : Heap) (locs : List Loc) (ls : Array Slot), va_P G.1 vwCl (wld G (M, Mr, Mo)) H → va_S (hyA G) s.heap H locs → lv_has ls 7 [(0, .ref (adr G 0)), (1, .long a1), (3, .long y1), (5, .int y2)] → W p l e { frames := 4, cells := 0, slots := 6 * 0, locals := 86 } s m ([.ref (adr G 0), .long a1] : List Value).toArray below meth c H locs 0 0 (vx_MQ below (hyQ G (.inr (some (.long res)), (M, Mr, Mo))) (hyXQ G (.inr (some (.long res)), (M, Mr, Mo))) ([.ref (adr G 0), .long a1] : List Value).toArray s 0 (6 * 0) (hyA G)) (F0 m 75 ls [])), W p l e { frames := 4, cells := 0, slots := 6 * 0, locals := 86 } s m ([.ref (adr G 0), .long a1] : List Value).toArray below meth c H locs 0 0 (vx_MQ below (hyQ G (.inr (some (.long res)), (M, Mr, Mo))) (hyXQ G (.inr (some (.long res)), (M, Mr, Mo))) ([.ref (adr G 0), .long a1] : List Value).toArray s 0 (6 * 0) (hyA G)) (F0 m 5 ls []) := by
    intro f
    induction f with
    | zero =>
      intro x1 x2 qL h H locs ls hP hS hl kk
      rw [Hp_mixedBook_L5] at h
      cases h
    | succ f ih =>
      intro x1 x2 qL h H locs ls hP hS hl kk
      rw [Hp_mixedBook_L5] at h
      refine lv_iload hx hb dX10_mixedBook_5 (lv_at hl 3 rfl) ?_
      refine lv_aload_n hx hb dX10_mixedBook_7 rfl (lv_at hl 0 rfl) ?_
      refine hy_get (T := (M, Mr, Mo)) (o := 0) (k := 7) (v := .ref (adr G 25)) hx hb hown hts hX hP (by decide) rfl rfl inX10g (by decide) q_361 rfl dX10_mixedBook_8 ?_
      refine hy_getN (T := (M, Mr, Mo)) (o := 25) (k := 2) (v := .int (M.1 25 2)) hx hb hown hts hX hP (by decide) rfl rfl inX1g (by decide) q_330 rfl dX10_mixedBook_11 ?_
      refine lv_icmp_ge (tgt := 75) hx hb dX10_mixedBook_14 (by decide) (fun c3 => ?_) (fun c3 => ?_)
      · rw [if_pos c3] at h
        exact kk x1 x2 (Option.some.inj h).symm _ _ ls hP hS (lv_sub hl [0, 1, 2, 3] rfl)
      · rw [if_neg c3] at h
        refine lv_lload_n hx hb dX10_mixedBook_17 rfl (lv_at hl 2 rfl) ?_
        refine lv_aload_n hx hb dX10_mixedBook_18 rfl (lv_at hl 0 rfl) ?_
        refine lv_iload hx hb dX10_mixedBook_19 (lv_at hl 3 rfl) ?_
        obtain ⟨v4, hv4, h⟩ := hy_bind h
        refine hy_ret (hy_rV0 (T := (M, Mr, Mo)) (v := some (.int v4)) (T2 := (M, Mr, Mo)) (As := [.int x2]) (rest := [.long x1]) (n := 0) hx hb hml hown hts hX hP hS hl (c_Hp_distanceOf Mr Mo x2 M hv4) m_Hp_distanceOf q_566 (hy_recv hX hP 0 9 (by decide) rfl rfl) rfl rfl (Nat.le_of_ble_eq_true rfl) dX10_mixedBook_21 ⟨Nat.le_of_ble_eq_true rfl, Nat.le_of_ble_eq_true rfl⟩ ⟨Nat.zero_le _, Nat.zero_le _⟩) hS (fun H locs hP hS => ?_)
        refine lv_i2l (v := v4.toInt64) hx hb dX10_mixedBook_24 rfl ?_
        refine hy_ret (hy_rS0 (T := (M, Mr, Mo)) (v := some (.long (Hp_mixed x1 v4.toInt64 M))) (T2 := (M, Mr, Mo)) (As := [.long x1, .long v4.toInt64]) (rest := []) (n := 0) hx hb hml hown hts hX hP hS hl (c_Hp_mixed Mr Mo x1 v4.toInt64 M rfl) m_Hp_mixed q_648 rfl rfl (Nat.le_of_ble_eq_true rfl) dX10_mixedBook_25 ⟨Nat.le_of_ble_eq_true rfl, Nat.le_of_ble_eq_true rfl⟩ ⟨Nat.zero_le _, Nat.zero_le _⟩) hS (fun H locs hP hS => ?_)
        refine lv_lstore_n (lv' := [(3, .long (Hp_mixed x1 v4.toInt64 M)), (0, .ref (adr G 0)), (1, .long a1), (5, .int x2)]) hx hb dX10_mixedBook_28 rfl hl (by decide) rfl (fun ls hl => ?_)
        refine lv_iconst (v := 0) hx hb dX10_mixedBook_29 rfl ?_
        refine lv_istore (lv' := [(6, .int 0), (3, .long (Hp_mixed x1 v4.toInt64 M)), (0, .ref (adr G 0)), (1, .long a1), (5, .int x2)]) hx hb dX10_mixedBook_30 hl (by decide) rfl (fun ls hl => ?_)
        have L8 : ∀ (f : Nat) (x5 : Int64) (x6 : Int32) (qL : (Int64 × Int32)) (h : Hp_mixedBook_L32 M x2 f x5 x6 = some qL) (H : Heap) (locs : List Loc) (ls : Array Slot) (hP : va_P G.1 vwCl (wld G (M, Mr, Mo)) H) (hS : va_S (hyA G) s.heap H locs) (hl : lv_has ls 7 [(0, .ref (adr G 0)), (1, .long a1), (3, .long x5), (5, .int x2), (6, .int x6)]) (kk : ∀ (y5 : Int64) (y6 : Int32), qL = (y5, y6) → ∀ (H : Heap) (locs : List Loc) (ls : Array Slot), va_P G.1 vwCl (wld G (M, Mr, Mo)) H → va_S (hyA G) s.heap H locs → lv_has ls 7 [(0, .ref (adr G 0)), (1, .long a1), (3, .long y5), (5, .int x2), (6, .int y6)] → W p l e { frames := 4, cells := 0, slots := 6 * 0, locals := 86 } s m ([.ref (adr G 0), .long a1] : List Value).toArray below meth c H locs 0 0 (vx_MQ below (hyQ G (.inr (some (.long res)), (M, Mr, Mo))) (hyXQ G (.inr (some (.long res)), (M, Mr, Mo))) ([.ref (adr G 0), .long a1] : List Value).toArray s 0 (6 * 0) (hyA G)) (F0 m 69 ls [])), W p l e { frames := 4, cells := 0, slots := 6 * 0, locals := 86 } s m ([.ref (adr G 0), .long a1] : List Value).toArray below meth c H locs 0 0 (vx_MQ below (hyQ G (.inr (some (.long res)), (M, Mr, Mo))) (hyXQ G (.inr (some (.long res)), (M, Mr, Mo))) ([.ref (adr G 0), .long a1] : List Value).toArray s 0 (6 * 0) (hyA G)) (F0 m 32 ls []) := by
          intro f
          induction f with
          | zero =>
            intro x5 x6 qL h H locs ls hP hS hl kk
            rw [Hp_mixedBook_L32] at h
            cases h
          | succ f ih =>
            intro x5 x6 qL h H locs ls hP hS hl kk
            rw [Hp_mixedBook_L32] at h
            refine lv_iload hx hb dX10_mixedBook_32 (lv_at hl 4 rfl) ?_
            refine lv_aload_n hx hb dX10_mixedBook_34 rfl (lv_at hl 0 rfl) ?_
            refine hy_get (T := (M, Mr, Mo)) (o := 0) (k := 7) (v := .ref (adr G 25)) hx hb hown hts hX hP (by decide) rfl rfl inX10g (by decide) q_361 rfl dX10_mixedBook_35 ?_
            refine lv_iload hx hb dX10_mixedBook_38 (lv_at hl 3 rfl) ?_
            refine hy_ret (hy_rVN (T := (M, Mr, Mo)) (v := some (.int (Bo_sizeOf x2 M))) (T2 := (M, Mr, Mo)) (As := [.int x2]) (rest := [.int x6]) (n := 0) hx hb hml hown hts hX hP hS hl (c_Bo_sizeOf Mr Mo x2 M rfl) m_Bo_sizeOf q_570 (hy_recv hX hP 25 1 (by decide) rfl rfl) rfl rfl (Nat.le_of_ble_eq_true rfl) dX10_mixedBook_40 ⟨Nat.le_of_ble_eq_true rfl, Nat.le_of_ble_eq_true rfl⟩ ⟨Nat.zero_le _, Nat.zero_le _⟩) hS (fun H locs hP hS => ?_)
            refine lv_icmp_ge (tgt := 69) hx hb dX10_mixedBook_43 (by decide) (fun c7 => ?_) (fun c7 => ?_)
            · rw [if_pos c7] at h
              exact kk x5 x6 (Option.some.inj h).symm _ _ ls hP hS (lv_sub hl [0, 1, 2, 3, 4] rfl)
            · rw [if_neg c7] at h
              refine lv_lload_n hx hb dX10_mixedBook_46 rfl (lv_at hl 2 rfl) ?_
              refine lv_aload_n hx hb dX10_mixedBook_47 rfl (lv_at hl 0 rfl) ?_
              refine hy_get (T := (M, Mr, Mo)) (o := 0) (k := 7) (v := .ref (adr G 25)) hx hb hown hts hX hP (by decide) rfl rfl inX10g (by decide) q_361 rfl dX10_mixedBook_48 ?_
              refine lv_iload hx hb dX10_mixedBook_51 (lv_at hl 3 rfl) ?_
              refine lv_iload hx hb dX10_mixedBook_53 (lv_at hl 4 rfl) ?_
              refine hy_ret (hy_rVN (T := (M, Mr, Mo)) (v := some (.int (Bo_numberAt x2 x6 M))) (T2 := (M, Mr, Mo)) (As := [.int x2, .int x6]) (rest := [.long x5]) (n := 0) hx hb hml hown hts hX hP hS hl (c_Bo_numberAt Mr Mo x2 x6 M rfl) m_Bo_numberAt q_575 (hy_recv hX hP 25 1 (by decide) rfl rfl) rfl rfl (Nat.le_of_ble_eq_true rfl) dX10_mixedBook_55 ⟨Nat.le_of_ble_eq_true rfl, Nat.le_of_ble_eq_true rfl⟩ ⟨Nat.zero_le _, Nat.zero_le _⟩) hS (fun H locs hP hS => ?_)
              refine lv_i2l (v := (Bo_numberAt x2 x6 M).toInt64) hx hb dX10_mixedBook_58 rfl ?_
              refine hy_ret (hy_rS0 (T := (M, Mr, Mo)) (v := some (.long (Hp_mixed x5 ((Bo_numberAt x2 x6 M).toInt64) M))) (T2 := (M, Mr, Mo)) (As := [.long x5, .long ((Bo_numberAt x2 x6 M).toInt64)]) (rest := []) (n := 0) hx hb hml hown hts hX hP hS hl (c_Hp_mixed Mr Mo x5 ((Bo_numberAt x2 x6 M).toInt64) M rfl) m_Hp_mixed q_648 rfl rfl (Nat.le_of_ble_eq_true rfl) dX10_mixedBook_59 ⟨Nat.le_of_ble_eq_true rfl, Nat.le_of_ble_eq_true rfl⟩ ⟨Nat.zero_le _, Nat.zero_le _⟩) hS (fun H locs hP hS => ?_)
              refine lv_lstore_n (lv' := [(3, .long (Hp_mixed x5 ((Bo_numberAt x2 x6 M).toInt64) M)), (0, .ref (adr G 0)), (1, .long a1), (5, .int x2), (6, .int x6)]) hx hb dX10_mixedBook_62 rfl hl (by decide) rfl (fun ls hl => ?_)
              refine lv_iinc (v := (x6 + 1)) (lv' := [(6, .int (x6 + 1)), (3, .long (Hp_mixed x5 ((Bo_numberAt x2 x6 M).toInt64) M)), (0, .ref (adr G 0)), (1, .long a1), (5, .int x2)]) hx hb dX10_mixedBook_63 hl (k := 4) rfl rfl (by decide) rfl (fun ls hl => ?_)
              refine lv_goto (tgt := 32) hx hb dX10_mixedBook_66 (by decide) ?_
              exact ih (Hp_mixed x5 ((Bo_numberAt x2 x6 M).toInt64) M) (x6 + 1) _ h  _ _ ls hP hS (lv_sub hl [2, 3, 1, 4, 0] rfl) kk
        obtain ⟨q9, hq9, h⟩ := hy_bind h
        refine L8 hyFu (Hp_mixed x1 v4.toInt64 M) 0 q9 hq9 _ _ ls hP hS (lv_sub hl [2, 3, 1, 4, 0] rfl) ?_
        intro y5 y6 e9 H locs ls hP hS hl
        subst e9
        try dsimp only at h
        refine lv_iinc (v := (x2 + 1)) (lv' := [(5, .int (x2 + 1)), (0, .ref (adr G 0)), (1, .long a1), (3, .long y5), (6, .int y6)]) hx hb dX10_mixedBook_69 hl (k := 3) rfl rfl (by decide) rfl (fun ls hl => ?_)
        refine lv_goto (tgt := 5) hx hb dX10_mixedBook_72 (by decide) ?_
        exact ih y5 (x2 + 1) _ h  _ _ ls hP hS (lv_sub hl [1, 2, 3, 0] rfl) kk
  obtain ⟨q11, hq11, h⟩ := hy_bind h
  refine L10 hyFu a1 0 q11 hq11 _ _ ls hP hS (lv_sub hl [2, 3, 1, 0] rfl) ?_
  intro y1 y2 e9 H locs ls hP hS hl
  subst e9
  try dsimp only at h
  refine lv_lload_n hx hb dX10_mixedBook_75 rfl (lv_at hl 2 rfl) ?_
  exact hy_lret (T := (M, Mr, Mo)) hx hb hr hlocks hP hS (Nat.zero_le _) (Nat.zero_le _) (by rw [← (Option.some.inj h)] <;> rfl) dX10_mixedBook_76
set_option maxHeartbeats 1000000 in
set_option maxRecDepth 100000 in
theorem c_Hp_bitsOf {l : Launch} {G : hyG} (Mr Mo : hyM) (a1 : UInt64) (M : hyM) {res : Int64} (h : Hp_bitsOf a1 M = some res) : hyC l yX10_bitsOf (.code yX10_bitsOf cX10_bitsOf 8 (some .long)) 0 0 (0) G [.double a1] (M, Mr, Mo) (.inr (some (.long res)), (M, Mr, Mo)) := by
  refine hy_of (by decide +kernel) (Nat.le_of_ble_eq_true rfl) ?_
  intro p e s m below meth c hx hb hml hown hts hr hlocks ht hX hP hS ls hl
  have hl : lv_has ls 8 [(0, .double a1)] := hl
  rw [Hp_bitsOf] at h
  refine lv_dload_n hx hb dX10_bitsOf_0 rfl (lv_at hl 0 rfl) ?_
  refine lv_dconst1 hx hb dX10_bitsOf_1 ?_
  refine lv_dcmp hx hb dX10_bitsOf_2 ?_
  refine lv_if_ge (tgt := 8) hx hb dX10_bitsOf_3 (by decide) (fun c1 => ?_) (fun c1 => ?_)
  · rw [if_pos c1] at h
    refine lv_dload_n hx hb dX10_bitsOf_8 rfl (lv_at hl 0 rfl) ?_
    refine lv_dstore_n (lv' := [(2, .double a1), (0, .double a1)]) hx hb dX10_bitsOf_9 rfl hl (by decide) rfl (fun ls hl => ?_)
    refine lv_ldc2 (v := 1023) hx hb hown (hts _ q_795) dX10_bitsOf_10 ?_
    refine lv_lstore (lv' := [(4, .long 1023), (2, .double a1), (0, .double a1)]) hx hb dX10_bitsOf_13 hl (by decide) rfl (fun ls hl => ?_)
    have L7 : ∀ (f : Nat) (x2 : UInt64) (x3 : Int64) (qL : (UInt64 × Int64)) (h : Hp_bitsOf_L15  f x2 x3 = some qL) (H : Heap) (locs : List Loc) (ls : Array Slot) (hP : va_P G.1 vwCl (wld G (M, Mr, Mo)) H) (hS : va_S (hyA G) s.heap H locs) (hl : lv_has ls 8 [(0, .double a1), (2, .double x2), (4, .long x3)]) (kk : ∀ (y2 : UInt64) (y3 : Int64), qL = (y2, y3) → ∀ (H : Heap) (locs : List Loc) (ls : Array Slot), va_P G.1 vwCl (wld G (M, Mr, Mo)) H → va_S (hyA G) s.heap H locs → lv_has ls 8 [(0, .double a1), (2, .double y2), (4, .long y3)] → W p l e { frames := 0, cells := 0, slots := 6 * 0, locals := 0 } s m ([.double a1] : List Value).toArray below meth c H locs 0 0 (vx_MQ below (hyQ G (.inr (some (.long res)), (M, Mr, Mo))) (hyXQ G (.inr (some (.long res)), (M, Mr, Mo))) ([.double a1] : List Value).toArray s 0 (6 * 0) (hyA G)) (F0 m 47 ls [])), W p l e { frames := 0, cells := 0, slots := 6 * 0, locals := 0 } s m ([.double a1] : List Value).toArray below meth c H locs 0 0 (vx_MQ below (hyQ G (.inr (some (.long res)), (M, Mr, Mo))) (hyXQ G (.inr (some (.long res)), (M, Mr, Mo))) ([.double a1] : List Value).toArray s 0 (6 * 0) (hyA G)) (F0 m 15 ls []) := by
      intro f
      induction f with
      | zero =>
        intro x2 x3 qL h H locs ls hP hS hl kk
        rw [Hp_bitsOf_L15] at h
        cases h
      | succ f ih =>
        intro x2 x3 qL h H locs ls hP hS hl kk
        rw [Hp_bitsOf_L15] at h
        refine lv_dload_n hx hb dX10_bitsOf_15 rfl (lv_at hl 1 rfl) ?_
        refine lv_ldc2d (v := 4611686018427387904) hx hb hown (hts _ q_796) dX10_bitsOf_16 ?_
        refine lv_dcmp hx hb dX10_bitsOf_19 ?_
        refine lv_if_lt (tgt := 47) hx hb dX10_bitsOf_20 (by decide) (fun c4 => ?_) (fun c4 => ?_)
        · rw [if_pos c4] at h
          exact kk x2 x3 (Option.some.inj h).symm _ _ ls hP hS (lv_sub hl [0, 1, 2] rfl)
        · rw [if_neg c4] at h
          refine lv_lload hx hb dX10_bitsOf_23 (lv_at hl 2 rfl) ?_
          refine lv_ldc2 (v := 2046) hx hb hown (hts _ q_797) dX10_bitsOf_25 ?_
          refine W.lcmp hx hb dX10_bitsOf_28 ?_
          refine lv_if_ge (tgt := 47) hx hb dX10_bitsOf_29 (by decide) (fun c5 => ?_) (fun c5 => ?_)
          · rw [if_pos c5] at h
            exact kk x2 x3 (Option.some.inj h).symm _ _ ls hP hS (lv_sub hl [0, 1, 2] rfl)
          · rw [if_neg c5] at h
            refine lv_dload_n hx hb dX10_bitsOf_32 rfl (lv_at hl 1 rfl) ?_
            refine lv_ldc2d (v := 4611686018427387904) hx hb hown (hts _ q_796) dX10_bitsOf_33 ?_
            obtain ⟨d6, hd6, h⟩ := hy_bind h
            obtain ⟨nd6, hd6⟩ := ckD_some hd6
            refine lv_ddiv hx hb dX10_bitsOf_36 nd6 ?_
            rw [hd6]
            refine lv_dstore_n (lv' := [(2, .double d6), (0, .double a1), (4, .long x3)]) hx hb dX10_bitsOf_37 rfl hl (by decide) rfl (fun ls hl => ?_)
            refine lv_lload hx hb dX10_bitsOf_38 (lv_at hl 2 rfl) ?_
            refine lv_lconst (v := 1) hx hb dX10_bitsOf_40 rfl ?_
            refine lv_ladd hx hb dX10_bitsOf_41 ?_
            refine lv_lstore (lv' := [(4, .long (x3 + 1)), (2, .double d6), (0, .double a1)]) hx hb dX10_bitsOf_42 hl (by decide) rfl (fun ls hl => ?_)
            refine lv_goto (tgt := 15) hx hb dX10_bitsOf_44 (by decide) ?_
            exact ih d6 (x3 + 1) _ h  _ _ ls hP hS (lv_sub hl [2, 1, 0] rfl) kk
    obtain ⟨q10, hq10, h⟩ := hy_bind h
    refine L7 hyFu a1 1023 q10 hq10 _ _ ls hP hS (lv_sub hl [2, 1, 0] rfl) ?_
    intro y2 y3 e9 H locs ls hP hS hl
    subst e9
    try dsimp only at h
    refine lv_dload_n hx hb dX10_bitsOf_47 rfl (lv_at hl 1 rfl) ?_
    refine lv_dconst1 hx hb dX10_bitsOf_48 ?_
    obtain ⟨d8, hd8, h⟩ := hy_bind h
    obtain ⟨nd8, hd8⟩ := ckD_some hd8
    refine lv_dsub hx hb dX10_bitsOf_49 nd8 ?_
    rw [hd8]
    refine lv_ldc2d (v := 4841369599423283200) hx hb hown (hts _ q_798) dX10_bitsOf_50 ?_
    obtain ⟨d9, hd9, h⟩ := hy_bind h
    obtain ⟨nd9, hd9⟩ := ckD_some hd9
    refine lv_dmul hx hb dX10_bitsOf_53 nd9 ?_
    rw [hd9]
    refine lv_d2l hx hb dX10_bitsOf_54 ?_
    refine lv_lstore (lv' := [(6, .long (FP.d2l d9)), (0, .double a1), (2, .double y2), (4, .long y3)]) hx hb dX10_bitsOf_55 hl (by decide) rfl (fun ls hl => ?_)
    refine lv_lload hx hb dX10_bitsOf_57 (lv_at hl 3 rfl) ?_
    refine lv_bipush (v := 52) hx hb dX10_bitsOf_59 rfl ?_
    refine lv_lshl (v := (jlshl y3 52)) hx hb dX10_bitsOf_61 rfl ?_
    refine lv_lload hx hb dX10_bitsOf_62 (lv_at hl 0 rfl) ?_
    refine lv_ladd hx hb dX10_bitsOf_64 ?_
    exact hy_lret (T := (M, Mr, Mo)) hx hb hr hlocks hP hS (Nat.zero_le _) (Nat.zero_le _) (by rw [← (Option.some.inj h)] <;> rfl) dX10_bitsOf_65
  · rw [if_neg c1] at h
    refine lv_lconst (v := 0) hx hb dX10_bitsOf_6 rfl ?_
    exact hy_lret (T := (M, Mr, Mo)) hx hb hr hlocks hP hS (Nat.zero_le _) (Nat.zero_le _) (by rw [← (Option.some.inj h)] <;> rfl) dX10_bitsOf_7
set_option maxHeartbeats 1000000 in
set_option maxRecDepth 100000 in
theorem c_Hp_digest {l : Launch} {G : hyG} (Mr Mo : hyM) (M : hyM) {res : Int64} (h : Hp_digest M = some res) : hyC l yX10_digest (.code yX10_digest cX10_digest 4 (some .long)) 6 148 (0) G [.ref (adr G 0)] (M, Mr, Mo) (.inr (some (.long res)), (M, Mr, Mo)) := by
  refine hy_of (by decide +kernel) (Nat.le_of_ble_eq_true rfl) ?_
  intro p e s m below meth c hx hb hml hown hts hr hlocks ht hX hP hS ls hl
  have hl : lv_has ls 4 [(0, .ref (adr G 0))] := hl
  rw [Hp_digest] at h
  refine lv_ldc2 (v := 2063) hx hb hown (hts _ q_596) dX10_digest_0 ?_
  refine lv_lstore_n (lv' := [(1, .long 2063), (0, .ref (adr G 0))]) hx hb dX10_digest_3 rfl hl (by decide) rfl (fun ls hl => ?_)
  refine lv_iconst (v := 0) hx hb dX10_digest_4 rfl ?_
  refine lv_istore_n (lv' := [(3, .int 0), (1, .long 2063), (0, .ref (adr G 0))]) hx hb dX10_digest_5 rfl hl (by decide) rfl (fun ls hl => ?_)
  have L6 : ∀ (f : Nat) (x1 : Int64) (x2 : Int32) (qL : (Int64 × Int32)) (h : Hp_digest_L6 M f x1 x2 = some qL) (H : Heap) (locs : List Loc) (ls : Array Slot) (hP : va_P G.1 vwCl (wld G (M, Mr, Mo)) H) (hS : va_S (hyA G) s.heap H locs) (hl : lv_has ls 4 [(0, .ref (adr G 0)), (1, .long x1), (3, .int x2)]) (kk : ∀ (y1 : Int64) (y2 : Int32), qL = (y1, y2) → ∀ (H : Heap) (locs : List Loc) (ls : Array Slot), va_P G.1 vwCl (wld G (M, Mr, Mo)) H → va_S (hyA G) s.heap H locs → lv_has ls 4 [(0, .ref (adr G 0)), (1, .long y1), (3, .int y2)] → W p l e { frames := 6, cells := 0, slots := 6 * 0, locals := 148 } s m ([.ref (adr G 0)] : List Value).toArray below meth c H locs 0 0 (vx_MQ below (hyQ G (.inr (some (.long res)), (M, Mr, Mo))) (hyXQ G (.inr (some (.long res)), (M, Mr, Mo))) ([.ref (adr G 0)] : List Value).toArray s 0 (6 * 0) (hyA G)) (F0 m 44 ls [])), W p l e { frames := 6, cells := 0, slots := 6 * 0, locals := 148 } s m ([.ref (adr G 0)] : List Value).toArray below meth c H locs 0 0 (vx_MQ below (hyQ G (.inr (some (.long res)), (M, Mr, Mo))) (hyXQ G (.inr (some (.long res)), (M, Mr, Mo))) ([.ref (adr G 0)] : List Value).toArray s 0 (6 * 0) (hyA G)) (F0 m 6 ls []) := by
    intro f
    induction f with
    | zero =>
      intro x1 x2 qL h H locs ls hP hS hl kk
      rw [Hp_digest_L6] at h
      cases h
    | succ f ih =>
      intro x1 x2 qL h H locs ls hP hS hl kk
      rw [Hp_digest_L6] at h
      refine lv_iload_n hx hb dX10_digest_6 rfl (lv_at hl 2 rfl) ?_
      refine lv_bipush (v := 14) hx hb dX10_digest_7 rfl ?_
      refine lv_icmp_ge (tgt := 44) hx hb dX10_digest_9 (by decide) (fun c3 => ?_) (fun c3 => ?_)
      · rw [if_pos c3] at h
        exact kk x1 x2 (Option.some.inj h).symm _ _ ls hP hS (lv_sub hl [0, 1, 2] rfl)
      · rw [if_neg c3] at h
        refine lv_lload_n hx hb dX10_digest_12 rfl (lv_at hl 1 rfl) ?_
        refine lv_iload_n hx hb dX10_digest_13 rfl (lv_at hl 2 rfl) ?_
        refine lv_bipush (v := 7) hx hb dX10_digest_14 rfl ?_
        refine lv_icmp_ge (tgt := 28) hx hb dX10_digest_16 (by decide) (fun c4 => ?_) (fun c4 => ?_)
        · rw [if_pos c4] at h
          refine lv_aload_n hx hb dX10_digest_28 rfl (lv_at hl 0 rfl) ?_
          refine lv_iload_n hx hb dX10_digest_29 rfl (lv_at hl 2 rfl) ?_
          obtain ⟨v5, hv5, h⟩ := hy_bind h
          refine hy_ret (hy_rV0 (T := (M, Mr, Mo)) (v := some (.int v5)) (T2 := (M, Mr, Mo)) (As := [.int x2]) (rest := [.long x1]) (n := 0) hx hb hml hown hts hX hP hS hl (c_Hp_countOfPage Mr Mo x2 M hv5) m_Hp_countOfPage q_601 (hy_recv hX hP 0 9 (by decide) rfl rfl) rfl rfl (Nat.le_of_ble_eq_true rfl) dX10_digest_30 ⟨Nat.le_of_ble_eq_true rfl, Nat.le_of_ble_eq_true rfl⟩ ⟨Nat.zero_le _, Nat.zero_le _⟩) hS (fun H locs hP hS => ?_)
          refine lv_i2l (v := v5.toInt64) hx hb dX10_digest_33 rfl ?_
          refine hy_ret (hy_rS0 (T := (M, Mr, Mo)) (v := some (.long (Hp_mixed x1 v5.toInt64 M))) (T2 := (M, Mr, Mo)) (As := [.long x1, .long v5.toInt64]) (rest := []) (n := 0) hx hb hml hown hts hX hP hS hl (c_Hp_mixed Mr Mo x1 v5.toInt64 M rfl) m_Hp_mixed q_648 rfl rfl (Nat.le_of_ble_eq_true rfl) dX10_digest_34 ⟨Nat.le_of_ble_eq_true rfl, Nat.le_of_ble_eq_true rfl⟩ ⟨Nat.zero_le _, Nat.zero_le _⟩) hS (fun H locs hP hS => ?_)
          refine lv_lstore_n (lv' := [(1, .long (Hp_mixed x1 v5.toInt64 M)), (0, .ref (adr G 0)), (3, .int x2)]) hx hb dX10_digest_37 rfl hl (by decide) rfl (fun ls hl => ?_)
          refine lv_iinc (v := (x2 + 1)) (lv' := [(3, .int (x2 + 1)), (1, .long (Hp_mixed x1 v5.toInt64 M)), (0, .ref (adr G 0))]) hx hb dX10_digest_38 hl (k := 2) rfl rfl (by decide) rfl (fun ls hl => ?_)
          refine lv_goto (tgt := 6) hx hb dX10_digest_41 (by decide) ?_
          exact ih (Hp_mixed x1 v5.toInt64 M) (x2 + 1) _ h  _ _ ls hP hS (lv_sub hl [2, 1, 0] rfl) kk
        · rw [if_neg c4] at h
          refine lv_aload_n hx hb dX10_digest_19 rfl (lv_at hl 0 rfl) ?_
          refine lv_iload_n hx hb dX10_digest_20 rfl (lv_at hl 2 rfl) ?_
          refine hy_ret (hy_rV0 (T := (M, Mr, Mo)) (v := some (.int (Hp_countOfTune x2 M))) (T2 := (M, Mr, Mo)) (As := [.int x2]) (rest := [.long x1]) (n := 0) hx hb hml hown hts hX hP hS hl (c_Hp_countOfTune Mr Mo x2 M rfl) m_Hp_countOfTune q_597 (hy_recv hX hP 0 9 (by decide) rfl rfl) rfl rfl (Nat.le_of_ble_eq_true rfl) dX10_digest_21 ⟨Nat.le_of_ble_eq_true rfl, Nat.le_of_ble_eq_true rfl⟩ ⟨Nat.zero_le _, Nat.zero_le _⟩) hS (fun H locs hP hS => ?_)
          refine lv_i2l (v := (Hp_countOfTune x2 M).toInt64) hx hb dX10_digest_24 rfl ?_
          refine lv_goto (tgt := 34) hx hb dX10_digest_25 (by decide) ?_
          refine hy_ret (hy_rS0 (T := (M, Mr, Mo)) (v := some (.long (Hp_mixed x1 ((Hp_countOfTune x2 M).toInt64) M))) (T2 := (M, Mr, Mo)) (As := [.long x1, .long ((Hp_countOfTune x2 M).toInt64)]) (rest := []) (n := 0) hx hb hml hown hts hX hP hS hl (c_Hp_mixed Mr Mo x1 ((Hp_countOfTune x2 M).toInt64) M rfl) m_Hp_mixed q_648 rfl rfl (Nat.le_of_ble_eq_true rfl) dX10_digest_34 ⟨Nat.le_of_ble_eq_true rfl, Nat.le_of_ble_eq_true rfl⟩ ⟨Nat.zero_le _, Nat.zero_le _⟩) hS (fun H locs hP hS => ?_)
          refine lv_lstore_n (lv' := [(1, .long (Hp_mixed x1 ((Hp_countOfTune x2 M).toInt64) M)), (0, .ref (adr G 0)), (3, .int x2)]) hx hb dX10_digest_37 rfl hl (by decide) rfl (fun ls hl => ?_)
          refine lv_iinc (v := (x2 + 1)) (lv' := [(3, .int (x2 + 1)), (1, .long (Hp_mixed x1 ((Hp_countOfTune x2 M).toInt64) M)), (0, .ref (adr G 0))]) hx hb dX10_digest_38 hl (k := 2) rfl rfl (by decide) rfl (fun ls hl => ?_)
          refine lv_goto (tgt := 6) hx hb dX10_digest_41 (by decide) ?_
          exact ih (Hp_mixed x1 ((Hp_countOfTune x2 M).toInt64) M) (x2 + 1) _ h  _ _ ls hP hS (lv_sub hl [2, 1, 0] rfl) kk
  obtain ⟨q35, hq35, h⟩ := hy_bind h
  refine L6 hyFu 2063 0 q35 hq35 _ _ ls hP hS (lv_sub hl [2, 1, 0] rfl) ?_
  intro y1 y2 e9 H locs ls hP hS hl
  subst e9
  try dsimp only at h
  refine lv_iconst (v := 0) hx hb dX10_digest_44 rfl ?_
  refine lv_istore_n (lv' := [(3, .int 0), (0, .ref (adr G 0)), (1, .long y1)]) hx hb dX10_digest_45 rfl hl (by decide) rfl (fun ls hl => ?_)
  have L11 : ∀ (f : Nat) (x7 : Int64) (x8 : Int32) (qL : (Int64 × Int32)) (h : Hp_digest_L46 M f x7 x8 = some qL) (H : Heap) (locs : List Loc) (ls : Array Slot) (hP : va_P G.1 vwCl (wld G (M, Mr, Mo)) H) (hS : va_S (hyA G) s.heap H locs) (hl : lv_has ls 4 [(0, .ref (adr G 0)), (1, .long x7), (3, .int x8)]) (kk : ∀ (y7 : Int64) (y8 : Int32), qL = (y7, y8) → ∀ (H : Heap) (locs : List Loc) (ls : Array Slot), va_P G.1 vwCl (wld G (M, Mr, Mo)) H → va_S (hyA G) s.heap H locs → lv_has ls 4 [(0, .ref (adr G 0)), (1, .long y7), (3, .int y8)] → W p l e { frames := 6, cells := 0, slots := 6 * 0, locals := 148 } s m ([.ref (adr G 0)] : List Value).toArray below meth c H locs 0 0 (vx_MQ below (hyQ G (.inr (some (.long res)), (M, Mr, Mo))) (hyXQ G (.inr (some (.long res)), (M, Mr, Mo))) ([.ref (adr G 0)] : List Value).toArray s 0 (6 * 0) (hyA G)) (F0 m 70 ls [])), W p l e { frames := 6, cells := 0, slots := 6 * 0, locals := 148 } s m ([.ref (adr G 0)] : List Value).toArray below meth c H locs 0 0 (vx_MQ below (hyQ G (.inr (some (.long res)), (M, Mr, Mo))) (hyXQ G (.inr (some (.long res)), (M, Mr, Mo))) ([.ref (adr G 0)] : List Value).toArray s 0 (6 * 0) (hyA G)) (F0 m 46 ls []) := by
    intro f
    induction f with
    | zero =>
      intro x7 x8 qL h H locs ls hP hS hl kk
      rw [Hp_digest_L46] at h
      cases h
    | succ f ih =>
      intro x7 x8 qL h H locs ls hP hS hl kk
      rw [Hp_digest_L46] at h
      refine lv_iload_n hx hb dX10_digest_46 rfl (lv_at hl 2 rfl) ?_
      refine lv_aload_n hx hb dX10_digest_47 rfl (lv_at hl 0 rfl) ?_
      refine hy_get (T := (M, Mr, Mo)) (o := 0) (k := 0) (v := .ref (adr G 1)) hx hb hown hts hX hP (by decide) rfl rfl inX10g (by decide) q_354 rfl dX10_digest_48 ?_
      refine hy_getN (T := (M, Mr, Mo)) (o := 1) (k := 4) (v := .int (M.1 1 4)) hx hb hown hts hX hP (by decide) rfl rfl inX8g (by decide) q_186 rfl dX10_digest_51 ?_
      refine lv_icmp_ge (tgt := 70) hx hb dX10_digest_54 (by decide) (fun c9 => ?_) (fun c9 => ?_)
      · rw [if_pos c9] at h
        exact kk x7 x8 (Option.some.inj h).symm _ _ ls hP hS (lv_sub hl [0, 1, 2] rfl)
      · rw [if_neg c9] at h
        refine lv_aload_n hx hb dX10_digest_57 rfl (lv_at hl 0 rfl) ?_
        refine lv_lload_n hx hb dX10_digest_58 rfl (lv_at hl 1 rfl) ?_
        refine lv_iload_n hx hb dX10_digest_59 rfl (lv_at hl 2 rfl) ?_
        obtain ⟨v10, hv10, h⟩ := hy_bind h
        refine hy_ret (hy_rV0 (T := (M, Mr, Mo)) (v := some (.long v10)) (T2 := (M, Mr, Mo)) (As := [.long x7, .int x8]) (rest := []) (n := 0) hx hb hml hown hts hX hP hS hl (c_Hp_mixedNote Mr Mo x7 x8 M hv10) m_Hp_mixedNote q_652 (hy_recv hX hP 0 9 (by decide) rfl rfl) rfl rfl (Nat.le_of_ble_eq_true rfl) dX10_digest_60 ⟨Nat.le_of_ble_eq_true rfl, Nat.le_of_ble_eq_true rfl⟩ ⟨Nat.zero_le _, Nat.zero_le _⟩) hS (fun H locs hP hS => ?_)
        refine lv_lstore_n (lv' := [(1, .long v10), (0, .ref (adr G 0)), (3, .int x8)]) hx hb dX10_digest_63 rfl hl (by decide) rfl (fun ls hl => ?_)
        refine lv_iinc (v := (x8 + 1)) (lv' := [(3, .int (x8 + 1)), (1, .long v10), (0, .ref (adr G 0))]) hx hb dX10_digest_64 hl (k := 2) rfl rfl (by decide) rfl (fun ls hl => ?_)
        refine lv_goto (tgt := 46) hx hb dX10_digest_67 (by decide) ?_
        exact ih v10 (x8 + 1) _ h  _ _ ls hP hS (lv_sub hl [2, 1, 0] rfl) kk
  obtain ⟨q34, hq34, h⟩ := hy_bind h
  refine L11 hyFu y1 0 q34 hq34 _ _ ls hP hS (lv_sub hl [1, 2, 0] rfl) ?_
  intro y7 y8 e9 H locs ls hP hS hl
  subst e9
  try dsimp only at h
  refine lv_aload_n hx hb dX10_digest_70 rfl (lv_at hl 0 rfl) ?_
  refine lv_lload_n hx hb dX10_digest_71 rfl (lv_at hl 1 rfl) ?_
  obtain ⟨v12, hv12, h⟩ := hy_bind h
  refine hy_ret (hy_rV0 (T := (M, Mr, Mo)) (v := some (.long v12)) (T2 := (M, Mr, Mo)) (As := [.long y7]) (rest := []) (n := 0) hx hb hml hown hts hX hP hS hl (c_Hp_mixedPhrases Mr Mo y7 M hv12) m_Hp_mixedPhrases q_726 (hy_recv hX hP 0 9 (by decide) rfl rfl) rfl rfl (Nat.le_of_ble_eq_true rfl) dX10_digest_72 ⟨Nat.le_of_ble_eq_true rfl, Nat.le_of_ble_eq_true rfl⟩ ⟨Nat.zero_le _, Nat.zero_le _⟩) hS (fun H locs hP hS => ?_)
  refine lv_lstore_n (lv' := [(1, .long v12), (0, .ref (adr G 0)), (3, .int y8)]) hx hb dX10_digest_75 rfl hl (by decide) rfl (fun ls hl => ?_)
  refine lv_iconst (v := 0) hx hb dX10_digest_76 rfl ?_
  refine lv_istore_n (lv' := [(3, .int 0), (1, .long v12), (0, .ref (adr G 0))]) hx hb dX10_digest_77 rfl hl (by decide) rfl (fun ls hl => ?_)
  have L17 : ∀ (f : Nat) (x13 : Int64) (x14 : Int32) (qL : (Int64 × Int32)) (h : Hp_digest_L78 M f x13 x14 = some qL) (H : Heap) (locs : List Loc) (ls : Array Slot) (hP : va_P G.1 vwCl (wld G (M, Mr, Mo)) H) (hS : va_S (hyA G) s.heap H locs) (hl : lv_has ls 4 [(0, .ref (adr G 0)), (1, .long x13), (3, .int x14)]) (kk : ∀ (y13 : Int64) (y14 : Int32), qL = (y13, y14) → ∀ (H : Heap) (locs : List Loc) (ls : Array Slot), va_P G.1 vwCl (wld G (M, Mr, Mo)) H → va_S (hyA G) s.heap H locs → lv_has ls 4 [(0, .ref (adr G 0)), (1, .long y13), (3, .int y14)] → W p l e { frames := 6, cells := 0, slots := 6 * 0, locals := 148 } s m ([.ref (adr G 0)] : List Value).toArray below meth c H locs 0 0 (vx_MQ below (hyQ G (.inr (some (.long res)), (M, Mr, Mo))) (hyXQ G (.inr (some (.long res)), (M, Mr, Mo))) ([.ref (adr G 0)] : List Value).toArray s 0 (6 * 0) (hyA G)) (F0 m 96 ls [])), W p l e { frames := 6, cells := 0, slots := 6 * 0, locals := 148 } s m ([.ref (adr G 0)] : List Value).toArray below meth c H locs 0 0 (vx_MQ below (hyQ G (.inr (some (.long res)), (M, Mr, Mo))) (hyXQ G (.inr (some (.long res)), (M, Mr, Mo))) ([.ref (adr G 0)] : List Value).toArray s 0 (6 * 0) (hyA G)) (F0 m 78 ls []) := by
    intro f
    induction f with
    | zero =>
      intro x13 x14 qL h H locs ls hP hS hl kk
      rw [Hp_digest_L78] at h
      cases h
    | succ f ih =>
      intro x13 x14 qL h H locs ls hP hS hl kk
      rw [Hp_digest_L78] at h
      refine lv_iload_n hx hb dX10_digest_78 rfl (lv_at hl 2 rfl) ?_
      refine lv_iconst (v := 4) hx hb dX10_digest_79 rfl ?_
      refine lv_icmp_ge (tgt := 96) hx hb dX10_digest_80 (by decide) (fun c15 => ?_) (fun c15 => ?_)
      · rw [if_pos c15] at h
        exact kk x13 x14 (Option.some.inj h).symm _ _ ls hP hS (lv_sub hl [0, 1, 2] rfl)
      · rw [if_neg c15] at h
        refine lv_aload_n hx hb dX10_digest_83 rfl (lv_at hl 0 rfl) ?_
        refine lv_lload_n hx hb dX10_digest_84 rfl (lv_at hl 1 rfl) ?_
        refine lv_iload_n hx hb dX10_digest_85 rfl (lv_at hl 2 rfl) ?_
        obtain ⟨v16, hv16, h⟩ := hy_bind h
        refine hy_ret (hy_rV0 (T := (M, Mr, Mo)) (v := some (.long v16)) (T2 := (M, Mr, Mo)) (As := [.long x13, .int x14]) (rest := []) (n := 0) hx hb hml hown hts hX hP hS hl (c_Hp_mixedVerse Mr Mo x13 x14 M hv16) m_Hp_mixedVerse q_744 (hy_recv hX hP 0 9 (by decide) rfl rfl) rfl rfl (Nat.le_of_ble_eq_true rfl) dX10_digest_86 ⟨Nat.le_of_ble_eq_true rfl, Nat.le_of_ble_eq_true rfl⟩ ⟨Nat.zero_le _, Nat.zero_le _⟩) hS (fun H locs hP hS => ?_)
        refine lv_lstore_n (lv' := [(1, .long v16), (0, .ref (adr G 0)), (3, .int x14)]) hx hb dX10_digest_89 rfl hl (by decide) rfl (fun ls hl => ?_)
        refine lv_iinc (v := (x14 + 1)) (lv' := [(3, .int (x14 + 1)), (1, .long v16), (0, .ref (adr G 0))]) hx hb dX10_digest_90 hl (k := 2) rfl rfl (by decide) rfl (fun ls hl => ?_)
        refine lv_goto (tgt := 78) hx hb dX10_digest_93 (by decide) ?_
        exact ih v16 (x14 + 1) _ h  _ _ ls hP hS (lv_sub hl [2, 1, 0] rfl) kk
  obtain ⟨q33, hq33, h⟩ := hy_bind h
  refine L17 hyFu v12 0 q33 hq33 _ _ ls hP hS (lv_sub hl [2, 1, 0] rfl) ?_
  intro y13 y14 e9 H locs ls hP hS hl
  subst e9
  try dsimp only at h
  refine lv_iconst (v := 0) hx hb dX10_digest_96 rfl ?_
  refine lv_istore_n (lv' := [(3, .int 0), (0, .ref (adr G 0)), (1, .long y13)]) hx hb dX10_digest_97 rfl hl (by decide) rfl (fun ls hl => ?_)
  have L22 : ∀ (f : Nat) (x18 : Int64) (x19 : Int32) (qL : (Int64 × Int32)) (h : Hp_digest_L98 M f x18 x19 = some qL) (H : Heap) (locs : List Loc) (ls : Array Slot) (hP : va_P G.1 vwCl (wld G (M, Mr, Mo)) H) (hS : va_S (hyA G) s.heap H locs) (hl : lv_has ls 4 [(0, .ref (adr G 0)), (1, .long x18), (3, .int x19)]) (kk : ∀ (y18 : Int64) (y19 : Int32), qL = (y18, y19) → ∀ (H : Heap) (locs : List Loc) (ls : Array Slot), va_P G.1 vwCl (wld G (M, Mr, Mo)) H → va_S (hyA G) s.heap H locs → lv_has ls 4 [(0, .ref (adr G 0)), (1, .long y18), (3, .int y19)] → W p l e { frames := 6, cells := 0, slots := 6 * 0, locals := 148 } s m ([.ref (adr G 0)] : List Value).toArray below meth c H locs 0 0 (vx_MQ below (hyQ G (.inr (some (.long res)), (M, Mr, Mo))) (hyXQ G (.inr (some (.long res)), (M, Mr, Mo))) ([.ref (adr G 0)] : List Value).toArray s 0 (6 * 0) (hyA G)) (F0 m 116 ls [])), W p l e { frames := 6, cells := 0, slots := 6 * 0, locals := 148 } s m ([.ref (adr G 0)] : List Value).toArray below meth c H locs 0 0 (vx_MQ below (hyQ G (.inr (some (.long res)), (M, Mr, Mo))) (hyXQ G (.inr (some (.long res)), (M, Mr, Mo))) ([.ref (adr G 0)] : List Value).toArray s 0 (6 * 0) (hyA G)) (F0 m 98 ls []) := by
    intro f
    induction f with
    | zero =>
      intro x18 x19 qL h H locs ls hP hS hl kk
      rw [Hp_digest_L98] at h
      cases h
    | succ f ih =>
      intro x18 x19 qL h H locs ls hP hS hl kk
      rw [Hp_digest_L98] at h
      refine lv_iload_n hx hb dX10_digest_98 rfl (lv_at hl 2 rfl) ?_
      refine lv_iconst (v := 4) hx hb dX10_digest_99 rfl ?_
      refine lv_icmp_ge (tgt := 116) hx hb dX10_digest_100 (by decide) (fun c20 => ?_) (fun c20 => ?_)
      · rw [if_pos c20] at h
        exact kk x18 x19 (Option.some.inj h).symm _ _ ls hP hS (lv_sub hl [0, 1, 2] rfl)
      · rw [if_neg c20] at h
        refine lv_aload_n hx hb dX10_digest_103 rfl (lv_at hl 0 rfl) ?_
        refine lv_lload_n hx hb dX10_digest_104 rfl (lv_at hl 1 rfl) ?_
        refine lv_iload_n hx hb dX10_digest_105 rfl (lv_at hl 2 rfl) ?_
        obtain ⟨v21, hv21, h⟩ := hy_bind h
        refine hy_ret (hy_rV0 (T := (M, Mr, Mo)) (v := some (.long v21)) (T2 := (M, Mr, Mo)) (As := [.long x18, .int x19]) (rest := []) (n := 0) hx hb hml hown hts hX hP hS hl (c_Hp_mixedBelow Mr Mo x18 x19 M hv21) m_Hp_mixedBelow q_765 (hy_recv hX hP 0 9 (by decide) rfl rfl) rfl rfl (Nat.le_of_ble_eq_true rfl) dX10_digest_106 ⟨Nat.le_of_ble_eq_true rfl, Nat.le_of_ble_eq_true rfl⟩ ⟨Nat.zero_le _, Nat.zero_le _⟩) hS (fun H locs hP hS => ?_)
        refine lv_lstore_n (lv' := [(1, .long v21), (0, .ref (adr G 0)), (3, .int x19)]) hx hb dX10_digest_109 rfl hl (by decide) rfl (fun ls hl => ?_)
        refine lv_iinc (v := (x19 + 1)) (lv' := [(3, .int (x19 + 1)), (1, .long v21), (0, .ref (adr G 0))]) hx hb dX10_digest_110 hl (k := 2) rfl rfl (by decide) rfl (fun ls hl => ?_)
        refine lv_goto (tgt := 98) hx hb dX10_digest_113 (by decide) ?_
        exact ih v21 (x19 + 1) _ h  _ _ ls hP hS (lv_sub hl [2, 1, 0] rfl) kk
  obtain ⟨q32, hq32, h⟩ := hy_bind h
  refine L22 hyFu y13 0 q32 hq32 _ _ ls hP hS (lv_sub hl [1, 2, 0] rfl) ?_
  intro y18 y19 e9 H locs ls hP hS hl
  subst e9
  try dsimp only at h
  refine lv_aload_n hx hb dX10_digest_116 rfl (lv_at hl 0 rfl) ?_
  refine lv_lload_n hx hb dX10_digest_117 rfl (lv_at hl 1 rfl) ?_
  obtain ⟨v23, hv23, h⟩ := hy_bind h
  refine hy_ret (hy_rV0 (T := (M, Mr, Mo)) (v := some (.long v23)) (T2 := (M, Mr, Mo)) (As := [.long y18]) (rest := []) (n := 0) hx hb hml hown hts hX hP hS hl (c_Hp_mixedBook Mr Mo y18 M hv23) m_Hp_mixedBook q_786 (hy_recv hX hP 0 9 (by decide) rfl rfl) rfl rfl (Nat.le_of_ble_eq_true rfl) dX10_digest_118 ⟨Nat.le_of_ble_eq_true rfl, Nat.le_of_ble_eq_true rfl⟩ ⟨Nat.zero_le _, Nat.zero_le _⟩) hS (fun H locs hP hS => ?_)
  refine lv_lstore_n (lv' := [(1, .long v23), (0, .ref (adr G 0)), (3, .int y19)]) hx hb dX10_digest_121 rfl hl (by decide) rfl (fun ls hl => ?_)
  refine lv_lload_n hx hb dX10_digest_122 rfl (lv_at hl 0 rfl) ?_
  refine lv_aload_n hx hb dX10_digest_123 rfl (lv_at hl 1 rfl) ?_
  obtain ⟨v24, hv24, h⟩ := hy_bind h
  refine hy_ret (hy_rV0 (T := (M, Mr, Mo)) (v := some (.int v24)) (T2 := (M, Mr, Mo)) (As := []) (rest := [.long v23]) (n := 0) hx hb hml hown hts hX hP hS hl (c_Hp_nearest Mr Mo M hv24) m_Hp_nearest q_790 (hy_recv hX hP 0 9 (by decide) rfl rfl) rfl rfl (Nat.le_of_ble_eq_true rfl) dX10_digest_124 ⟨Nat.le_of_ble_eq_true rfl, Nat.le_of_ble_eq_true rfl⟩ ⟨Nat.zero_le _, Nat.zero_le _⟩) hS (fun H locs hP hS => ?_)
  refine lv_i2l (v := v24.toInt64) hx hb dX10_digest_127 rfl ?_
  refine hy_ret (hy_rS0 (T := (M, Mr, Mo)) (v := some (.long (Hp_mixed v23 v24.toInt64 M))) (T2 := (M, Mr, Mo)) (As := [.long v23, .long v24.toInt64]) (rest := []) (n := 0) hx hb hml hown hts hX hP hS hl (c_Hp_mixed Mr Mo v23 v24.toInt64 M rfl) m_Hp_mixed q_648 rfl rfl (Nat.le_of_ble_eq_true rfl) dX10_digest_128 ⟨Nat.le_of_ble_eq_true rfl, Nat.le_of_ble_eq_true rfl⟩ ⟨Nat.zero_le _, Nat.zero_le _⟩) hS (fun H locs hP hS => ?_)
  refine lv_lstore_n (lv' := [(1, .long (Hp_mixed v23 v24.toInt64 M)), (0, .ref (adr G 0)), (3, .int y19)]) hx hb dX10_digest_131 rfl hl (by decide) rfl (fun ls hl => ?_)
  refine lv_lload_n hx hb dX10_digest_132 rfl (lv_at hl 0 rfl) ?_
  refine lv_aload_n hx hb dX10_digest_133 rfl (lv_at hl 1 rfl) ?_
  obtain ⟨v25, hv25, h⟩ := hy_bind h
  refine hy_ret (hy_rV0 (T := (M, Mr, Mo)) (v := some (.double v25)) (T2 := (M, Mr, Mo)) (As := []) (rest := [.long (Hp_mixed v23 v24.toInt64 M)]) (n := 0) hx hb hml hown hts hX hP hS hl (c_Hp_meanWidth Mr Mo M hv25) m_Hp_meanWidth q_791 (hy_recv hX hP 0 9 (by decide) rfl rfl) rfl rfl (Nat.le_of_ble_eq_true rfl) dX10_digest_134 ⟨Nat.le_of_ble_eq_true rfl, Nat.le_of_ble_eq_true rfl⟩ ⟨Nat.zero_le _, Nat.zero_le _⟩) hS (fun H locs hP hS => ?_)
  obtain ⟨v26, hv26, h⟩ := hy_bind h
  refine hy_ret (hy_rS0 (T := (M, Mr, Mo)) (v := some (.long v26)) (T2 := (M, Mr, Mo)) (As := [.double v25]) (rest := [.long (Hp_mixed v23 v24.toInt64 M)]) (n := 0) hx hb hml hown hts hX hP hS hl (c_Hp_bitsOf Mr Mo v25 M hv26) m_Hp_bitsOf q_792 rfl rfl (Nat.le_of_ble_eq_true rfl) dX10_digest_137 ⟨Nat.le_of_ble_eq_true rfl, Nat.le_of_ble_eq_true rfl⟩ ⟨Nat.zero_le _, Nat.zero_le _⟩) hS (fun H locs hP hS => ?_)
  refine hy_ret (hy_rS0 (T := (M, Mr, Mo)) (v := some (.long (Hp_mixed (Hp_mixed v23 v24.toInt64 M) v26 M))) (T2 := (M, Mr, Mo)) (As := [.long (Hp_mixed v23 v24.toInt64 M), .long v26]) (rest := []) (n := 0) hx hb hml hown hts hX hP hS hl (c_Hp_mixed Mr Mo (Hp_mixed v23 v24.toInt64 M) v26 M rfl) m_Hp_mixed q_648 rfl rfl (Nat.le_of_ble_eq_true rfl) dX10_digest_140 ⟨Nat.le_of_ble_eq_true rfl, Nat.le_of_ble_eq_true rfl⟩ ⟨Nat.zero_le _, Nat.zero_le _⟩) hS (fun H locs hP hS => ?_)
  refine lv_lstore_n (lv' := [(1, .long (Hp_mixed (Hp_mixed v23 v24.toInt64 M) v26 M)), (0, .ref (adr G 0)), (3, .int y19)]) hx hb dX10_digest_143 rfl hl (by decide) rfl (fun ls hl => ?_)
  refine lv_lload_n hx hb dX10_digest_144 rfl (lv_at hl 0 rfl) ?_
  refine lv_aload_n hx hb dX10_digest_145 rfl (lv_at hl 1 rfl) ?_
  refine hy_get (T := (M, Mr, Mo)) (o := 0) (k := 8) (v := .ref (adr G 28)) hx hb hown hts hX hP (by decide) rfl rfl inX10g (by decide) q_362 rfl dX10_digest_146 ?_
  refine hy_getN (T := (M, Mr, Mo)) (o := 28) (k := 1) (v := .int (M.1 28 1)) hx hb hown hts hX hP (by decide) rfl rfl inX3g (by decide) q_348 rfl dX10_digest_149 ?_
  refine lv_i2l (v := (M.1 28 1).toInt64) hx hb dX10_digest_152 rfl ?_
  refine hy_ret (hy_rS0 (T := (M, Mr, Mo)) (v := some (.long (Hp_mixed (Hp_mixed (Hp_mixed v23 v24.toInt64 M) v26 M) ((M.1 28 1).toInt64) M))) (T2 := (M, Mr, Mo)) (As := [.long (Hp_mixed (Hp_mixed v23 v24.toInt64 M) v26 M), .long ((M.1 28 1).toInt64)]) (rest := []) (n := 0) hx hb hml hown hts hX hP hS hl (c_Hp_mixed Mr Mo (Hp_mixed (Hp_mixed v23 v24.toInt64 M) v26 M) ((M.1 28 1).toInt64) M rfl) m_Hp_mixed q_648 rfl rfl (Nat.le_of_ble_eq_true rfl) dX10_digest_153 ⟨Nat.le_of_ble_eq_true rfl, Nat.le_of_ble_eq_true rfl⟩ ⟨Nat.zero_le _, Nat.zero_le _⟩) hS (fun H locs hP hS => ?_)
  refine lv_lstore_n (lv' := [(1, .long (Hp_mixed (Hp_mixed (Hp_mixed v23 v24.toInt64 M) v26 M) ((M.1 28 1).toInt64) M)), (0, .ref (adr G 0)), (3, .int y19)]) hx hb dX10_digest_156 rfl hl (by decide) rfl (fun ls hl => ?_)
  refine lv_iconst (v := 0) hx hb dX10_digest_157 rfl ?_
  refine lv_istore_n (lv' := [(3, .int 0), (1, .long (Hp_mixed (Hp_mixed (Hp_mixed v23 v24.toInt64 M) v26 M) ((M.1 28 1).toInt64) M)), (0, .ref (adr G 0))]) hx hb dX10_digest_158 rfl hl (by decide) rfl (fun ls hl => ?_)
  have L30 : ∀ (f : Nat) (x27 : Int64) (x28 : Int32) (qL : (Int64 × Int32)) (h : Hp_digest_L159 M f x27 x28 = some qL) (H : Heap) (locs : List Loc) (ls : Array Slot) (hP : va_P G.1 vwCl (wld G (M, Mr, Mo)) H) (hS : va_S (hyA G) s.heap H locs) (hl : lv_has ls 4 [(0, .ref (adr G 0)), (1, .long x27), (3, .int x28)]) (kk : ∀ (y27 : Int64) (y28 : Int32), qL = (y27, y28) → ∀ (H : Heap) (locs : List Loc) (ls : Array Slot), va_P G.1 vwCl (wld G (M, Mr, Mo)) H → va_S (hyA G) s.heap H locs → lv_has ls 4 [(0, .ref (adr G 0)), (1, .long y27), (3, .int y28)] → W p l e { frames := 6, cells := 0, slots := 6 * 0, locals := 148 } s m ([.ref (adr G 0)] : List Value).toArray below meth c H locs 0 0 (vx_MQ below (hyQ G (.inr (some (.long res)), (M, Mr, Mo))) (hyXQ G (.inr (some (.long res)), (M, Mr, Mo))) ([.ref (adr G 0)] : List Value).toArray s 0 (6 * 0) (hyA G)) (F0 m 190 ls [])), W p l e { frames := 6, cells := 0, slots := 6 * 0, locals := 148 } s m ([.ref (adr G 0)] : List Value).toArray below meth c H locs 0 0 (vx_MQ below (hyQ G (.inr (some (.long res)), (M, Mr, Mo))) (hyXQ G (.inr (some (.long res)), (M, Mr, Mo))) ([.ref (adr G 0)] : List Value).toArray s 0 (6 * 0) (hyA G)) (F0 m 159 ls []) := by
    intro f
    induction f with
    | zero =>
      intro x27 x28 qL h H locs ls hP hS hl kk
      rw [Hp_digest_L159] at h
      cases h
    | succ f ih =>
      intro x27 x28 qL h H locs ls hP hS hl kk
      rw [Hp_digest_L159] at h
      refine lv_iload_n hx hb dX10_digest_159 rfl (lv_at hl 2 rfl) ?_
      refine lv_aload_n hx hb dX10_digest_160 rfl (lv_at hl 0 rfl) ?_
      refine hy_get (T := (M, Mr, Mo)) (o := 0) (k := 8) (v := .ref (adr G 28)) hx hb hown hts hX hP (by decide) rfl rfl inX10g (by decide) q_362 rfl dX10_digest_161 ?_
      refine hy_getN (T := (M, Mr, Mo)) (o := 28) (k := 1) (v := .int (M.1 28 1)) hx hb hown hts hX hP (by decide) rfl rfl inX3g (by decide) q_348 rfl dX10_digest_164 ?_
      refine lv_icmp_ge (tgt := 190) hx hb dX10_digest_167 (by decide) (fun c29 => ?_) (fun c29 => ?_)
      · rw [if_pos c29] at h
        exact kk x27 x28 (Option.some.inj h).symm _ _ ls hP hS (lv_sub hl [0, 1, 2] rfl)
      · rw [if_neg c29] at h
        refine lv_lload_n hx hb dX10_digest_170 rfl (lv_at hl 1 rfl) ?_
        refine lv_aload_n hx hb dX10_digest_171 rfl (lv_at hl 0 rfl) ?_
        refine hy_get (T := (M, Mr, Mo)) (o := 0) (k := 8) (v := .ref (adr G 28)) hx hb hown hts hX hP (by decide) rfl rfl inX10g (by decide) q_362 rfl dX10_digest_172 ?_
        refine lv_iload_n hx hb dX10_digest_175 rfl (lv_at hl 2 rfl) ?_
        refine hy_ret (hy_rVN (T := (M, Mr, Mo)) (v := some (.int (In_codeAt x28 M))) (T2 := (M, Mr, Mo)) (As := [.int x28]) (rest := [.long x27]) (n := 0) hx hb hml hown hts hX hP hS hl (c_In_codeAt Mr Mo x28 M rfl) m_In_codeAt q_799 (hy_recv hX hP 28 3 (by decide) rfl rfl) rfl rfl (Nat.le_of_ble_eq_true rfl) dX10_digest_176 ⟨Nat.le_of_ble_eq_true rfl, Nat.le_of_ble_eq_true rfl⟩ ⟨Nat.zero_le _, Nat.zero_le _⟩) hS (fun H locs hP hS => ?_)
        refine lv_i2l (v := (In_codeAt x28 M).toInt64) hx hb dX10_digest_179 rfl ?_
        refine hy_ret (hy_rS0 (T := (M, Mr, Mo)) (v := some (.long (Hp_mixed x27 ((In_codeAt x28 M).toInt64) M))) (T2 := (M, Mr, Mo)) (As := [.long x27, .long ((In_codeAt x28 M).toInt64)]) (rest := []) (n := 0) hx hb hml hown hts hX hP hS hl (c_Hp_mixed Mr Mo x27 ((In_codeAt x28 M).toInt64) M rfl) m_Hp_mixed q_648 rfl rfl (Nat.le_of_ble_eq_true rfl) dX10_digest_180 ⟨Nat.le_of_ble_eq_true rfl, Nat.le_of_ble_eq_true rfl⟩ ⟨Nat.zero_le _, Nat.zero_le _⟩) hS (fun H locs hP hS => ?_)
        refine lv_lstore_n (lv' := [(1, .long (Hp_mixed x27 ((In_codeAt x28 M).toInt64) M)), (0, .ref (adr G 0)), (3, .int x28)]) hx hb dX10_digest_183 rfl hl (by decide) rfl (fun ls hl => ?_)
        refine lv_iinc (v := (x28 + 1)) (lv' := [(3, .int (x28 + 1)), (1, .long (Hp_mixed x27 ((In_codeAt x28 M).toInt64) M)), (0, .ref (adr G 0))]) hx hb dX10_digest_184 hl (k := 2) rfl rfl (by decide) rfl (fun ls hl => ?_)
        refine lv_goto (tgt := 159) hx hb dX10_digest_187 (by decide) ?_
        exact ih (Hp_mixed x27 ((In_codeAt x28 M).toInt64) M) (x28 + 1) _ h  _ _ ls hP hS (lv_sub hl [2, 1, 0] rfl) kk
  obtain ⟨q31, hq31, h⟩ := hy_bind h
  refine L30 hyFu (Hp_mixed (Hp_mixed (Hp_mixed v23 v24.toInt64 M) v26 M) ((M.1 28 1).toInt64) M) 0 q31 hq31 _ _ ls hP hS (lv_sub hl [2, 1, 0] rfl) ?_
  intro y27 y28 e9 H locs ls hP hS hl
  subst e9
  try dsimp only at h
  refine lv_lload_n hx hb dX10_digest_190 rfl (lv_at hl 1 rfl) ?_
  exact hy_lret (T := (M, Mr, Mo)) hx hb hr hlocks hP hS (Nat.zero_le _) (Nat.zero_le _) (by rw [← (Option.some.inj h)] <;> rfl) dX10_digest_191
set_option maxHeartbeats 1000000 in
set_option maxRecDepth 100000 in
theorem c_Rf_thrown {l : Launch} {G : hyG} (Mc Mo : hyM) (M : hyM) {res : Int32} (h : Rf_thrown M = res) : hyC l yX11_thrown (.code yX11_thrown cX11_thrown 1 (some .int)) 0 0 (0) G [.ref (adr G 30)] (Mc, M, Mo) (.inr (some (.int res)), (Mc, M, Mo)) := by
  refine hy_of (by decide +kernel) (Nat.le_of_ble_eq_true rfl) ?_
  intro p e s m below meth c hx hb hml hown hts hr hlocks ht hX hP hS ls hl
  have hl : lv_has ls 1 [(0, .ref (adr G 30))] := hl
  rw [Rf_thrown] at h
  refine lv_aload_n hx hb dX11_thrown_0 rfl (lv_at hl 0 rfl) ?_
  refine hy_get (T := (Mc, M, Mo)) (o := 30) (k := 0) (v := .int (M.1 30 0)) hx hb hown hts hX hP (by decide) rfl rfl inX11g (by decide) q_1192 rfl dX11_thrown_1 ?_
  exact hy_iret (T := (Mc, M, Mo)) hx hb hr hlocks hP hS (Nat.zero_le _) (Nat.zero_le _) (by rw [← h] <;> rfl) dX11_thrown_4
set_option maxHeartbeats 1000000 in
set_option maxRecDepth 100000 in
theorem c_Rf_within {l : Launch} {G : hyG} (Mc Mo : hyM) (a1 : Int32) (a2 : Int32) (a3 : Int32) (M : hyM) {res : Bool} (h : Rf_within a1 a2 a3 M = res) : hyC l yX11_within (.code yX11_within cX11_within 3 (some .boolean)) 0 0 (0) G [.int a1, .int a2, .int a3] (Mc, M, Mo) (.inr (some (.int (bI res))), (Mc, M, Mo)) := by
  refine hy_of (by decide +kernel) (Nat.le_of_ble_eq_true rfl) ?_
  intro p e s m below meth c hx hb hml hown hts hr hlocks ht hX hP hS ls hl
  have hl : lv_has ls 3 [(0, .int a1), (1, .int a2), (2, .int a3)] := hl
  rw [Rf_within] at h
  refine lv_iload_n hx hb dX11_within_0 rfl (lv_at hl 0 rfl) ?_
  refine lv_iload_n hx hb dX11_within_1 rfl (lv_at hl 1 rfl) ?_
  have J3 : ∀ (H : Heap) (locs : List Loc) (ls : Array Slot) (u1 : Int32), u1 = (bI (if a1 < a2 then false else (!decide (a3 < a1)))) → va_P G.1 vwCl (wld G (Mc, M, Mo)) H → va_S (hyA G) s.heap H locs → lv_has ls 3 [(0, .int a1), (1, .int a2), (2, .int a3)] → W p l e { frames := 0, cells := 0, slots := 6 * 0, locals := 0 } s m ([.int a1, .int a2, .int a3] : List Value).toArray below meth c H locs 0 0 (vx_MQ below (hyQ G (.inr (some (.int (bI res))), (Mc, M, Mo))) (hyXQ G (.inr (some (.int (bI res))), (Mc, M, Mo))) ([.int a1, .int a2, .int a3] : List Value).toArray s 0 (6 * 0) (hyA G)) (F0 m 15 ls [.int u1]) := by
    intro H locs ls u1 eu1 hP hS hl
    subst eu1
    exact hy_zret (T := (Mc, M, Mo)) hx hb hr hlocks hP hS (Nat.zero_le _) (Nat.zero_le _) (bI_nar (if a1 < a2 then false else (!decide (a3 < a1)))) (by rw [← h] <;> rfl) dX11_within_15
  refine lv_icmp_lt (tgt := 14) hx hb dX11_within_2 (by decide) (fun c1 => ?_) (fun c1 => ?_)
  · refine lv_iconst (v := 0) hx hb dX11_within_14 rfl ?_
    exact J3 _ _ ls 0 (by rw [if_pos c1] <;> rfl) hP hS (lv_sub hl [0, 1, 2] rfl)
  · refine lv_iload_n hx hb dX11_within_5 rfl (lv_at hl 0 rfl) ?_
    refine lv_iload_n hx hb dX11_within_6 rfl (lv_at hl 2 rfl) ?_
    refine lv_icmp_gt (tgt := 14) hx hb dX11_within_7 (by decide) (fun c2 => ?_) (fun c2 => ?_)
    · refine lv_iconst (v := 0) hx hb dX11_within_14 rfl ?_
      exact J3 _ _ ls 0 (by rw [if_neg c1, decide_eq_true c2] <;> rfl) hP hS (lv_sub hl [0, 1, 2] rfl)
    · refine lv_iconst (v := 1) hx hb dX11_within_10 rfl ?_
      refine lv_goto (tgt := 15) hx hb dX11_within_11 (by decide) ?_
      exact J3 _ _ ls 1 (by rw [if_neg c1, decide_eq_false c2] <;> rfl) hP hS (lv_sub hl [0, 1, 2] rfl)
set_option maxHeartbeats 1000000 in
set_option maxRecDepth 100000 in
theorem c_Rf_isNote {l : Launch} {G : hyG} (Mc Mo : hyM) (a1 : Int32) (M : hyM) {res : Bool} (h : Rf_isNote a1 M = res) : hyC l yX11_isNote (.code yX11_isNote cX11_isNote 2 (some .boolean)) 1 22 (0) G [.ref (adr G 30), .int a1] (Mc, M, Mo) (.inr (some (.int (bI res))), (Mc, M, Mo)) := by
  refine hy_of (by decide +kernel) (Nat.le_of_ble_eq_true rfl) ?_
  intro p e s m below meth c hx hb hml hown hts hr hlocks ht hX hP hS ls hl
  have hl : lv_has ls 2 [(0, .ref (adr G 30)), (1, .int a1)] := hl
  rw [Rf_isNote] at h
  refine lv_iload_n hx hb dX11_isNote_0 rfl (lv_at hl 1 rfl) ?_
  refine lv_iconst (v := 0) hx hb dX11_isNote_1 rfl ?_
  refine lv_aload_n hx hb dX11_isNote_2 rfl (lv_at hl 0 rfl) ?_
  refine hy_get (T := (Mc, M, Mo)) (o := 30) (k := 2) (v := .int (M.1 30 2)) hx hb hown hts hX hP (by decide) rfl rfl inX11g (by decide) q_1194 rfl dX11_isNote_3 ?_
  refine lv_iconst (v := 1) hx hb dX11_isNote_6 rfl ?_
  refine lv_isub hx hb dX11_isNote_7 ?_
  refine hy_ret (hy_rS0 (T := (Mc, M, Mo)) (v := some (.int (bI (Rf_within a1 0 ((M.1 30 2) - 1) M)))) (T2 := (Mc, M, Mo)) (As := [.int a1, .int 0, .int ((M.1 30 2) - 1)]) (rest := []) (n := 0) hx hb hml hown hts hX hP hS hl (c_Rf_within Mc Mo a1 0 ((M.1 30 2) - 1) M rfl) m_Rf_within q_1310 rfl rfl (Nat.le_of_ble_eq_true rfl) dX11_isNote_8 ⟨Nat.le_of_ble_eq_true rfl, Nat.le_of_ble_eq_true rfl⟩ ⟨Nat.zero_le _, Nat.zero_le _⟩) hS (fun H locs hP hS => ?_)
  exact hy_zret (T := (Mc, M, Mo)) hx hb hr hlocks hP hS (Nat.zero_le _) (Nat.zero_le _) (bI_nar (Rf_within a1 0 ((M.1 30 2) - 1) M)) (by rw [← h] <;> rfl) dX11_isNote_11
set_option maxHeartbeats 1000000 in
set_option maxRecDepth 100000 in
theorem c_Rf_isPitch {l : Launch} {G : hyG} (Mc Mo : hyM) (a1 : Int32) (M : hyM) {res : Bool} (h : Rf_isPitch a1 M = res) : hyC l yX11_isPitch (.code yX11_isPitch cX11_isPitch 1 (some .boolean)) 1 22 (0) G [.int a1] (Mc, M, Mo) (.inr (some (.int (bI res))), (Mc, M, Mo)) := by
  refine hy_of (by decide +kernel) (Nat.le_of_ble_eq_true rfl) ?_
  intro p e s m below meth c hx hb hml hown hts hr hlocks ht hX hP hS ls hl
  have hl : lv_has ls 1 [(0, .int a1)] := hl
  rw [Rf_isPitch] at h
  refine lv_iload_n hx hb dX11_isPitch_0 rfl (lv_at hl 0 rfl) ?_
  refine lv_bipush (v := 36) hx hb dX11_isPitch_1 rfl ?_
  refine lv_bipush (v := 84) hx hb dX11_isPitch_3 rfl ?_
  refine hy_ret (hy_rS0 (T := (Mc, M, Mo)) (v := some (.int (bI (Rf_within a1 36 84 M)))) (T2 := (Mc, M, Mo)) (As := [.int a1, .int 36, .int 84]) (rest := []) (n := 0) hx hb hml hown hts hX hP hS hl (c_Rf_within Mc Mo a1 36 84 M rfl) m_Rf_within q_1310 rfl rfl (Nat.le_of_ble_eq_true rfl) dX11_isPitch_5 ⟨Nat.le_of_ble_eq_true rfl, Nat.le_of_ble_eq_true rfl⟩ ⟨Nat.zero_le _, Nat.zero_le _⟩) hS (fun H locs hP hS => ?_)
  exact hy_zret (T := (Mc, M, Mo)) hx hb hr hlocks hP hS (Nat.zero_le _) (Nat.zero_le _) (bI_nar (Rf_within a1 36 84 M)) (by rw [← h] <;> rfl) dX11_isPitch_8
set_option maxHeartbeats 1000000 in
set_option maxRecDepth 100000 in
theorem c_Rf_layPhrases {l : Launch} {G : hyG} (Mc Mo : hyM) (M : hyM) {res : hyM} (h : Rf_layPhrases M = some res) : hyC l yX11_layPhrases (.code yX11_layPhrases cX11_layPhrases 3 none) 0 0 (0) G [.ref (adr G 30)] (Mc, M, Mo) (.inr none, (Mc, res, Mo)) := by
  refine hy_of (by decide +kernel) (Nat.le_of_ble_eq_true rfl) ?_
  intro p e s m below meth c hx hb hml hown hts hr hlocks ht hX hP hS ls hl
  have hl : lv_has ls 3 [(0, .ref (adr G 30))] := hl
  rw [Rf_layPhrases] at h
  refine lv_aload_n hx hb dX11_layPhrases_0 rfl (lv_at hl 0 rfl) ?_
  refine lv_iconst (v := 0) hx hb dX11_layPhrases_1 rfl ?_
  refine hy_putI (ty := .int) (T := (Mc, M, Mo)) (T2 := (Mc, (wI M 30 21 0), Mo)) (o := 30) (k := 21) hx hb hown hts hX hP hS (by decide) rfl rfl rfl rfl inX11g tyX11_ok nmX11 (by decide) q_1213 rfl rfl rfl rfl (Nat.le_of_ble_eq_true rfl) dX11_layPhrases_2 (fun H locs hP hS => ?_)
  obtain ⟨M1, hM1, h⟩ := hy_bind h
  rw [Option.some.inj hM1] at hP
  refine lv_iconst (v := 1) hx hb dX11_layPhrases_5 rfl ?_
  refine lv_istore_n (lv' := [(1, .int 1), (0, .ref (adr G 30))]) hx hb dX11_layPhrases_6 rfl hl (by decide) rfl (fun ls hl => ?_)
  refine lv_iconst (v := 0) hx hb dX11_layPhrases_7 rfl ?_
  refine lv_istore_n (lv' := [(2, .int 0), (1, .int 1), (0, .ref (adr G 30))]) hx hb dX11_layPhrases_8 rfl hl (by decide) rfl (fun ls hl => ?_)
  have L15 : ∀ (f : Nat) (x2 : Int32) (x3 : Int32) (M4 : hyM) (qL : (Int32 × Int32 × hyM)) (h : Rf_layPhrases_L9  f x2 x3 M4 = some qL) (H : Heap) (locs : List Loc) (ls : Array Slot) (hP : va_P G.1 vwCl (wld G (Mc, M4, Mo)) H) (hS : va_S (hyA G) s.heap H locs) (hl : lv_has ls 3 [(0, .ref (adr G 30)), (1, .int x2), (2, .int x3)]) (kk : ∀ (y2 : Int32) (y3 : Int32) (NM4 : hyM), qL = (y2, y3, NM4) → ∀ (H : Heap) (locs : List Loc) (ls : Array Slot), va_P G.1 vwCl (wld G (Mc, NM4, Mo)) H → va_S (hyA G) s.heap H locs → lv_has ls 3 [(0, .ref (adr G 30)), (1, .int y2), (2, .int y3)] → W p l e { frames := 0, cells := 0, slots := 6 * 0, locals := 0 } s m ([.ref (adr G 30)] : List Value).toArray below meth c H locs 0 0 (vx_MQ below (hyQ G (.inr none, (Mc, res, Mo))) (hyXQ G (.inr none, (Mc, res, Mo))) ([.ref (adr G 30)] : List Value).toArray s 0 (6 * 0) (hyA G)) (F0 m 78 ls [])), W p l e { frames := 0, cells := 0, slots := 6 * 0, locals := 0 } s m ([.ref (adr G 30)] : List Value).toArray below meth c H locs 0 0 (vx_MQ below (hyQ G (.inr none, (Mc, res, Mo))) (hyXQ G (.inr none, (Mc, res, Mo))) ([.ref (adr G 30)] : List Value).toArray s 0 (6 * 0) (hyA G)) (F0 m 9 ls []) := by
    intro f
    induction f with
    | zero =>
      intro x2 x3 M4 qL h H locs ls hP hS hl kk
      rw [Rf_layPhrases_L9] at h
      cases h
    | succ f ih =>
      intro x2 x3 M4 qL h H locs ls hP hS hl kk
      rw [Rf_layPhrases_L9] at h
      refine lv_iload_n hx hb dX11_layPhrases_9 rfl (lv_at hl 2 rfl) ?_
      refine lv_aload_n hx hb dX11_layPhrases_10 rfl (lv_at hl 0 rfl) ?_
      refine hy_get (T := (Mc, M4, Mo)) (o := 30) (k := 2) (v := .int (M4.1 30 2)) hx hb hown hts hX hP (by decide) rfl rfl inX11g (by decide) q_1194 rfl dX11_layPhrases_11 ?_
      refine lv_icmp_ge (tgt := 78) hx hb dX11_layPhrases_14 (by decide) (fun c5 => ?_) (fun c5 => ?_)
      · rw [if_pos c5] at h
        exact kk x2 x3 M4 (Option.some.inj h).symm _ _ ls hP hS (lv_sub hl [0, 1, 2] rfl)
      · rw [if_neg c5] at h
        refine lv_iload_n hx hb dX11_layPhrases_17 rfl (lv_at hl 1 rfl) ?_
        refine lv_if_eq (tgt := 41) hx hb dX11_layPhrases_18 (by decide) (fun c6 => ?_) (fun c6 => ?_)
        · rw [if_pos c6] at h
          refine lv_aload_n hx hb dX11_layPhrases_41 rfl (lv_at hl 0 rfl) ?_
          refine hy_get (T := (Mc, M4, Mo)) (o := 30) (k := 24) (v := .ref (adr G 45)) hx hb hown hts hX hP (by decide) rfl rfl inX11g (by decide) q_1216 rfl dX11_layPhrases_42 ?_
          refine lv_iload_n hx hb dX11_layPhrases_45 rfl (lv_at hl 2 rfl) ?_
          refine lv_aload_n hx hb dX11_layPhrases_46 rfl (lv_at hl 0 rfl) ?_
          refine hy_get (T := (Mc, M4, Mo)) (o := 30) (k := 21) (v := .int (M4.1 30 21)) hx hb hown hts hX hP (by decide) rfl rfl inX11g (by decide) q_1213 rfl dX11_layPhrases_47 ?_
          refine lv_iconst (v := 1) hx hb dX11_layPhrases_50 rfl ?_
          refine lv_isub hx hb dX11_layPhrases_51 ?_
          obtain ⟨M7, hM7, h⟩ := hy_bind h
          obtain ⟨nM7, hM7⟩ := stE_some hM7
          refine hy_iast (T := (Mc, M4, Mo)) (T2 := (Mc, (wI M4 45 x3.toNatClampNeg ((M4.1 30 21) - 1)), Mo)) hx hb hX hP hS 45 40 (by decide) (fun _ _ => rfl) nM7 rfl dX11_layPhrases_52 (fun H locs hP hS => ?_)
          rw [hM7] at hP
          refine lv_aload_n hx hb dX11_layPhrases_53 rfl (lv_at hl 0 rfl) ?_
          refine hy_get (T := (Mc, M7, Mo)) (o := 30) (k := 23) (v := .ref (adr G 44)) hx hb hown hts hX hP (by decide) rfl rfl inX11g (by decide) q_1215 rfl dX11_layPhrases_54 ?_
          refine lv_aload_n hx hb dX11_layPhrases_57 rfl (lv_at hl 0 rfl) ?_
          refine hy_get (T := (Mc, M7, Mo)) (o := 30) (k := 21) (v := .int (M7.1 30 21)) hx hb hown hts hX hP (by decide) rfl rfl inX11g (by decide) q_1213 rfl dX11_layPhrases_58 ?_
          refine lv_iconst (v := 1) hx hb dX11_layPhrases_61 rfl ?_
          refine lv_isub hx hb dX11_layPhrases_62 ?_
          refine lv_iload_n hx hb dX11_layPhrases_63 rfl (lv_at hl 2 rfl) ?_
          obtain ⟨M8, hM8, h⟩ := hy_bind h
          obtain ⟨nM8, hM8⟩ := stE_some hM8
          refine hy_iast (T := (Mc, M7, Mo)) (T2 := (Mc, (wI M7 44 ((M7.1 30 21) - 1).toNatClampNeg x3), Mo)) hx hb hX hP hS 44 40 (by decide) (fun _ _ => rfl) nM8 rfl dX11_layPhrases_64 (fun H locs hP hS => ?_)
          rw [hM8] at hP
          refine lv_aload_n hx hb dX11_layPhrases_65 rfl (lv_at hl 0 rfl) ?_
          refine hy_get (T := (Mc, M8, Mo)) (o := 30) (k := 6) (v := .ref (adr G 34)) hx hb hown hts hX hP (by decide) rfl rfl inX11g (by decide) q_1198 rfl dX11_layPhrases_66 ?_
          refine lv_iload_n hx hb dX11_layPhrases_69 rfl (lv_at hl 2 rfl) ?_
          obtain ⟨v9, hv9, h⟩ := hy_bind h
          obtain ⟨nv9, hv9⟩ := ldE_some hv9
          refine hy_zald (T := (Mc, M8, Mo)) hx hb hX hP 34 40 (M8.1 34) (by decide) rfl nv9 dX11_layPhrases_70 ?_
          rw [hv9]
          refine lv_istore_n (lv' := [(1, .int v9), (0, .ref (adr G 30)), (2, .int x3)]) hx hb dX11_layPhrases_71 rfl hl (by decide) rfl (fun ls hl => ?_)
          refine lv_iinc (v := (x3 + 1)) (lv' := [(2, .int (x3 + 1)), (1, .int v9), (0, .ref (adr G 30))]) hx hb dX11_layPhrases_72 hl (k := 2) rfl rfl (by decide) rfl (fun ls hl => ?_)
          refine lv_goto (tgt := 9) hx hb dX11_layPhrases_75 (by decide) ?_
          exact ih v9 (x3 + 1) M8 _ h  _ _ ls hP hS (lv_sub hl [2, 1, 0] rfl) kk
        · rw [if_neg c6] at h
          refine lv_aload_n hx hb dX11_layPhrases_21 rfl (lv_at hl 0 rfl) ?_
          refine hy_get (T := (Mc, M4, Mo)) (o := 30) (k := 22) (v := .ref (adr G 43)) hx hb hown hts hX hP (by decide) rfl rfl inX11g (by decide) q_1214 rfl dX11_layPhrases_22 ?_
          refine lv_aload_n hx hb dX11_layPhrases_25 rfl (lv_at hl 0 rfl) ?_
          refine hy_get (T := (Mc, M4, Mo)) (o := 30) (k := 21) (v := .int (M4.1 30 21)) hx hb hown hts hX hP (by decide) rfl rfl inX11g (by decide) q_1213 rfl dX11_layPhrases_26 ?_
          refine lv_iload_n hx hb dX11_layPhrases_29 rfl (lv_at hl 2 rfl) ?_
          obtain ⟨M10, hM10, h⟩ := hy_bind h
          obtain ⟨nM10, hM10⟩ := stE_some hM10
          refine hy_iast (T := (Mc, M4, Mo)) (T2 := (Mc, (wI M4 43 (M4.1 30 21).toNatClampNeg x3), Mo)) hx hb hX hP hS 43 40 (by decide) (fun _ _ => rfl) nM10 rfl dX11_layPhrases_30 (fun H locs hP hS => ?_)
          rw [hM10] at hP
          refine lv_aload_n hx hb dX11_layPhrases_31 rfl (lv_at hl 0 rfl) ?_
          refine lv_dup hx hb dX11_layPhrases_32 rfl ?_
          refine hy_get (T := (Mc, M10, Mo)) (o := 30) (k := 21) (v := .int (M10.1 30 21)) hx hb hown hts hX hP (by decide) rfl rfl inX11g (by decide) q_1213 rfl dX11_layPhrases_33 ?_
          refine lv_iconst (v := 1) hx hb dX11_layPhrases_36 rfl ?_
          refine lv_iadd hx hb dX11_layPhrases_37 ?_
          refine hy_putI (ty := .int) (T := (Mc, M10, Mo)) (T2 := (Mc, (wI M10 30 21 ((M10.1 30 21) + 1)), Mo)) (o := 30) (k := 21) hx hb hown hts hX hP hS (by decide) rfl rfl rfl rfl inX11g tyX11_ok nmX11 (by decide) q_1213 rfl rfl rfl rfl (Nat.le_of_ble_eq_true rfl) dX11_layPhrases_38 (fun H locs hP hS => ?_)
          obtain ⟨M11, hM11, h⟩ := hy_bind h
          rw [Option.some.inj hM11] at hP
          refine lv_aload_n hx hb dX11_layPhrases_41 rfl (lv_at hl 0 rfl) ?_
          refine hy_get (T := (Mc, M11, Mo)) (o := 30) (k := 24) (v := .ref (adr G 45)) hx hb hown hts hX hP (by decide) rfl rfl inX11g (by decide) q_1216 rfl dX11_layPhrases_42 ?_
          refine lv_iload_n hx hb dX11_layPhrases_45 rfl (lv_at hl 2 rfl) ?_
          refine lv_aload_n hx hb dX11_layPhrases_46 rfl (lv_at hl 0 rfl) ?_
          refine hy_get (T := (Mc, M11, Mo)) (o := 30) (k := 21) (v := .int (M11.1 30 21)) hx hb hown hts hX hP (by decide) rfl rfl inX11g (by decide) q_1213 rfl dX11_layPhrases_47 ?_
          refine lv_iconst (v := 1) hx hb dX11_layPhrases_50 rfl ?_
          refine lv_isub hx hb dX11_layPhrases_51 ?_
          obtain ⟨M12, hM12, h⟩ := hy_bind h
          obtain ⟨nM12, hM12⟩ := stE_some hM12
          refine hy_iast (T := (Mc, M11, Mo)) (T2 := (Mc, (wI M11 45 x3.toNatClampNeg ((M11.1 30 21) - 1)), Mo)) hx hb hX hP hS 45 40 (by decide) (fun _ _ => rfl) nM12 rfl dX11_layPhrases_52 (fun H locs hP hS => ?_)
          rw [hM12] at hP
          refine lv_aload_n hx hb dX11_layPhrases_53 rfl (lv_at hl 0 rfl) ?_
          refine hy_get (T := (Mc, M12, Mo)) (o := 30) (k := 23) (v := .ref (adr G 44)) hx hb hown hts hX hP (by decide) rfl rfl inX11g (by decide) q_1215 rfl dX11_layPhrases_54 ?_
          refine lv_aload_n hx hb dX11_layPhrases_57 rfl (lv_at hl 0 rfl) ?_
          refine hy_get (T := (Mc, M12, Mo)) (o := 30) (k := 21) (v := .int (M12.1 30 21)) hx hb hown hts hX hP (by decide) rfl rfl inX11g (by decide) q_1213 rfl dX11_layPhrases_58 ?_
          refine lv_iconst (v := 1) hx hb dX11_layPhrases_61 rfl ?_
          refine lv_isub hx hb dX11_layPhrases_62 ?_
          refine lv_iload_n hx hb dX11_layPhrases_63 rfl (lv_at hl 2 rfl) ?_
          obtain ⟨M13, hM13, h⟩ := hy_bind h
          obtain ⟨nM13, hM13⟩ := stE_some hM13
          refine hy_iast (T := (Mc, M12, Mo)) (T2 := (Mc, (wI M12 44 ((M12.1 30 21) - 1).toNatClampNeg x3), Mo)) hx hb hX hP hS 44 40 (by decide) (fun _ _ => rfl) nM13 rfl dX11_layPhrases_64 (fun H locs hP hS => ?_)
          rw [hM13] at hP
          refine lv_aload_n hx hb dX11_layPhrases_65 rfl (lv_at hl 0 rfl) ?_
          refine hy_get (T := (Mc, M13, Mo)) (o := 30) (k := 6) (v := .ref (adr G 34)) hx hb hown hts hX hP (by decide) rfl rfl inX11g (by decide) q_1198 rfl dX11_layPhrases_66 ?_
          refine lv_iload_n hx hb dX11_layPhrases_69 rfl (lv_at hl 2 rfl) ?_
          obtain ⟨v14, hv14, h⟩ := hy_bind h
          obtain ⟨nv14, hv14⟩ := ldE_some hv14
          refine hy_zald (T := (Mc, M13, Mo)) hx hb hX hP 34 40 (M13.1 34) (by decide) rfl nv14 dX11_layPhrases_70 ?_
          rw [hv14]
          refine lv_istore_n (lv' := [(1, .int v14), (0, .ref (adr G 30)), (2, .int x3)]) hx hb dX11_layPhrases_71 rfl hl (by decide) rfl (fun ls hl => ?_)
          refine lv_iinc (v := (x3 + 1)) (lv' := [(2, .int (x3 + 1)), (1, .int v14), (0, .ref (adr G 30))]) hx hb dX11_layPhrases_72 hl (k := 2) rfl rfl (by decide) rfl (fun ls hl => ?_)
          refine lv_goto (tgt := 9) hx hb dX11_layPhrases_75 (by decide) ?_
          exact ih v14 (x3 + 1) M13 _ h  _ _ ls hP hS (lv_sub hl [2, 1, 0] rfl) kk
  obtain ⟨q16, hq16, h⟩ := hy_bind h
  refine L15 hyFu 1 0 M1 q16 hq16 _ _ ls hP hS (lv_sub hl [2, 1, 0] rfl) ?_
  intro y2 y3 NM4 e9 H locs ls hP hS hl
  subst e9
  try dsimp only at h
  exact hy_vret (T := (Mc, NM4, Mo)) hx hb hr hlocks hP hS (Nat.zero_le _) (Nat.zero_le _) (by rw [← (Option.some.inj h)] <;> rfl) dX11_layPhrases_78
