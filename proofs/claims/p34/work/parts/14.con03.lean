set_option maxHeartbeats 1000000 in
set_option maxRecDepth 100000 in
theorem c_Ph_find {l : Launch} {G : hyG} (Mr Mo : hyM) (M : hyM) {res : hyM} (h : Ph_find M = some res) : hyC l yX6_find (.code yX6_find cX6_find 4 none) 3 65 (0) G [.ref (adr G 12), .ref (adr G 1)] (M, Mr, Mo) (.inr none, (res, Mr, Mo)) := by
  refine hy_of (by decide +kernel) (Nat.le_of_ble_eq_true rfl) ?_
  intro p e s m below meth c hx hb hml hown hts hr hlocks ht hX hP hS ls hl
  have hl : lv_has ls 4 [(0, .ref (adr G 12)), (1, .ref (adr G 1))] := hl
  rw [Ph_find] at h
  refine lv_aload_n hx hb dX6_find_0 rfl (lv_at hl 0 rfl) ?_
  refine lv_iconst (v := 0) hx hb dX6_find_1 rfl ?_
  refine hy_putI (ty := .int) (T := (M, Mr, Mo)) (T2 := ((wI M 12 5 0), Mr, Mo)) (o := 12) (k := 5) hx hb hown hts hX hP hS (by decide) rfl rfl rfl rfl inX6g tyX6_ok nmX6 (by decide) q_202 rfl rfl rfl rfl (Nat.le_of_ble_eq_true rfl) dX6_find_2 (fun H locs hP hS => ?_)
  obtain ⟨M1, hM1, h⟩ := hy_bind h
  rw [Option.some.inj hM1] at hP
  refine lv_iconst (v := 1) hx hb dX6_find_5 rfl ?_
  refine lv_istore_n (lv' := [(2, .int 1), (0, .ref (adr G 12)), (1, .ref (adr G 1))]) hx hb dX6_find_6 rfl hl (by decide) rfl (fun ls hl => ?_)
  refine lv_iconst (v := 0) hx hb dX6_find_7 rfl ?_
  refine lv_istore_n (lv' := [(3, .int 0), (2, .int 1), (0, .ref (adr G 12)), (1, .ref (adr G 1))]) hx hb dX6_find_8 rfl hl (by decide) rfl (fun ls hl => ?_)
  have L16 : ∀ (f : Nat) (x2 : Bool) (x3 : Int32) (M4 : hyM) (qL : (Bool × Int32 × hyM)) (h : Ph_find_L9  f x2 x3 M4 = some qL) (H : Heap) (locs : List Loc) (ls : Array Slot) (hP : va_P G.1 vwCl (wld G (M4, Mr, Mo)) H) (hS : va_S (hyA G) s.heap H locs) (hl : lv_has ls 4 [(0, .ref (adr G 12)), (1, .ref (adr G 1)), (2, .int (bI x2)), (3, .int x3)]) (kk : ∀ (y2 : Bool) (y3 : Int32) (NM4 : hyM), qL = (y2, y3, NM4) → ∀ (H : Heap) (locs : List Loc) (ls : Array Slot), va_P G.1 vwCl (wld G (NM4, Mr, Mo)) H → va_S (hyA G) s.heap H locs → lv_has ls 4 [(0, .ref (adr G 12)), (1, .ref (adr G 1)), (2, .int (bI y2)), (3, .int y3)] → W p l e { frames := 3, cells := 0, slots := 6 * 0, locals := 65 } s m ([.ref (adr G 12), .ref (adr G 1)] : List Value).toArray below meth c H locs 0 0 (vx_MQ below (hyQ G (.inr none, (res, Mr, Mo))) (hyXQ G (.inr none, (res, Mr, Mo))) ([.ref (adr G 12), .ref (adr G 1)] : List Value).toArray s 0 (6 * 0) (hyA G)) (F0 m 66 ls [])), W p l e { frames := 3, cells := 0, slots := 6 * 0, locals := 65 } s m ([.ref (adr G 12), .ref (adr G 1)] : List Value).toArray below meth c H locs 0 0 (vx_MQ below (hyQ G (.inr none, (res, Mr, Mo))) (hyXQ G (.inr none, (res, Mr, Mo))) ([.ref (adr G 12), .ref (adr G 1)] : List Value).toArray s 0 (6 * 0) (hyA G)) (F0 m 9 ls []) := by
    intro f
    induction f with
    | zero =>
      intro x2 x3 M4 qL h H locs ls hP hS hl kk
      rw [Ph_find_L9] at h
      cases h
    | succ f ih =>
      intro x2 x3 M4 qL h H locs ls hP hS hl kk
      rw [Ph_find_L9] at h
      refine lv_iload_n hx hb dX6_find_9 rfl (lv_at hl 3 rfl) ?_
      refine lv_aload_n hx hb dX6_find_10 rfl (lv_at hl 1 rfl) ?_
      refine hy_getN (T := (M4, Mr, Mo)) (o := 1) (k := 4) (v := .int (M4.1 1 4)) hx hb hown hts hX hP (by decide) rfl rfl inX8g (by decide) q_126 rfl dX6_find_11 ?_
      refine lv_icmp_ge (tgt := 66) hx hb dX6_find_14 (by decide) (fun c5 => ?_) (fun c5 => ?_)
      · rw [if_pos c5] at h
        exact kk x2 x3 M4 (Option.some.inj h).symm _ _ ls hP hS (lv_sub hl [0, 1, 2, 3] rfl)
      · rw [if_neg c5] at h
        refine lv_iload_n hx hb dX6_find_17 rfl (lv_at hl 2 rfl) ?_
        refine lv_if_eq (tgt := 26) hx hb dX6_find_18 (by decide) (fun c6 => ?_) (fun c6 => ?_)
        · rw [if_neg (bI_0 c6)] at h
          refine lv_aload_n hx hb dX6_find_26 rfl (lv_at hl 0 rfl) ?_
          refine lv_iload_n hx hb dX6_find_27 rfl (lv_at hl 3 rfl) ?_
          refine lv_iload_n hx hb dX6_find_28 rfl (lv_at hl 2 rfl) ?_
          have J10 : ∀ (H : Heap) (locs : List Loc) (ls : Array Slot) (u1 : Int32), u1 = (bI (if x2 then false else (Hp_hasBit (M4.2 1 2) x3 M4))) → va_P G.1 vwCl (wld G (M4, Mr, Mo)) H → va_S (hyA G) s.heap H locs → lv_has ls 4 [(0, .ref (adr G 12)), (1, .ref (adr G 1)), (2, .int (bI x2)), (3, .int x3)] → W p l e { frames := 3, cells := 0, slots := 6 * 0, locals := 65 } s m ([.ref (adr G 12), .ref (adr G 1)] : List Value).toArray below meth c H locs 0 0 (vx_MQ below (hyQ G (.inr none, (res, Mr, Mo))) (hyXQ G (.inr none, (res, Mr, Mo))) ([.ref (adr G 12), .ref (adr G 1)] : List Value).toArray s 0 (6 * 0) (hyA G)) (F0 m 48 ls [.int u1, .int x3, .ref (adr G 12)]) := by
            intro H locs ls u1 eu1 hP hS hl
            subst eu1
            refine hy_ret (hy_rV0 (T := (M4, Mr, Mo)) (v := none) (T2 := ((Ph_take x3 (if x2 then false else (Hp_hasBit (M4.2 1 2) x3 M4)) M4), Mr, Mo)) (As := [.int x3, .int (bI (if x2 then false else (Hp_hasBit (M4.2 1 2) x3 M4)))]) (rest := []) (n := 0) hx hb hml hown hts hX hP hS hl (c_Ph_take Mr Mo x3 (if x2 then false else (Hp_hasBit (M4.2 1 2) x3 M4)) M4 rfl) m_Ph_take q_444 (hy_recv hX hP 12 5 (by decide) rfl rfl) rfl rfl (Nat.le_of_ble_eq_true rfl) dX6_find_48 ⟨Nat.le_of_ble_eq_true rfl, Nat.le_of_ble_eq_true rfl⟩ ⟨Nat.zero_le _, Nat.zero_le _⟩) hS (fun H locs hP hS => ?_)
            obtain ⟨M9, hM9, h⟩ := hy_bind h
            rw [Option.some.inj hM9] at hP
            refine lv_aload_n hx hb dX6_find_51 rfl (lv_at hl 1 rfl) ?_
            refine hy_getN (T := (M9, Mr, Mo)) (o := 1) (k := 3) (v := .long (M9.2 1 3)) hx hb hown hts hX hP (by decide) rfl rfl inX8g (by decide) q_122 rfl dX6_find_52 ?_
            refine lv_iload_n hx hb dX6_find_55 rfl (lv_at hl 3 rfl) ?_
            refine hy_ret (hy_rSN (T := (M9, Mr, Mo)) (v := some (.int (bI (Hp_hasBit (M9.2 1 3) x3 M9)))) (T2 := (M9, Mr, Mo)) (As := [.long (M9.2 1 3), .int x3]) (rest := []) (n := 0) hx hb hml hown hts hX hP hS hl (c_Hp_hasBit Mr Mo (M9.2 1 3) x3 M9 rfl) m_Hp_hasBit q_441 rfl rfl (Nat.le_of_ble_eq_true rfl) dX6_find_56 ⟨Nat.le_of_ble_eq_true rfl, Nat.le_of_ble_eq_true rfl⟩ ⟨Nat.zero_le _, Nat.zero_le _⟩) hS (fun H locs hP hS => ?_)
            refine lv_istore_n (lv' := [(2, .int (bI (Hp_hasBit (M9.2 1 3) x3 M9))), (0, .ref (adr G 12)), (1, .ref (adr G 1)), (3, .int x3)]) hx hb dX6_find_59 rfl hl (by decide) rfl (fun ls hl => ?_)
            refine lv_iinc (v := (x3 + 1)) (lv' := [(3, .int (x3 + 1)), (2, .int (bI (Hp_hasBit (M9.2 1 3) x3 M9))), (0, .ref (adr G 12)), (1, .ref (adr G 1))]) hx hb dX6_find_60 hl (k := 3) rfl rfl (by decide) rfl (fun ls hl => ?_)
            refine lv_goto (tgt := 9) hx hb dX6_find_63 (by decide) ?_
            exact ih (Hp_hasBit (M9.2 1 3) x3 M9) (x3 + 1) M9 _ h  _ _ ls hP hS (lv_sub hl [2, 3, 1, 0] rfl) kk
          refine lv_if_ne (tgt := 47) hx hb dX6_find_29 (by decide) (fun c7 => ?_) (fun c7 => ?_)
          · refine lv_iconst (v := 0) hx hb dX6_find_47 rfl ?_
            exact J10 _ _ ls 0 (by rw [if_pos (bI_1 c7)] <;> rfl) hP hS (lv_sub hl [0, 1, 2, 3] rfl)
          · refine lv_aload_n hx hb dX6_find_32 rfl (lv_at hl 1 rfl) ?_
            refine hy_getN (T := (M4, Mr, Mo)) (o := 1) (k := 2) (v := .long (M4.2 1 2)) hx hb hown hts hX hP (by decide) rfl rfl inX8g (by decide) q_119 rfl dX6_find_33 ?_
            refine lv_iload_n hx hb dX6_find_36 rfl (lv_at hl 3 rfl) ?_
            refine hy_ret (hy_rSN (T := (M4, Mr, Mo)) (v := some (.int (bI (Hp_hasBit (M4.2 1 2) x3 M4)))) (T2 := (M4, Mr, Mo)) (As := [.long (M4.2 1 2), .int x3]) (rest := [.int x3, .ref (adr G 12)]) (n := 0) hx hb hml hown hts hX hP hS hl (c_Hp_hasBit Mr Mo (M4.2 1 2) x3 M4 rfl) m_Hp_hasBit q_441 rfl rfl (Nat.le_of_ble_eq_true rfl) dX6_find_37 ⟨Nat.le_of_ble_eq_true rfl, Nat.le_of_ble_eq_true rfl⟩ ⟨Nat.zero_le _, Nat.zero_le _⟩) hS (fun H locs hP hS => ?_)
            refine lv_if_eq (tgt := 47) hx hb dX6_find_40 (by decide) (fun c8 => ?_) (fun c8 => ?_)
            · refine lv_iconst (v := 0) hx hb dX6_find_47 rfl ?_
              exact J10 _ _ ls 0 (by rw [if_neg (bI_0 c7), (bI_z c8)] <;> rfl) hP hS (lv_sub hl [0, 1, 2, 3] rfl)
            · refine lv_iconst (v := 1) hx hb dX6_find_43 rfl ?_
              refine lv_goto (tgt := 48) hx hb dX6_find_44 (by decide) ?_
              exact J10 _ _ ls 1 (by rw [if_neg (bI_0 c7), (bI_1 c8)] <;> rfl) hP hS (lv_sub hl [0, 1, 2, 3] rfl)
        · rw [if_pos (bI_1 c6)] at h
          refine lv_aload_n hx hb dX6_find_21 rfl (lv_at hl 0 rfl) ?_
          refine lv_iload_n hx hb dX6_find_22 rfl (lv_at hl 3 rfl) ?_
          refine hy_ret (hy_rV0 (T := (M4, Mr, Mo)) (v := none) (T2 := ((Ph_open x3 M4), Mr, Mo)) (As := [.int x3]) (rest := []) (n := 0) hx hb hml hown hts hX hP hS hl (c_Ph_open Mr Mo x3 M4 rfl) m_Ph_open q_436 (hy_recv hX hP 12 5 (by decide) rfl rfl) rfl rfl (Nat.le_of_ble_eq_true rfl) dX6_find_23 ⟨Nat.le_of_ble_eq_true rfl, Nat.le_of_ble_eq_true rfl⟩ ⟨Nat.zero_le _, Nat.zero_le _⟩) hS (fun H locs hP hS => ?_)
          obtain ⟨M11, hM11, h⟩ := hy_bind h
          rw [Option.some.inj hM11] at hP
          refine lv_aload_n hx hb dX6_find_26 rfl (lv_at hl 0 rfl) ?_
          refine lv_iload_n hx hb dX6_find_27 rfl (lv_at hl 3 rfl) ?_
          refine lv_iload_n hx hb dX6_find_28 rfl (lv_at hl 2 rfl) ?_
          have J15 : ∀ (H : Heap) (locs : List Loc) (ls : Array Slot) (u1 : Int32), u1 = (bI (if x2 then false else (Hp_hasBit (M11.2 1 2) x3 M11))) → va_P G.1 vwCl (wld G (M11, Mr, Mo)) H → va_S (hyA G) s.heap H locs → lv_has ls 4 [(0, .ref (adr G 12)), (1, .ref (adr G 1)), (2, .int (bI x2)), (3, .int x3)] → W p l e { frames := 3, cells := 0, slots := 6 * 0, locals := 65 } s m ([.ref (adr G 12), .ref (adr G 1)] : List Value).toArray below meth c H locs 0 0 (vx_MQ below (hyQ G (.inr none, (res, Mr, Mo))) (hyXQ G (.inr none, (res, Mr, Mo))) ([.ref (adr G 12), .ref (adr G 1)] : List Value).toArray s 0 (6 * 0) (hyA G)) (F0 m 48 ls [.int u1, .int x3, .ref (adr G 12)]) := by
            intro H locs ls u1 eu1 hP hS hl
            subst eu1
            refine hy_ret (hy_rV0 (T := (M11, Mr, Mo)) (v := none) (T2 := ((Ph_take x3 (if x2 then false else (Hp_hasBit (M11.2 1 2) x3 M11)) M11), Mr, Mo)) (As := [.int x3, .int (bI (if x2 then false else (Hp_hasBit (M11.2 1 2) x3 M11)))]) (rest := []) (n := 0) hx hb hml hown hts hX hP hS hl (c_Ph_take Mr Mo x3 (if x2 then false else (Hp_hasBit (M11.2 1 2) x3 M11)) M11 rfl) m_Ph_take q_444 (hy_recv hX hP 12 5 (by decide) rfl rfl) rfl rfl (Nat.le_of_ble_eq_true rfl) dX6_find_48 ⟨Nat.le_of_ble_eq_true rfl, Nat.le_of_ble_eq_true rfl⟩ ⟨Nat.zero_le _, Nat.zero_le _⟩) hS (fun H locs hP hS => ?_)
            obtain ⟨M14, hM14, h⟩ := hy_bind h
            rw [Option.some.inj hM14] at hP
            refine lv_aload_n hx hb dX6_find_51 rfl (lv_at hl 1 rfl) ?_
            refine hy_getN (T := (M14, Mr, Mo)) (o := 1) (k := 3) (v := .long (M14.2 1 3)) hx hb hown hts hX hP (by decide) rfl rfl inX8g (by decide) q_122 rfl dX6_find_52 ?_
            refine lv_iload_n hx hb dX6_find_55 rfl (lv_at hl 3 rfl) ?_
            refine hy_ret (hy_rSN (T := (M14, Mr, Mo)) (v := some (.int (bI (Hp_hasBit (M14.2 1 3) x3 M14)))) (T2 := (M14, Mr, Mo)) (As := [.long (M14.2 1 3), .int x3]) (rest := []) (n := 0) hx hb hml hown hts hX hP hS hl (c_Hp_hasBit Mr Mo (M14.2 1 3) x3 M14 rfl) m_Hp_hasBit q_441 rfl rfl (Nat.le_of_ble_eq_true rfl) dX6_find_56 ⟨Nat.le_of_ble_eq_true rfl, Nat.le_of_ble_eq_true rfl⟩ ⟨Nat.zero_le _, Nat.zero_le _⟩) hS (fun H locs hP hS => ?_)
            refine lv_istore_n (lv' := [(2, .int (bI (Hp_hasBit (M14.2 1 3) x3 M14))), (0, .ref (adr G 12)), (1, .ref (adr G 1)), (3, .int x3)]) hx hb dX6_find_59 rfl hl (by decide) rfl (fun ls hl => ?_)
            refine lv_iinc (v := (x3 + 1)) (lv' := [(3, .int (x3 + 1)), (2, .int (bI (Hp_hasBit (M14.2 1 3) x3 M14))), (0, .ref (adr G 12)), (1, .ref (adr G 1))]) hx hb dX6_find_60 hl (k := 3) rfl rfl (by decide) rfl (fun ls hl => ?_)
            refine lv_goto (tgt := 9) hx hb dX6_find_63 (by decide) ?_
            exact ih (Hp_hasBit (M14.2 1 3) x3 M14) (x3 + 1) M14 _ h  _ _ ls hP hS (lv_sub hl [2, 3, 1, 0] rfl) kk
          refine lv_if_ne (tgt := 47) hx hb dX6_find_29 (by decide) (fun c12 => ?_) (fun c12 => ?_)
          · refine lv_iconst (v := 0) hx hb dX6_find_47 rfl ?_
            exact J15 _ _ ls 0 (by rw [if_pos (bI_1 c12)] <;> rfl) hP hS (lv_sub hl [0, 1, 2, 3] rfl)
          · refine lv_aload_n hx hb dX6_find_32 rfl (lv_at hl 1 rfl) ?_
            refine hy_getN (T := (M11, Mr, Mo)) (o := 1) (k := 2) (v := .long (M11.2 1 2)) hx hb hown hts hX hP (by decide) rfl rfl inX8g (by decide) q_119 rfl dX6_find_33 ?_
            refine lv_iload_n hx hb dX6_find_36 rfl (lv_at hl 3 rfl) ?_
            refine hy_ret (hy_rSN (T := (M11, Mr, Mo)) (v := some (.int (bI (Hp_hasBit (M11.2 1 2) x3 M11)))) (T2 := (M11, Mr, Mo)) (As := [.long (M11.2 1 2), .int x3]) (rest := [.int x3, .ref (adr G 12)]) (n := 0) hx hb hml hown hts hX hP hS hl (c_Hp_hasBit Mr Mo (M11.2 1 2) x3 M11 rfl) m_Hp_hasBit q_441 rfl rfl (Nat.le_of_ble_eq_true rfl) dX6_find_37 ⟨Nat.le_of_ble_eq_true rfl, Nat.le_of_ble_eq_true rfl⟩ ⟨Nat.zero_le _, Nat.zero_le _⟩) hS (fun H locs hP hS => ?_)
            refine lv_if_eq (tgt := 47) hx hb dX6_find_40 (by decide) (fun c13 => ?_) (fun c13 => ?_)
            · refine lv_iconst (v := 0) hx hb dX6_find_47 rfl ?_
              exact J15 _ _ ls 0 (by rw [if_neg (bI_0 c12), (bI_z c13)] <;> rfl) hP hS (lv_sub hl [0, 1, 2, 3] rfl)
            · refine lv_iconst (v := 1) hx hb dX6_find_43 rfl ?_
              refine lv_goto (tgt := 48) hx hb dX6_find_44 (by decide) ?_
              exact J15 _ _ ls 1 (by rw [if_neg (bI_0 c12), (bI_1 c13)] <;> rfl) hP hS (lv_sub hl [0, 1, 2, 3] rfl)
  obtain ⟨q17, hq17, h⟩ := hy_bind h
  refine L16 hyFu true 0 M1 q17 hq17 _ _ ls hP hS (lv_sub hl [2, 3, 1, 0] rfl) ?_
  intro y2 y3 NM4 e9 H locs ls hP hS hl
  subst e9
  try dsimp only at h
  exact hy_vret (T := (NM4, Mr, Mo)) hx hb hr hlocks hP hS (Nat.zero_le _) (Nat.zero_le _) (by rw [← (Option.some.inj h)] <;> rfl) dX6_find_66
set_option maxHeartbeats 1000000 in
set_option maxRecDepth 100000 in
theorem c_Ph_phraseOf {l : Launch} {G : hyG} (Mr Mo : hyM) (a1 : Int32) (M : hyM) {res : Int32} (h : Ph_phraseOf a1 M = res) : hyC l yX6_phraseOf (.code yX6_phraseOf cX6_phraseOf 2 (some .int)) 1 21 (0) G [.ref (adr G 12), .int a1] (M, Mr, Mo) (.inr (some (.int res)), (M, Mr, Mo)) := by
  refine hy_of (by decide +kernel) (Nat.le_of_ble_eq_true rfl) ?_
  intro p e s m below meth c hx hb hml hown hts hr hlocks ht hX hP hS ls hl
  have hl : lv_has ls 2 [(0, .ref (adr G 12)), (1, .int a1)] := hl
  rw [Ph_phraseOf] at h
  refine lv_aload_n hx hb dX6_phraseOf_0 rfl (lv_at hl 0 rfl) ?_
  refine hy_get (T := (M, Mr, Mo)) (o := 12) (k := 0) (v := .ref (adr G 13)) hx hb hown hts hX hP (by decide) rfl rfl inX6g (by decide) q_197 rfl dX6_phraseOf_1 ?_
  refine lv_iload_n hx hb dX6_phraseOf_4 rfl (lv_at hl 1 rfl) ?_
  refine hy_ret (hy_rSN (T := (M, Mr, Mo)) (v := some (.int (atf 40 (M.1 13) a1))) (T2 := (M, Mr, Mo)) (As := [.ref (adr G 13), .int a1]) (rest := []) (n := 0) hx hb hml hown hts hX hP hS hl (c_at 13 40 (hy34 G (by decide)) (by decide) (fun _ _ => rfl) a1 (M, Mr, Mo)) m_Hp_at q_452 rfl rfl (Nat.le_of_ble_eq_true rfl) dX6_phraseOf_5 ⟨Nat.le_of_ble_eq_true rfl, Nat.le_of_ble_eq_true rfl⟩ ⟨Nat.zero_le _, Nat.zero_le _⟩) hS (fun H locs hP hS => ?_)
  exact hy_iret (T := (M, Mr, Mo)) hx hb hr hlocks hP hS (Nat.zero_le _) (Nat.zero_le _) (by rw [← h] <;> rfl) dX6_phraseOf_8
set_option maxHeartbeats 1000000 in
set_option maxRecDepth 100000 in
theorem c_Ph_notesOf {l : Launch} {G : hyG} (Mr Mo : hyM) (a1 : Int32) (M : hyM) {res : Int32} (h : Ph_notesOf a1 M = res) : hyC l yX6_notesOf (.code yX6_notesOf cX6_notesOf 2 (some .int)) 2 42 (0) G [.ref (adr G 12), .int a1] (M, Mr, Mo) (.inr (some (.int res)), (M, Mr, Mo)) := by
  refine hy_of (by decide +kernel) (Nat.le_of_ble_eq_true rfl) ?_
  intro p e s m below meth c hx hb hml hown hts hr hlocks ht hX hP hS ls hl
  have hl : lv_has ls 2 [(0, .ref (adr G 12)), (1, .int a1)] := hl
  rw [Ph_notesOf] at h
  refine lv_aload_n hx hb dX6_notesOf_0 rfl (lv_at hl 0 rfl) ?_
  refine lv_iload_n hx hb dX6_notesOf_1 rfl (lv_at hl 1 rfl) ?_
  refine hy_ret (hy_rV0 (T := (M, Mr, Mo)) (v := some (.int (Ph_lastOf a1 M))) (T2 := (M, Mr, Mo)) (As := [.int a1]) (rest := []) (n := 0) hx hb hml hown hts hX hP hS hl (c_Ph_lastOf Mr Mo a1 M rfl) m_Ph_lastOf q_859 (hy_recv hX hP 12 5 (by decide) rfl rfl) rfl rfl (Nat.le_of_ble_eq_true rfl) dX6_notesOf_2 ⟨Nat.le_of_ble_eq_true rfl, Nat.le_of_ble_eq_true rfl⟩ ⟨Nat.zero_le _, Nat.zero_le _⟩) hS (fun H locs hP hS => ?_)
  refine lv_aload_n hx hb dX6_notesOf_5 rfl (lv_at hl 0 rfl) ?_
  refine lv_iload_n hx hb dX6_notesOf_6 rfl (lv_at hl 1 rfl) ?_
  refine hy_ret (hy_rV0 (T := (M, Mr, Mo)) (v := some (.int (Ph_firstOf a1 M))) (T2 := (M, Mr, Mo)) (As := [.int a1]) (rest := [.int (Ph_lastOf a1 M)]) (n := 0) hx hb hml hown hts hX hP hS hl (c_Ph_firstOf Mr Mo a1 M rfl) m_Ph_firstOf q_860 (hy_recv hX hP 12 5 (by decide) rfl rfl) rfl rfl (Nat.le_of_ble_eq_true rfl) dX6_notesOf_7 ⟨Nat.le_of_ble_eq_true rfl, Nat.le_of_ble_eq_true rfl⟩ ⟨Nat.zero_le _, Nat.zero_le _⟩) hS (fun H locs hP hS => ?_)
  refine lv_isub hx hb dX6_notesOf_10 ?_
  refine lv_iconst (v := 1) hx hb dX6_notesOf_11 rfl ?_
  refine lv_iadd hx hb dX6_notesOf_12 ?_
  exact hy_iret (T := (M, Mr, Mo)) hx hb hr hlocks hP hS (Nat.zero_le _) (Nat.zero_le _) (by rw [← h] <;> rfl) dX6_notesOf_13
set_option maxHeartbeats 1000000 in
set_option maxRecDepth 100000 in
theorem c_Re_push {l : Launch} {G : hyG} (Mr Mo : hyM) (a1 : Int32) (a2 : Int32) (a3 : Int32) (M : hyM) {res : hyM} (h : Re_push a1 a2 a3 M = res) : hyC l yX7_push (.code yX7_push cX7_push 4 none) 1 22 (0) G [.ref (adr G 5), .int a1, .int a2, .int a3] (M, Mr, Mo) (.inr none, (res, Mr, Mo)) := by
  refine hy_of (by decide +kernel) (Nat.le_of_ble_eq_true rfl) ?_
  intro p e s m below meth c hx hb hml hown hts hr hlocks ht hX hP hS ls hl
  have hl : lv_has ls 4 [(0, .ref (adr G 5)), (1, .int a1), (2, .int a2), (3, .int a3)] := hl
  rw [Re_push] at h
  refine lv_aload_n hx hb dX7_push_0 rfl (lv_at hl 0 rfl) ?_
  refine hy_get (T := (M, Mr, Mo)) (o := 5) (k := 0) (v := .ref (adr G 6)) hx hb hown hts hX hP (by decide) rfl rfl inX7g (by decide) q_164 rfl dX7_push_1 ?_
  refine lv_aload_n hx hb dX7_push_4 rfl (lv_at hl 0 rfl) ?_
  refine hy_get (T := (M, Mr, Mo)) (o := 5) (k := 3) (v := .int (M.1 5 3)) hx hb hown hts hX hP (by decide) rfl rfl inX7g (by decide) q_167 rfl dX7_push_5 ?_
  refine lv_iload_n hx hb dX7_push_8 rfl (lv_at hl 1 rfl) ?_
  refine hy_ret (hy_rSN (T := (M, Mr, Mo)) (v := none) (T2 := ((putf M 6 3 (M.1 5 3) a1), Mr, Mo)) (As := [.ref (adr G 6), .int (M.1 5 3), .int a1]) (rest := []) (n := 0) hx hb hml hown hts hX hP hS hl (c_put Mr Mo 6 3 (by decide) (by decide) (fun _ _ => rfl) (M.1 5 3) a1 M) m_Hp_put q_463 rfl rfl (Nat.le_of_ble_eq_true rfl) dX7_push_9 ⟨Nat.le_of_ble_eq_true rfl, Nat.le_of_ble_eq_true rfl⟩ ⟨Nat.zero_le _, Nat.zero_le _⟩) hS (fun H locs hP hS => ?_)
  refine lv_aload_n hx hb dX7_push_12 rfl (lv_at hl 0 rfl) ?_
  refine hy_get (T := ((putf M 6 3 (M.1 5 3) a1), Mr, Mo)) (o := 5) (k := 1) (v := .ref (adr G 7)) hx hb hown hts hX hP (by decide) rfl rfl inX7g (by decide) q_165 rfl dX7_push_13 ?_
  refine lv_aload_n hx hb dX7_push_16 rfl (lv_at hl 0 rfl) ?_
  refine hy_get (T := ((putf M 6 3 (M.1 5 3) a1), Mr, Mo)) (o := 5) (k := 3) (v := .int ((putf M 6 3 (M.1 5 3) a1).1 5 3)) hx hb hown hts hX hP (by decide) rfl rfl inX7g (by decide) q_167 rfl dX7_push_17 ?_
  refine lv_iload_n hx hb dX7_push_20 rfl (lv_at hl 2 rfl) ?_
  refine hy_ret (hy_rSN (T := ((putf M 6 3 (M.1 5 3) a1), Mr, Mo)) (v := none) (T2 := ((putf (putf M 6 3 (M.1 5 3) a1) 7 3 ((putf M 6 3 (M.1 5 3) a1).1 5 3) a2), Mr, Mo)) (As := [.ref (adr G 7), .int ((putf M 6 3 (M.1 5 3) a1).1 5 3), .int a2]) (rest := []) (n := 0) hx hb hml hown hts hX hP hS hl (c_put Mr Mo 7 3 (by decide) (by decide) (fun _ _ => rfl) ((putf M 6 3 (M.1 5 3) a1).1 5 3) a2 (putf M 6 3 (M.1 5 3) a1)) m_Hp_put q_463 rfl rfl (Nat.le_of_ble_eq_true rfl) dX7_push_21 ⟨Nat.le_of_ble_eq_true rfl, Nat.le_of_ble_eq_true rfl⟩ ⟨Nat.zero_le _, Nat.zero_le _⟩) hS (fun H locs hP hS => ?_)
  refine lv_aload_n hx hb dX7_push_24 rfl (lv_at hl 0 rfl) ?_
  refine hy_get (T := ((putf (putf M 6 3 (M.1 5 3) a1) 7 3 ((putf M 6 3 (M.1 5 3) a1).1 5 3) a2), Mr, Mo)) (o := 5) (k := 2) (v := .ref (adr G 8)) hx hb hown hts hX hP (by decide) rfl rfl inX7g (by decide) q_166 rfl dX7_push_25 ?_
  refine lv_aload_n hx hb dX7_push_28 rfl (lv_at hl 0 rfl) ?_
  refine hy_get (T := ((putf (putf M 6 3 (M.1 5 3) a1) 7 3 ((putf M 6 3 (M.1 5 3) a1).1 5 3) a2), Mr, Mo)) (o := 5) (k := 3) (v := .int ((putf (putf M 6 3 (M.1 5 3) a1) 7 3 ((putf M 6 3 (M.1 5 3) a1).1 5 3) a2).1 5 3)) hx hb hown hts hX hP (by decide) rfl rfl inX7g (by decide) q_167 rfl dX7_push_29 ?_
  refine lv_iload_n hx hb dX7_push_32 rfl (lv_at hl 3 rfl) ?_
  refine hy_ret (hy_rSN (T := ((putf (putf M 6 3 (M.1 5 3) a1) 7 3 ((putf M 6 3 (M.1 5 3) a1).1 5 3) a2), Mr, Mo)) (v := none) (T2 := ((putf (putf (putf M 6 3 (M.1 5 3) a1) 7 3 ((putf M 6 3 (M.1 5 3) a1).1 5 3) a2) 8 3 ((putf (putf M 6 3 (M.1 5 3) a1) 7 3 ((putf M 6 3 (M.1 5 3) a1).1 5 3) a2).1 5 3) a3), Mr, Mo)) (As := [.ref (adr G 8), .int ((putf (putf M 6 3 (M.1 5 3) a1) 7 3 ((putf M 6 3 (M.1 5 3) a1).1 5 3) a2).1 5 3), .int a3]) (rest := []) (n := 0) hx hb hml hown hts hX hP hS hl (c_put Mr Mo 8 3 (by decide) (by decide) (fun _ _ => rfl) ((putf (putf M 6 3 (M.1 5 3) a1) 7 3 ((putf M 6 3 (M.1 5 3) a1).1 5 3) a2).1 5 3) a3 (putf (putf M 6 3 (M.1 5 3) a1) 7 3 ((putf M 6 3 (M.1 5 3) a1).1 5 3) a2)) m_Hp_put q_463 rfl rfl (Nat.le_of_ble_eq_true rfl) dX7_push_33 ⟨Nat.le_of_ble_eq_true rfl, Nat.le_of_ble_eq_true rfl⟩ ⟨Nat.zero_le _, Nat.zero_le _⟩) hS (fun H locs hP hS => ?_)
  refine lv_aload_n hx hb dX7_push_36 rfl (lv_at hl 0 rfl) ?_
  refine lv_dup hx hb dX7_push_37 rfl ?_
  refine hy_get (T := ((putf (putf (putf M 6 3 (M.1 5 3) a1) 7 3 ((putf M 6 3 (M.1 5 3) a1).1 5 3) a2) 8 3 ((putf (putf M 6 3 (M.1 5 3) a1) 7 3 ((putf M 6 3 (M.1 5 3) a1).1 5 3) a2).1 5 3) a3), Mr, Mo)) (o := 5) (k := 3) (v := .int ((putf (putf (putf M 6 3 (M.1 5 3) a1) 7 3 ((putf M 6 3 (M.1 5 3) a1).1 5 3) a2) 8 3 ((putf (putf M 6 3 (M.1 5 3) a1) 7 3 ((putf M 6 3 (M.1 5 3) a1).1 5 3) a2).1 5 3) a3).1 5 3)) hx hb hown hts hX hP (by decide) rfl rfl inX7g (by decide) q_167 rfl dX7_push_38 ?_
  refine lv_iconst (v := 1) hx hb dX7_push_41 rfl ?_
  refine lv_iadd hx hb dX7_push_42 ?_
  refine hy_putI (ty := .int) (T := ((putf (putf (putf M 6 3 (M.1 5 3) a1) 7 3 ((putf M 6 3 (M.1 5 3) a1).1 5 3) a2) 8 3 ((putf (putf M 6 3 (M.1 5 3) a1) 7 3 ((putf M 6 3 (M.1 5 3) a1).1 5 3) a2).1 5 3) a3), Mr, Mo)) (T2 := ((wI (putf (putf (putf M 6 3 (M.1 5 3) a1) 7 3 ((putf M 6 3 (M.1 5 3) a1).1 5 3) a2) 8 3 ((putf (putf M 6 3 (M.1 5 3) a1) 7 3 ((putf M 6 3 (M.1 5 3) a1).1 5 3) a2).1 5 3) a3) 5 3 (((putf (putf (putf M 6 3 (M.1 5 3) a1) 7 3 ((putf M 6 3 (M.1 5 3) a1).1 5 3) a2) 8 3 ((putf (putf M 6 3 (M.1 5 3) a1) 7 3 ((putf M 6 3 (M.1 5 3) a1).1 5 3) a2).1 5 3) a3).1 5 3) + 1)), Mr, Mo)) (o := 5) (k := 3) hx hb hown hts hX hP hS (by decide) rfl rfl rfl rfl inX7g tyX7_ok nmX7 (by decide) q_167 rfl rfl rfl rfl (Nat.le_of_ble_eq_true rfl) dX7_push_43 (fun H locs hP hS => ?_)
  exact hy_vret (T := ((wI (putf (putf (putf M 6 3 (M.1 5 3) a1) 7 3 ((putf M 6 3 (M.1 5 3) a1).1 5 3) a2) 8 3 ((putf (putf M 6 3 (M.1 5 3) a1) 7 3 ((putf M 6 3 (M.1 5 3) a1).1 5 3) a2).1 5 3) a3) 5 3 (((putf (putf (putf M 6 3 (M.1 5 3) a1) 7 3 ((putf M 6 3 (M.1 5 3) a1).1 5 3) a2) 8 3 ((putf (putf M 6 3 (M.1 5 3) a1) 7 3 ((putf M 6 3 (M.1 5 3) a1).1 5 3) a2).1 5 3) a3).1 5 3) + 1)), Mr, Mo)) hx hb hr hlocks hP hS (Nat.zero_le _) (Nat.zero_le _) (by rw [← h] <;> rfl) dX7_push_46
set_option maxHeartbeats 1000000 in
set_option maxRecDepth 100000 in
theorem c_Re_touch {l : Launch} {G : hyG} (Mr Mo : hyM) (a1 : Int32) (a2 : Int32) (M : hyM) {res : Bool} (h : Re_touch a1 a2 M = some res) : hyC l yX7_touch (.code yX7_touch cX7_touch 4 (some .boolean)) 1 21 (0) G [.ref (adr G 5), .int a1, .int a2] (M, Mr, Mo) (.inr (some (.int (bI res))), (M, Mr, Mo)) := by
  refine hy_of (by decide +kernel) (Nat.le_of_ble_eq_true rfl) ?_
  intro p e s m below meth c hx hb hml hown hts hr hlocks ht hX hP hS ls hl
  have hl : lv_has ls 4 [(0, .ref (adr G 5)), (1, .int a1), (2, .int a2)] := hl
  rw [Re_touch] at h
  refine lv_iconst (v := 0) hx hb dX7_touch_0 rfl ?_
  refine lv_istore_n (lv' := [(3, .int 0), (0, .ref (adr G 5)), (1, .int a1), (2, .int a2)]) hx hb dX7_touch_1 rfl hl (by decide) rfl (fun ls hl => ?_)
  have L7 : ∀ (f : Nat) (x1 : Int32) (qL : (Bool ⊕ (Int32))) (h : Re_touch_L2 a1 a2 M f x1 = some qL) (hq : ∀ r9, qL = .inl r9 → res = r9) (H : Heap) (locs : List Loc) (ls : Array Slot) (hP : va_P G.1 vwCl (wld G (M, Mr, Mo)) H) (hS : va_S (hyA G) s.heap H locs) (hl : lv_has ls 4 [(0, .ref (adr G 5)), (1, .int a1), (2, .int a2), (3, .int x1)]) (kk : ∀ (y1 : Int32), qL = .inr (y1) → ∀ (H : Heap) (locs : List Loc) (ls : Array Slot), va_P G.1 vwCl (wld G (M, Mr, Mo)) H → va_S (hyA G) s.heap H locs → lv_has ls 4 [(0, .ref (adr G 5)), (1, .int a1), (2, .int a2), (3, .int y1)] → W p l e { frames := 1, cells := 0, slots := 6 * 0, locals := 21 } s m ([.ref (adr G 5), .int a1, .int a2] : List Value).toArray below meth c H locs 0 0 (vx_MQ below (hyQ G (.inr (some (.int (bI res))), (M, Mr, Mo))) (hyXQ G (.inr (some (.int (bI res))), (M, Mr, Mo))) ([.ref (adr G 5), .int a1, .int a2] : List Value).toArray s 0 (6 * 0) (hyA G)) (F0 m 42 ls [])), W p l e { frames := 1, cells := 0, slots := 6 * 0, locals := 21 } s m ([.ref (adr G 5), .int a1, .int a2] : List Value).toArray below meth c H locs 0 0 (vx_MQ below (hyQ G (.inr (some (.int (bI res))), (M, Mr, Mo))) (hyXQ G (.inr (some (.int (bI res))), (M, Mr, Mo))) ([.ref (adr G 5), .int a1, .int a2] : List Value).toArray s 0 (6 * 0) (hyA G)) (F0 m 2 ls []) := by
    intro f
    induction f with
    | zero =>
      intro x1 qL h hq H locs ls hP hS hl kk
      rw [Re_touch_L2] at h
      cases h
    | succ f ih =>
      intro x1 qL h hq H locs ls hP hS hl kk
      rw [Re_touch_L2] at h
      refine lv_iload_n hx hb dX7_touch_2 rfl (lv_at hl 3 rfl) ?_
      refine lv_aload_n hx hb dX7_touch_3 rfl (lv_at hl 0 rfl) ?_
      refine hy_get (T := (M, Mr, Mo)) (o := 5) (k := 3) (v := .int (M.1 5 3)) hx hb hown hts hX hP (by decide) rfl rfl inX7g (by decide) q_167 rfl dX7_touch_4 ?_
      refine lv_icmp_ge (tgt := 42) hx hb dX7_touch_7 (by decide) (fun c2 => ?_) (fun c2 => ?_)
      · rw [if_pos c2] at h
        exact kk x1 (Option.some.inj h).symm _ _ ls hP hS (lv_sub hl [0, 1, 2, 3] rfl)
      · rw [if_neg c2] at h
        refine lv_iload_n hx hb dX7_touch_10 rfl (lv_at hl 1 rfl) ?_
        refine lv_aload_n hx hb dX7_touch_11 rfl (lv_at hl 0 rfl) ?_
        refine hy_get (T := (M, Mr, Mo)) (o := 5) (k := 1) (v := .ref (adr G 7)) hx hb hown hts hX hP (by decide) rfl rfl inX7g (by decide) q_165 rfl dX7_touch_12 ?_
        refine lv_iload_n hx hb dX7_touch_15 rfl (lv_at hl 3 rfl) ?_
        refine hy_ret (hy_rSN (T := (M, Mr, Mo)) (v := some (.int (atf 3 (M.1 7) x1))) (T2 := (M, Mr, Mo)) (As := [.ref (adr G 7), .int x1]) (rest := [.int a1]) (n := 0) hx hb hml hown hts hX hP hS hl (c_at 7 3 (hy34 G (by decide)) (by decide) (fun _ _ => rfl) x1 (M, Mr, Mo)) m_Hp_at q_458 rfl rfl (Nat.le_of_ble_eq_true rfl) dX7_touch_16 ⟨Nat.le_of_ble_eq_true rfl, Nat.le_of_ble_eq_true rfl⟩ ⟨Nat.zero_le _, Nat.zero_le _⟩) hS (fun H locs hP hS => ?_)
        have K5 : ∀ (H : Heap) (locs : List Loc), (if (atf 3 (M.1 7) x1) < a1 then false else (!decide (a2 < (atf 3 (M.1 6) x1)))) = true → va_P G.1 vwCl (wld G (M, Mr, Mo)) H → va_S (hyA G) s.heap H locs → W p l e { frames := 1, cells := 0, slots := 6 * 0, locals := 21 } s m ([.ref (adr G 5), .int a1, .int a2] : List Value).toArray below meth c H locs 0 0 (vx_MQ below (hyQ G (.inr (some (.int (bI res))), (M, Mr, Mo))) (hyXQ G (.inr (some (.int (bI res))), (M, Mr, Mo))) ([.ref (adr G 5), .int a1, .int a2] : List Value).toArray s 0 (6 * 0) (hyA G)) (F0 m 34 ls []) := by
          intro H locs cb hP hS
          rw [if_pos cb] at h
          refine lv_iconst (v := 1) hx hb dX7_touch_34 rfl ?_
          exact hy_zret (T := (M, Mr, Mo)) hx hb hr hlocks hP hS (Nat.zero_le _) (Nat.zero_le _) (bI_nar true) (by rw [← (hq _ (Option.some.inj h).symm).symm] <;> rfl) dX7_touch_35
        have K6 : ∀ (H : Heap) (locs : List Loc), ¬ (if (atf 3 (M.1 7) x1) < a1 then false else (!decide (a2 < (atf 3 (M.1 6) x1)))) = true → va_P G.1 vwCl (wld G (M, Mr, Mo)) H → va_S (hyA G) s.heap H locs → W p l e { frames := 1, cells := 0, slots := 6 * 0, locals := 21 } s m ([.ref (adr G 5), .int a1, .int a2] : List Value).toArray below meth c H locs 0 0 (vx_MQ below (hyQ G (.inr (some (.int (bI res))), (M, Mr, Mo))) (hyXQ G (.inr (some (.int (bI res))), (M, Mr, Mo))) ([.ref (adr G 5), .int a1, .int a2] : List Value).toArray s 0 (6 * 0) (hyA G)) (F0 m 36 ls []) := by
          intro H locs cb hP hS
          rw [if_neg cb] at h
          refine lv_iinc (v := (x1 + 1)) (lv' := [(3, .int (x1 + 1)), (0, .ref (adr G 5)), (1, .int a1), (2, .int a2)]) hx hb dX7_touch_36 hl (k := 3) rfl rfl (by decide) rfl (fun ls hl => ?_)
          refine lv_goto (tgt := 2) hx hb dX7_touch_39 (by decide) ?_
          exact ih (x1 + 1) _ h hq _ _ ls hP hS (lv_sub hl [1, 2, 3, 0] rfl) kk
        refine lv_icmp_gt (tgt := 36) hx hb dX7_touch_19 (by decide) (fun c3 => ?_) (fun c3 => ?_)
        · exact K6 _ _ (by rw [if_pos c3] <;> first | rfl | decide) hP hS
        · refine lv_aload_n hx hb dX7_touch_22 rfl (lv_at hl 0 rfl) ?_
          refine hy_get (T := (M, Mr, Mo)) (o := 5) (k := 0) (v := .ref (adr G 6)) hx hb hown hts hX hP (by decide) rfl rfl inX7g (by decide) q_164 rfl dX7_touch_23 ?_
          refine lv_iload_n hx hb dX7_touch_26 rfl (lv_at hl 3 rfl) ?_
          refine hy_ret (hy_rSN (T := (M, Mr, Mo)) (v := some (.int (atf 3 (M.1 6) x1))) (T2 := (M, Mr, Mo)) (As := [.ref (adr G 6), .int x1]) (rest := []) (n := 0) hx hb hml hown hts hX hP hS hl (c_at 6 3 (hy34 G (by decide)) (by decide) (fun _ _ => rfl) x1 (M, Mr, Mo)) m_Hp_at q_458 rfl rfl (Nat.le_of_ble_eq_true rfl) dX7_touch_27 ⟨Nat.le_of_ble_eq_true rfl, Nat.le_of_ble_eq_true rfl⟩ ⟨Nat.zero_le _, Nat.zero_le _⟩) hS (fun H locs hP hS => ?_)
          refine lv_iload_n hx hb dX7_touch_30 rfl (lv_at hl 2 rfl) ?_
          refine lv_icmp_gt (tgt := 36) hx hb dX7_touch_31 (by decide) (fun c4 => ?_) (fun c4 => ?_)
          · exact K6 _ _ (by rw [if_neg c3, decide_eq_true c4] <;> first | rfl | decide) hP hS
          · exact K5 _ _ (by rw [if_neg c3, decide_eq_false c4] <;> first | rfl | decide) hP hS
  obtain ⟨q8, hq8, h⟩ := hy_bind h
  refine L7 hyFu 0 q8 hq8 (fun r9 e9 => by subst e9; exact (Option.some.inj h).symm) _ _ ls hP hS (lv_sub hl [1, 2, 3, 0] rfl) ?_
  intro y1 e9 H locs ls hP hS hl
  subst e9
  try dsimp only at h
  refine lv_iconst (v := 0) hx hb dX7_touch_42 rfl ?_
  exact hy_zret (T := (M, Mr, Mo)) hx hb hr hlocks hP hS (Nat.zero_le _) (Nat.zero_le _) (bI_nar false) (by rw [← (Option.some.inj h)] <;> rfl) dX7_touch_43
set_option maxHeartbeats 1000000 in
set_option maxRecDepth 100000 in
theorem c_Re_keepWithin {l : Launch} {G : hyG} (Mr Mo : hyM) (a1 : Int32) (M : hyM) {res : hyM} (h : Re_keepWithin a1 M = some res) : hyC l yX7_keepWithin (.code yX7_keepWithin cX7_keepWithin 4 none) 2 45 (0) G [.ref (adr G 5), .int a1] (M, Mr, Mo) (.inr none, (res, Mr, Mo)) := by
  refine hy_of (by decide +kernel) (Nat.le_of_ble_eq_true rfl) ?_
  intro p e s m below meth c hx hb hml hown hts hr hlocks ht hX hP hS ls hl
  have hl : lv_has ls 4 [(0, .ref (adr G 5)), (1, .int a1)] := hl
  rw [Re_keepWithin] at h
  refine lv_aload_n hx hb dX7_keepWithin_0 rfl (lv_at hl 0 rfl) ?_
  refine hy_get (T := (M, Mr, Mo)) (o := 5) (k := 3) (v := .int (M.1 5 3)) hx hb hown hts hX hP (by decide) rfl rfl inX7g (by decide) q_167 rfl dX7_keepWithin_1 ?_
  refine lv_istore_n (lv' := [(2, .int (M.1 5 3)), (0, .ref (adr G 5)), (1, .int a1)]) hx hb dX7_keepWithin_4 rfl hl (by decide) rfl (fun ls hl => ?_)
  refine lv_aload_n hx hb dX7_keepWithin_5 rfl (lv_at hl 1 rfl) ?_
  refine lv_iconst (v := 0) hx hb dX7_keepWithin_6 rfl ?_
  refine hy_putI (ty := .int) (T := (M, Mr, Mo)) (T2 := ((wI M 5 3 0), Mr, Mo)) (o := 5) (k := 3) hx hb hown hts hX hP hS (by decide) rfl rfl rfl rfl inX7g tyX7_ok nmX7 (by decide) q_167 rfl rfl rfl rfl (Nat.le_of_ble_eq_true rfl) dX7_keepWithin_7 (fun H locs hP hS => ?_)
  obtain ⟨M1, hM1, h⟩ := hy_bind h
  rw [Option.some.inj hM1] at hP
  refine lv_iconst (v := 0) hx hb dX7_keepWithin_10 rfl ?_
  refine lv_istore_n (lv' := [(3, .int 0), (2, .int (M.1 5 3)), (0, .ref (adr G 5)), (1, .int a1)]) hx hb dX7_keepWithin_11 rfl hl (by decide) rfl (fun ls hl => ?_)
  have L7 : ∀ (f : Nat) (x2 : Int32) (M3 : hyM) (qL : (Int32 × hyM)) (h : Re_keepWithin_L12 a1 M f x2 M3 = some qL) (H : Heap) (locs : List Loc) (ls : Array Slot) (hP : va_P G.1 vwCl (wld G (M3, Mr, Mo)) H) (hS : va_S (hyA G) s.heap H locs) (hl : lv_has ls 4 [(0, .ref (adr G 5)), (1, .int a1), (2, .int (M.1 5 3)), (3, .int x2)]) (kk : ∀ (y2 : Int32) (NM3 : hyM), qL = (y2, NM3) → ∀ (H : Heap) (locs : List Loc) (ls : Array Slot), va_P G.1 vwCl (wld G (NM3, Mr, Mo)) H → va_S (hyA G) s.heap H locs → lv_has ls 4 [(0, .ref (adr G 5)), (1, .int a1), (2, .int (M.1 5 3)), (3, .int y2)] → W p l e { frames := 2, cells := 0, slots := 6 * 0, locals := 45 } s m ([.ref (adr G 5), .int a1] : List Value).toArray below meth c H locs 0 0 (vx_MQ below (hyQ G (.inr none, (res, Mr, Mo))) (hyXQ G (.inr none, (res, Mr, Mo))) ([.ref (adr G 5), .int a1] : List Value).toArray s 0 (6 * 0) (hyA G)) (F0 m 63 ls [])), W p l e { frames := 2, cells := 0, slots := 6 * 0, locals := 45 } s m ([.ref (adr G 5), .int a1] : List Value).toArray below meth c H locs 0 0 (vx_MQ below (hyQ G (.inr none, (res, Mr, Mo))) (hyXQ G (.inr none, (res, Mr, Mo))) ([.ref (adr G 5), .int a1] : List Value).toArray s 0 (6 * 0) (hyA G)) (F0 m 12 ls []) := by
    intro f
    induction f with
    | zero =>
      intro x2 M3 qL h H locs ls hP hS hl kk
      rw [Re_keepWithin_L12] at h
      cases h
    | succ f ih =>
      intro x2 M3 qL h H locs ls hP hS hl kk
      rw [Re_keepWithin_L12] at h
      refine lv_iload_n hx hb dX7_keepWithin_12 rfl (lv_at hl 3 rfl) ?_
      refine lv_iload_n hx hb dX7_keepWithin_13 rfl (lv_at hl 2 rfl) ?_
      refine lv_icmp_ge (tgt := 63) hx hb dX7_keepWithin_14 (by decide) (fun c4 => ?_) (fun c4 => ?_)
      · rw [if_pos c4] at h
        exact kk x2 M3 (Option.some.inj h).symm _ _ ls hP hS (lv_sub hl [0, 1, 2, 3] rfl)
      · rw [if_neg c4] at h
        refine lv_aload_n hx hb dX7_keepWithin_17 rfl (lv_at hl 0 rfl) ?_
        refine hy_get (T := (M3, Mr, Mo)) (o := 5) (k := 1) (v := .ref (adr G 7)) hx hb hown hts hX hP (by decide) rfl rfl inX7g (by decide) q_165 rfl dX7_keepWithin_18 ?_
        refine lv_iload_n hx hb dX7_keepWithin_21 rfl (lv_at hl 3 rfl) ?_
        refine hy_ret (hy_rSN (T := (M3, Mr, Mo)) (v := some (.int (atf 3 (M3.1 7) x2))) (T2 := (M3, Mr, Mo)) (As := [.ref (adr G 7), .int x2]) (rest := []) (n := 0) hx hb hml hown hts hX hP hS hl (c_at 7 3 (hy34 G (by decide)) (by decide) (fun _ _ => rfl) x2 (M3, Mr, Mo)) m_Hp_at q_458 rfl rfl (Nat.le_of_ble_eq_true rfl) dX7_keepWithin_22 ⟨Nat.le_of_ble_eq_true rfl, Nat.le_of_ble_eq_true rfl⟩ ⟨Nat.zero_le _, Nat.zero_le _⟩) hS (fun H locs hP hS => ?_)
        refine lv_iload_n hx hb dX7_keepWithin_25 rfl (lv_at hl 1 rfl) ?_
        refine lv_icmp_ge (tgt := 57) hx hb dX7_keepWithin_26 (by decide) (fun c5 => ?_) (fun c5 => ?_)
        · rw [if_pos c5] at h
          refine lv_iinc (v := (x2 + 1)) (lv' := [(3, .int (x2 + 1)), (0, .ref (adr G 5)), (1, .int a1), (2, .int (M.1 5 3))]) hx hb dX7_keepWithin_57 hl (k := 3) rfl rfl (by decide) rfl (fun ls hl => ?_)
          refine lv_goto (tgt := 12) hx hb dX7_keepWithin_60 (by decide) ?_
          exact ih (x2 + 1) M3 _ h  _ _ ls hP hS (lv_sub hl [1, 2, 3, 0] rfl) kk
        · rw [if_neg c5] at h
          refine lv_aload_n hx hb dX7_keepWithin_29 rfl (lv_at hl 0 rfl) ?_
          refine lv_aload_n hx hb dX7_keepWithin_30 rfl (lv_at hl 0 rfl) ?_
          refine hy_get (T := (M3, Mr, Mo)) (o := 5) (k := 0) (v := .ref (adr G 6)) hx hb hown hts hX hP (by decide) rfl rfl inX7g (by decide) q_164 rfl dX7_keepWithin_31 ?_
          refine lv_iload_n hx hb dX7_keepWithin_34 rfl (lv_at hl 3 rfl) ?_
          refine hy_ret (hy_rSN (T := (M3, Mr, Mo)) (v := some (.int (atf 3 (M3.1 6) x2))) (T2 := (M3, Mr, Mo)) (As := [.ref (adr G 6), .int x2]) (rest := [.ref (adr G 5)]) (n := 0) hx hb hml hown hts hX hP hS hl (c_at 6 3 (hy34 G (by decide)) (by decide) (fun _ _ => rfl) x2 (M3, Mr, Mo)) m_Hp_at q_458 rfl rfl (Nat.le_of_ble_eq_true rfl) dX7_keepWithin_35 ⟨Nat.le_of_ble_eq_true rfl, Nat.le_of_ble_eq_true rfl⟩ ⟨Nat.zero_le _, Nat.zero_le _⟩) hS (fun H locs hP hS => ?_)
          refine lv_aload_n hx hb dX7_keepWithin_38 rfl (lv_at hl 0 rfl) ?_
          refine hy_get (T := (M3, Mr, Mo)) (o := 5) (k := 1) (v := .ref (adr G 7)) hx hb hown hts hX hP (by decide) rfl rfl inX7g (by decide) q_165 rfl dX7_keepWithin_39 ?_
          refine lv_iload_n hx hb dX7_keepWithin_42 rfl (lv_at hl 3 rfl) ?_
          refine hy_ret (hy_rSN (T := (M3, Mr, Mo)) (v := some (.int (atf 3 (M3.1 7) x2))) (T2 := (M3, Mr, Mo)) (As := [.ref (adr G 7), .int x2]) (rest := [.int (atf 3 (M3.1 6) x2), .ref (adr G 5)]) (n := 0) hx hb hml hown hts hX hP hS hl (c_at 7 3 (hy34 G (by decide)) (by decide) (fun _ _ => rfl) x2 (M3, Mr, Mo)) m_Hp_at q_458 rfl rfl (Nat.le_of_ble_eq_true rfl) dX7_keepWithin_43 ⟨Nat.le_of_ble_eq_true rfl, Nat.le_of_ble_eq_true rfl⟩ ⟨Nat.zero_le _, Nat.zero_le _⟩) hS (fun H locs hP hS => ?_)
          refine lv_aload_n hx hb dX7_keepWithin_46 rfl (lv_at hl 0 rfl) ?_
          refine hy_get (T := (M3, Mr, Mo)) (o := 5) (k := 2) (v := .ref (adr G 8)) hx hb hown hts hX hP (by decide) rfl rfl inX7g (by decide) q_166 rfl dX7_keepWithin_47 ?_
          refine lv_iload_n hx hb dX7_keepWithin_50 rfl (lv_at hl 3 rfl) ?_
          refine hy_ret (hy_rSN (T := (M3, Mr, Mo)) (v := some (.int (atf 3 (M3.1 8) x2))) (T2 := (M3, Mr, Mo)) (As := [.ref (adr G 8), .int x2]) (rest := [.int (atf 3 (M3.1 7) x2), .int (atf 3 (M3.1 6) x2), .ref (adr G 5)]) (n := 0) hx hb hml hown hts hX hP hS hl (c_at 8 3 (hy34 G (by decide)) (by decide) (fun _ _ => rfl) x2 (M3, Mr, Mo)) m_Hp_at q_458 rfl rfl (Nat.le_of_ble_eq_true rfl) dX7_keepWithin_51 ⟨Nat.le_of_ble_eq_true rfl, Nat.le_of_ble_eq_true rfl⟩ ⟨Nat.zero_le _, Nat.zero_le _⟩) hS (fun H locs hP hS => ?_)
          refine hy_ret (hy_rV0 (T := (M3, Mr, Mo)) (v := none) (T2 := ((Re_push (atf 3 (M3.1 6) x2) (atf 3 (M3.1 7) x2) (atf 3 (M3.1 8) x2) M3), Mr, Mo)) (As := [.int (atf 3 (M3.1 6) x2), .int (atf 3 (M3.1 7) x2), .int (atf 3 (M3.1 8) x2)]) (rest := []) (n := 0) hx hb hml hown hts hX hP hS hl (c_Re_push Mr Mo (atf 3 (M3.1 6) x2) (atf 3 (M3.1 7) x2) (atf 3 (M3.1 8) x2) M3 rfl) m_Re_push q_459 (hy_recv hX hP 5 6 (by decide) rfl rfl) rfl rfl (Nat.le_of_ble_eq_true rfl) dX7_keepWithin_54 ⟨Nat.le_of_ble_eq_true rfl, Nat.le_of_ble_eq_true rfl⟩ ⟨Nat.zero_le _, Nat.zero_le _⟩) hS (fun H locs hP hS => ?_)
          obtain ⟨M6, hM6, h⟩ := hy_bind h
          rw [Option.some.inj hM6] at hP
          refine lv_iinc (v := (x2 + 1)) (lv' := [(3, .int (x2 + 1)), (0, .ref (adr G 5)), (1, .int a1), (2, .int (M.1 5 3))]) hx hb dX7_keepWithin_57 hl (k := 3) rfl rfl (by decide) rfl (fun ls hl => ?_)
          refine lv_goto (tgt := 12) hx hb dX7_keepWithin_60 (by decide) ?_
          exact ih (x2 + 1) M6 _ h  _ _ ls hP hS (lv_sub hl [1, 2, 3, 0] rfl) kk
  obtain ⟨q8, hq8, h⟩ := hy_bind h
  refine L7 hyFu 0 M1 q8 hq8 _ _ ls hP hS (lv_sub hl [2, 3, 1, 0] rfl) ?_
  intro y2 NM3 e9 H locs ls hP hS hl
  subst e9
  try dsimp only at h
  exact hy_vret (T := (NM3, Mr, Mo)) hx hb hr hlocks hP hS (Nat.zero_le _) (Nat.zero_le _) (by rw [← (Option.some.inj h)] <;> rfl) dX7_keepWithin_63
set_option maxHeartbeats 1000000 in
set_option maxRecDepth 100000 in
theorem c_Tu_restart {l : Launch} {G : hyG} (Mr Mo : hyM) (a1 : Int32) (M : hyM) {res : hyM} (h : Tu_restart a1 M = res) : hyC l yX8_restart (.code yX8_restart cX8_restart 2 none) 0 0 (0) G [.ref (adr G 1), .int a1] (M, Mr, Mo) (.inr none, (res, Mr, Mo)) := by
  refine hy_of (by decide +kernel) (Nat.le_of_ble_eq_true rfl) ?_
  intro p e s m below meth c hx hb hml hown hts hr hlocks ht hX hP hS ls hl
  have hl : lv_has ls 2 [(0, .ref (adr G 1)), (1, .int a1)] := hl
  rw [Tu_restart] at h
  refine lv_aload_n hx hb dX8_restart_0 rfl (lv_at hl 0 rfl) ?_
  refine lv_iconst (v := 0) hx hb dX8_restart_1 rfl ?_
  refine hy_putI (ty := .int) (T := (M, Mr, Mo)) (T2 := ((wI M 1 4 0), Mr, Mo)) (o := 1) (k := 4) hx hb hown hts hX hP hS (by decide) rfl rfl rfl rfl inX8g tyX8_ok nmX8 (by decide) q_124 rfl rfl rfl rfl (Nat.le_of_ble_eq_true rfl) dX8_restart_2 (fun H locs hP hS => ?_)
  refine lv_aload_n hx hb dX8_restart_5 rfl (lv_at hl 0 rfl) ?_
  refine lv_lconst (v := 0) hx hb dX8_restart_6 rfl ?_
  refine hy_putL (T := ((wI M 1 4 0), Mr, Mo)) (T2 := ((wL (wI M 1 4 0) 1 2 0), Mr, Mo)) (o := 1) (k := 2) hx hb hown hts hX hP hS (by decide) rfl rfl rfl rfl inX8g tyX8_ok nmX8 (by decide) q_118 rfl rfl (Nat.le_of_ble_eq_true rfl) dX8_restart_7 (fun H locs hP hS => ?_)
  refine lv_aload_n hx hb dX8_restart_10 rfl (lv_at hl 0 rfl) ?_
  refine lv_lconst (v := 0) hx hb dX8_restart_11 rfl ?_
  refine hy_putL (T := ((wL (wI M 1 4 0) 1 2 0), Mr, Mo)) (T2 := ((wL (wL (wI M 1 4 0) 1 2 0) 1 3 0), Mr, Mo)) (o := 1) (k := 3) hx hb hown hts hX hP hS (by decide) rfl rfl rfl rfl inX8g tyX8_ok nmX8 (by decide) q_121 rfl rfl (Nat.le_of_ble_eq_true rfl) dX8_restart_12 (fun H locs hP hS => ?_)
  refine lv_aload_n hx hb dX8_restart_15 rfl (lv_at hl 0 rfl) ?_
  refine lv_iload_n hx hb dX8_restart_16 rfl (lv_at hl 1 rfl) ?_
  refine hy_putI (ty := .int) (T := ((wL (wL (wI M 1 4 0) 1 2 0) 1 3 0), Mr, Mo)) (T2 := ((wI (wL (wL (wI M 1 4 0) 1 2 0) 1 3 0) 1 5 a1), Mr, Mo)) (o := 1) (k := 5) hx hb hown hts hX hP hS (by decide) rfl rfl rfl rfl inX8g tyX8_ok nmX8 (by decide) q_127 rfl rfl rfl rfl (Nat.le_of_ble_eq_true rfl) dX8_restart_17 (fun H locs hP hS => ?_)
  exact hy_vret (T := ((wI (wL (wL (wI M 1 4 0) 1 2 0) 1 3 0) 1 5 a1), Mr, Mo)) hx hb hr hlocks hP hS (Nat.zero_le _) (Nat.zero_le _) (by rw [← h] <;> rfl) dX8_restart_20
set_option maxHeartbeats 1000000 in
set_option maxRecDepth 100000 in
theorem c_Tu_changePitch {l : Launch} {G : hyG} (Mr Mo : hyM) (a1 : Int32) (a2 : Int32) (a3 : Int32) (M : hyM) {res : hyM} (h : Tu_changePitch a1 a2 a3 M = res) : hyC l yX8_changePitch (.code yX8_changePitch cX8_changePitch 4 none) 1 22 (0) G [.ref (adr G 1), .int a1, .int a2, .int a3] (M, Mr, Mo) (.inr none, (res, Mr, Mo)) := by
  refine hy_of (by decide +kernel) (Nat.le_of_ble_eq_true rfl) ?_
  intro p e s m below meth c hx hb hml hown hts hr hlocks ht hX hP hS ls hl
  have hl : lv_has ls 4 [(0, .ref (adr G 1)), (1, .int a1), (2, .int a2), (3, .int a3)] := hl
  rw [Tu_changePitch] at h
  refine lv_aload_n hx hb dX8_changePitch_0 rfl (lv_at hl 0 rfl) ?_
  refine hy_get (T := (M, Mr, Mo)) (o := 1) (k := 1) (v := .ref (adr G 3)) hx hb hown hts hX hP (by decide) rfl rfl inX8g (by decide) q_117 rfl dX8_changePitch_1 ?_
  refine lv_iload_n hx hb dX8_changePitch_4 rfl (lv_at hl 1 rfl) ?_
  refine lv_iconst (v := 4) hx hb dX8_changePitch_5 rfl ?_
  refine lv_imul hx hb dX8_changePitch_6 ?_
  refine lv_iload_n hx hb dX8_changePitch_7 rfl (lv_at hl 2 rfl) ?_
  refine lv_iadd hx hb dX8_changePitch_8 ?_
  refine lv_iload_n hx hb dX8_changePitch_9 rfl (lv_at hl 3 rfl) ?_
  refine hy_ret (hy_rSN (T := (M, Mr, Mo)) (v := none) (T2 := ((putf M 3 160 ((a1 * 4) + a2) a3), Mr, Mo)) (As := [.ref (adr G 3), .int ((a1 * 4) + a2), .int a3]) (rest := []) (n := 0) hx hb hml hown hts hX hP hS hl (c_put Mr Mo 3 160 (by decide) (by decide) (fun _ _ => rfl) ((a1 * 4) + a2) a3 M) m_Hp_put q_999 rfl rfl (Nat.le_of_ble_eq_true rfl) dX8_changePitch_10 ⟨Nat.le_of_ble_eq_true rfl, Nat.le_of_ble_eq_true rfl⟩ ⟨Nat.zero_le _, Nat.zero_le _⟩) hS (fun H locs hP hS => ?_)
  exact hy_vret (T := ((putf M 3 160 ((a1 * 4) + a2) a3), Mr, Mo)) hx hb hr hlocks hP hS (Nat.zero_le _) (Nat.zero_le _) (by rw [← h] <;> rfl) dX8_changePitch_13
set_option maxHeartbeats 1000000 in
set_option maxRecDepth 100000 in
theorem c_Tu_push {l : Launch} {G : hyG} (Mr Mo : hyM) (a1 : Int32) (a2 : Int32) (a3 : Int32) (a4 : Int32) (a5 : Int32) (M : hyM) {res : hyM} (h : Tu_push a1 a2 a3 a4 a5 M = some res) : hyC l yX8_push (.code yX8_push cX8_push 6 none) 2 45 (0) G [.ref (adr G 1), .int a1, .int a2, .int a3, .int a4, .int a5] (M, Mr, Mo) (.inr none, (res, Mr, Mo)) := by
  refine hy_of (by decide +kernel) (Nat.le_of_ble_eq_true rfl) ?_
  intro p e s m below meth c hx hb hml hown hts hr hlocks ht hX hP hS ls hl
  have hl : lv_has ls 6 [(0, .ref (adr G 1)), (1, .int a1), (2, .int a2), (3, .int a3), (4, .int a4), (5, .int a5)] := hl
  rw [Tu_push] at h
  refine lv_aload_n hx hb dX8_push_0 rfl (lv_at hl 0 rfl) ?_
  refine hy_get (T := (M, Mr, Mo)) (o := 1) (k := 0) (v := .ref (adr G 2)) hx hb hown hts hX hP (by decide) rfl rfl inX8g (by decide) q_116 rfl dX8_push_1 ?_
  refine lv_aload_n hx hb dX8_push_4 rfl (lv_at hl 0 rfl) ?_
  refine hy_get (T := (M, Mr, Mo)) (o := 1) (k := 4) (v := .int (M.1 1 4)) hx hb hown hts hX hP (by decide) rfl rfl inX8g (by decide) q_124 rfl dX8_push_5 ?_
  refine lv_iload_n hx hb dX8_push_8 rfl (lv_at hl 1 rfl) ?_
  refine hy_ret (hy_rSN (T := (M, Mr, Mo)) (v := none) (T2 := ((putf M 2 40 (M.1 1 4) a1), Mr, Mo)) (As := [.ref (adr G 2), .int (M.1 1 4), .int a1]) (rest := []) (n := 0) hx hb hml hown hts hX hP hS hl (c_put Mr Mo 2 40 (by decide) (by decide) (fun _ _ => rfl) (M.1 1 4) a1 M) m_Hp_put q_999 rfl rfl (Nat.le_of_ble_eq_true rfl) dX8_push_9 ⟨Nat.le_of_ble_eq_true rfl, Nat.le_of_ble_eq_true rfl⟩ ⟨Nat.zero_le _, Nat.zero_le _⟩) hS (fun H locs hP hS => ?_)
  obtain ⟨M1, hM1, h⟩ := hy_bind h
  rw [Option.some.inj hM1] at hP
  refine lv_aload_n hx hb dX8_push_12 rfl (lv_at hl 0 rfl) ?_
  refine lv_aload_n hx hb dX8_push_13 rfl (lv_at hl 0 rfl) ?_
  refine hy_get (T := (M1, Mr, Mo)) (o := 1) (k := 4) (v := .int (M1.1 1 4)) hx hb hown hts hX hP (by decide) rfl rfl inX8g (by decide) q_124 rfl dX8_push_14 ?_
  refine lv_iconst (v := 0) hx hb dX8_push_17 rfl ?_
  refine lv_iload_n hx hb dX8_push_18 rfl (lv_at hl 2 rfl) ?_
  refine hy_ret (hy_rV0 (T := (M1, Mr, Mo)) (v := none) (T2 := ((Tu_changePitch (M1.1 1 4) 0 a2 M1), Mr, Mo)) (As := [.int (M1.1 1 4), .int 0, .int a2]) (rest := []) (n := 0) hx hb hml hown hts hX hP hS hl (c_Tu_changePitch Mr Mo (M1.1 1 4) 0 a2 M1 rfl) m_Tu_changePitch q_1000 (hy_recv hX hP 1 7 (by decide) rfl rfl) rfl rfl (Nat.le_of_ble_eq_true rfl) dX8_push_19 ⟨Nat.le_of_ble_eq_true rfl, Nat.le_of_ble_eq_true rfl⟩ ⟨Nat.zero_le _, Nat.zero_le _⟩) hS (fun H locs hP hS => ?_)
  obtain ⟨M2, hM2, h⟩ := hy_bind h
  rw [Option.some.inj hM2] at hP
  refine lv_aload_n hx hb dX8_push_22 rfl (lv_at hl 0 rfl) ?_
  refine lv_aload_n hx hb dX8_push_23 rfl (lv_at hl 0 rfl) ?_
  refine hy_get (T := (M2, Mr, Mo)) (o := 1) (k := 4) (v := .int (M2.1 1 4)) hx hb hown hts hX hP (by decide) rfl rfl inX8g (by decide) q_124 rfl dX8_push_24 ?_
  refine lv_iconst (v := 1) hx hb dX8_push_27 rfl ?_
  refine lv_iload_n hx hb dX8_push_28 rfl (lv_at hl 3 rfl) ?_
  refine hy_ret (hy_rV0 (T := (M2, Mr, Mo)) (v := none) (T2 := ((Tu_changePitch (M2.1 1 4) 1 a3 M2), Mr, Mo)) (As := [.int (M2.1 1 4), .int 1, .int a3]) (rest := []) (n := 0) hx hb hml hown hts hX hP hS hl (c_Tu_changePitch Mr Mo (M2.1 1 4) 1 a3 M2 rfl) m_Tu_changePitch q_1000 (hy_recv hX hP 1 7 (by decide) rfl rfl) rfl rfl (Nat.le_of_ble_eq_true rfl) dX8_push_29 ⟨Nat.le_of_ble_eq_true rfl, Nat.le_of_ble_eq_true rfl⟩ ⟨Nat.zero_le _, Nat.zero_le _⟩) hS (fun H locs hP hS => ?_)
  obtain ⟨M3, hM3, h⟩ := hy_bind h
  rw [Option.some.inj hM3] at hP
  refine lv_aload_n hx hb dX8_push_32 rfl (lv_at hl 0 rfl) ?_
  refine lv_aload_n hx hb dX8_push_33 rfl (lv_at hl 0 rfl) ?_
  refine hy_get (T := (M3, Mr, Mo)) (o := 1) (k := 4) (v := .int (M3.1 1 4)) hx hb hown hts hX hP (by decide) rfl rfl inX8g (by decide) q_124 rfl dX8_push_34 ?_
  refine lv_iconst (v := 2) hx hb dX8_push_37 rfl ?_
  refine lv_iload hx hb dX8_push_38 (lv_at hl 4 rfl) ?_
  refine hy_ret (hy_rV0 (T := (M3, Mr, Mo)) (v := none) (T2 := ((Tu_changePitch (M3.1 1 4) 2 a4 M3), Mr, Mo)) (As := [.int (M3.1 1 4), .int 2, .int a4]) (rest := []) (n := 0) hx hb hml hown hts hX hP hS hl (c_Tu_changePitch Mr Mo (M3.1 1 4) 2 a4 M3 rfl) m_Tu_changePitch q_1000 (hy_recv hX hP 1 7 (by decide) rfl rfl) rfl rfl (Nat.le_of_ble_eq_true rfl) dX8_push_40 ⟨Nat.le_of_ble_eq_true rfl, Nat.le_of_ble_eq_true rfl⟩ ⟨Nat.zero_le _, Nat.zero_le _⟩) hS (fun H locs hP hS => ?_)
  obtain ⟨M4, hM4, h⟩ := hy_bind h
  rw [Option.some.inj hM4] at hP
  refine lv_aload_n hx hb dX8_push_43 rfl (lv_at hl 0 rfl) ?_
  refine lv_aload_n hx hb dX8_push_44 rfl (lv_at hl 0 rfl) ?_
  refine hy_get (T := (M4, Mr, Mo)) (o := 1) (k := 4) (v := .int (M4.1 1 4)) hx hb hown hts hX hP (by decide) rfl rfl inX8g (by decide) q_124 rfl dX8_push_45 ?_
  refine lv_iconst (v := 3) hx hb dX8_push_48 rfl ?_
  refine lv_iload hx hb dX8_push_49 (lv_at hl 5 rfl) ?_
  refine hy_ret (hy_rV0 (T := (M4, Mr, Mo)) (v := none) (T2 := ((Tu_changePitch (M4.1 1 4) 3 a5 M4), Mr, Mo)) (As := [.int (M4.1 1 4), .int 3, .int a5]) (rest := []) (n := 0) hx hb hml hown hts hX hP hS hl (c_Tu_changePitch Mr Mo (M4.1 1 4) 3 a5 M4 rfl) m_Tu_changePitch q_1000 (hy_recv hX hP 1 7 (by decide) rfl rfl) rfl rfl (Nat.le_of_ble_eq_true rfl) dX8_push_51 ⟨Nat.le_of_ble_eq_true rfl, Nat.le_of_ble_eq_true rfl⟩ ⟨Nat.zero_le _, Nat.zero_le _⟩) hS (fun H locs hP hS => ?_)
  obtain ⟨M5, hM5, h⟩ := hy_bind h
  rw [Option.some.inj hM5] at hP
  refine lv_aload_n hx hb dX8_push_54 rfl (lv_at hl 0 rfl) ?_
  refine lv_dup hx hb dX8_push_55 rfl ?_
  refine hy_get (T := (M5, Mr, Mo)) (o := 1) (k := 4) (v := .int (M5.1 1 4)) hx hb hown hts hX hP (by decide) rfl rfl inX8g (by decide) q_124 rfl dX8_push_56 ?_
  refine lv_iconst (v := 1) hx hb dX8_push_59 rfl ?_
  refine lv_iadd hx hb dX8_push_60 ?_
  refine hy_putI (ty := .int) (T := (M5, Mr, Mo)) (T2 := ((wI M5 1 4 ((M5.1 1 4) + 1)), Mr, Mo)) (o := 1) (k := 4) hx hb hown hts hX hP hS (by decide) rfl rfl rfl rfl inX8g tyX8_ok nmX8 (by decide) q_124 rfl rfl rfl rfl (Nat.le_of_ble_eq_true rfl) dX8_push_61 (fun H locs hP hS => ?_)
  obtain ⟨M6, hM6, h⟩ := hy_bind h
  rw [Option.some.inj hM6] at hP
  exact hy_vret (T := (M6, Mr, Mo)) hx hb hr hlocks hP hS (Nat.zero_le _) (Nat.zero_le _) (by rw [← (Option.some.inj h)] <;> rfl) dX8_push_64
set_option maxHeartbeats 1000000 in
set_option maxRecDepth 100000 in
theorem c_Hp_withBit {l : Launch} {G : hyG} (Mr Mo : hyM) (a1 : Int64) (a2 : Int32) (a3 : Bool) (M : hyM) {res : Int64} (h : Hp_withBit a1 a2 a3 M = res) : hyC l yX10_withBit (.code yX10_withBit cX10_withBit 4 (some .long)) 0 0 (0) G [.long a1, .int a2, .int (bI a3)] (M, Mr, Mo) (.inr (some (.long res)), (M, Mr, Mo)) := by
  refine hy_of (by decide +kernel) (Nat.le_of_ble_eq_true rfl) ?_
  intro p e s m below meth c hx hb hml hown hts hr hlocks ht hX hP hS ls hl
  have hl : lv_has ls 4 [(0, .long a1), (2, .int a2), (3, .int (bI a3))] := hl
  rw [Hp_withBit] at h
  refine lv_iload_n hx hb dX10_withBit_0 rfl (lv_at hl 2 rfl) ?_
  refine lv_if_eq (tgt := 12) hx hb dX10_withBit_1 (by decide) (fun c1 => ?_) (fun c1 => ?_)
  · rw [if_neg (bI_0 c1)] at h
    refine lv_lload_n hx hb dX10_withBit_12 rfl (lv_at hl 0 rfl) ?_
    refine lv_lconst (v := 1) hx hb dX10_withBit_13 rfl ?_
    refine lv_iload_n hx hb dX10_withBit_14 rfl (lv_at hl 1 rfl) ?_
    refine lv_lshl (v := (jlshl 1 a2)) hx hb dX10_withBit_15 rfl ?_
    refine lv_ldc2 (v := (-1)) hx hb hown (hts _ q_1011) dX10_withBit_16 ?_
    refine lv_lxor hx hb dX10_withBit_19 ?_
    refine lv_land hx hb dX10_withBit_20 ?_
    exact hy_lret (T := (M, Mr, Mo)) hx hb hr hlocks hP hS (Nat.zero_le _) (Nat.zero_le _) (by rw [← h] <;> rfl) dX10_withBit_21
  · rw [if_pos (bI_1 c1)] at h
    refine lv_lload_n hx hb dX10_withBit_4 rfl (lv_at hl 0 rfl) ?_
    refine lv_lconst (v := 1) hx hb dX10_withBit_5 rfl ?_
    refine lv_iload_n hx hb dX10_withBit_6 rfl (lv_at hl 1 rfl) ?_
    refine lv_lshl (v := (jlshl 1 a2)) hx hb dX10_withBit_7 rfl ?_
    refine lv_lor hx hb dX10_withBit_8 ?_
    refine lv_goto (tgt := 21) hx hb dX10_withBit_9 (by decide) ?_
    exact hy_lret (T := (M, Mr, Mo)) hx hb hr hlocks hP hS (Nat.zero_le _) (Nat.zero_le _) (by rw [← h] <;> rfl) dX10_withBit_21
set_option maxHeartbeats 1000000 in
set_option maxRecDepth 100000 in
theorem c_Tu_pop {l : Launch} {G : hyG} (Mr Mo : hyM) (M : hyM) {res : hyM} (h : Tu_pop M = res) : hyC l yX8_pop (.code yX8_pop cX8_pop 1 none) 1 23 (0) G [.ref (adr G 1)] (M, Mr, Mo) (.inr none, (res, Mr, Mo)) := by
  refine hy_of (by decide +kernel) (Nat.le_of_ble_eq_true rfl) ?_
  intro p e s m below meth c hx hb hml hown hts hr hlocks ht hX hP hS ls hl
  have hl : lv_has ls 1 [(0, .ref (adr G 1))] := hl
  rw [Tu_pop] at h
  refine lv_aload_n hx hb dX8_pop_0 rfl (lv_at hl 0 rfl) ?_
  refine lv_dup hx hb dX8_pop_1 rfl ?_
  refine hy_get (T := (M, Mr, Mo)) (o := 1) (k := 4) (v := .int (M.1 1 4)) hx hb hown hts hX hP (by decide) rfl rfl inX8g (by decide) q_124 rfl dX8_pop_2 ?_
  refine lv_iconst (v := 1) hx hb dX8_pop_5 rfl ?_
  refine lv_isub hx hb dX8_pop_6 ?_
  refine hy_putI (ty := .int) (T := (M, Mr, Mo)) (T2 := ((wI M 1 4 ((M.1 1 4) - 1)), Mr, Mo)) (o := 1) (k := 4) hx hb hown hts hX hP hS (by decide) rfl rfl rfl rfl inX8g tyX8_ok nmX8 (by decide) q_124 rfl rfl rfl rfl (Nat.le_of_ble_eq_true rfl) dX8_pop_7 (fun H locs hP hS => ?_)
  refine lv_aload_n hx hb dX8_pop_10 rfl (lv_at hl 0 rfl) ?_
  refine lv_aload_n hx hb dX8_pop_11 rfl (lv_at hl 0 rfl) ?_
  refine hy_get (T := ((wI M 1 4 ((M.1 1 4) - 1)), Mr, Mo)) (o := 1) (k := 2) (v := .long ((wI M 1 4 ((M.1 1 4) - 1)).2 1 2)) hx hb hown hts hX hP (by decide) rfl rfl inX8g (by decide) q_118 rfl dX8_pop_12 ?_
  refine lv_aload_n hx hb dX8_pop_15 rfl (lv_at hl 0 rfl) ?_
  refine hy_get (T := ((wI M 1 4 ((M.1 1 4) - 1)), Mr, Mo)) (o := 1) (k := 4) (v := .int ((wI M 1 4 ((M.1 1 4) - 1)).1 1 4)) hx hb hown hts hX hP (by decide) rfl rfl inX8g (by decide) q_124 rfl dX8_pop_16 ?_
  refine lv_iconst (v := 0) hx hb dX8_pop_19 rfl ?_
  refine hy_ret (hy_rSN (T := ((wI M 1 4 ((M.1 1 4) - 1)), Mr, Mo)) (v := some (.long (Hp_withBit ((wI M 1 4 ((M.1 1 4) - 1)).2 1 2) ((wI M 1 4 ((M.1 1 4) - 1)).1 1 4) false (wI M 1 4 ((M.1 1 4) - 1))))) (T2 := ((wI M 1 4 ((M.1 1 4) - 1)), Mr, Mo)) (As := [.long ((wI M 1 4 ((M.1 1 4) - 1)).2 1 2), .int ((wI M 1 4 ((M.1 1 4) - 1)).1 1 4), .int 0]) (rest := [.ref (adr G 1)]) (n := 0) hx hb hml hown hts hX hP hS hl (c_Hp_withBit Mr Mo ((wI M 1 4 ((M.1 1 4) - 1)).2 1 2) ((wI M 1 4 ((M.1 1 4) - 1)).1 1 4) false (wI M 1 4 ((M.1 1 4) - 1)) rfl) m_Hp_withBit q_1021 rfl rfl (Nat.le_of_ble_eq_true rfl) dX8_pop_20 ⟨Nat.le_of_ble_eq_true rfl, Nat.le_of_ble_eq_true rfl⟩ ⟨Nat.zero_le _, Nat.zero_le _⟩) hS (fun H locs hP hS => ?_)
  refine hy_putL (T := ((wI M 1 4 ((M.1 1 4) - 1)), Mr, Mo)) (T2 := ((wL (wI M 1 4 ((M.1 1 4) - 1)) 1 2 (Hp_withBit ((wI M 1 4 ((M.1 1 4) - 1)).2 1 2) ((wI M 1 4 ((M.1 1 4) - 1)).1 1 4) false (wI M 1 4 ((M.1 1 4) - 1)))), Mr, Mo)) (o := 1) (k := 2) hx hb hown hts hX hP hS (by decide) rfl rfl rfl rfl inX8g tyX8_ok nmX8 (by decide) q_118 rfl rfl (Nat.le_of_ble_eq_true rfl) dX8_pop_23 (fun H locs hP hS => ?_)
  refine lv_aload_n hx hb dX8_pop_26 rfl (lv_at hl 0 rfl) ?_
  refine lv_aload_n hx hb dX8_pop_27 rfl (lv_at hl 0 rfl) ?_
  refine hy_get (T := ((wL (wI M 1 4 ((M.1 1 4) - 1)) 1 2 (Hp_withBit ((wI M 1 4 ((M.1 1 4) - 1)).2 1 2) ((wI M 1 4 ((M.1 1 4) - 1)).1 1 4) false (wI M 1 4 ((M.1 1 4) - 1)))), Mr, Mo)) (o := 1) (k := 3) (v := .long ((wL (wI M 1 4 ((M.1 1 4) - 1)) 1 2 (Hp_withBit ((wI M 1 4 ((M.1 1 4) - 1)).2 1 2) ((wI M 1 4 ((M.1 1 4) - 1)).1 1 4) false (wI M 1 4 ((M.1 1 4) - 1)))).2 1 3)) hx hb hown hts hX hP (by decide) rfl rfl inX8g (by decide) q_121 rfl dX8_pop_28 ?_
  refine lv_aload_n hx hb dX8_pop_31 rfl (lv_at hl 0 rfl) ?_
  refine hy_get (T := ((wL (wI M 1 4 ((M.1 1 4) - 1)) 1 2 (Hp_withBit ((wI M 1 4 ((M.1 1 4) - 1)).2 1 2) ((wI M 1 4 ((M.1 1 4) - 1)).1 1 4) false (wI M 1 4 ((M.1 1 4) - 1)))), Mr, Mo)) (o := 1) (k := 4) (v := .int ((wL (wI M 1 4 ((M.1 1 4) - 1)) 1 2 (Hp_withBit ((wI M 1 4 ((M.1 1 4) - 1)).2 1 2) ((wI M 1 4 ((M.1 1 4) - 1)).1 1 4) false (wI M 1 4 ((M.1 1 4) - 1)))).1 1 4)) hx hb hown hts hX hP (by decide) rfl rfl inX8g (by decide) q_124 rfl dX8_pop_32 ?_
  refine lv_iconst (v := 0) hx hb dX8_pop_35 rfl ?_
  refine hy_ret (hy_rSN (T := ((wL (wI M 1 4 ((M.1 1 4) - 1)) 1 2 (Hp_withBit ((wI M 1 4 ((M.1 1 4) - 1)).2 1 2) ((wI M 1 4 ((M.1 1 4) - 1)).1 1 4) false (wI M 1 4 ((M.1 1 4) - 1)))), Mr, Mo)) (v := some (.long (Hp_withBit ((wL (wI M 1 4 ((M.1 1 4) - 1)) 1 2 (Hp_withBit ((wI M 1 4 ((M.1 1 4) - 1)).2 1 2) ((wI M 1 4 ((M.1 1 4) - 1)).1 1 4) false (wI M 1 4 ((M.1 1 4) - 1)))).2 1 3) ((wL (wI M 1 4 ((M.1 1 4) - 1)) 1 2 (Hp_withBit ((wI M 1 4 ((M.1 1 4) - 1)).2 1 2) ((wI M 1 4 ((M.1 1 4) - 1)).1 1 4) false (wI M 1 4 ((M.1 1 4) - 1)))).1 1 4) false (wL (wI M 1 4 ((M.1 1 4) - 1)) 1 2 (Hp_withBit ((wI M 1 4 ((M.1 1 4) - 1)).2 1 2) ((wI M 1 4 ((M.1 1 4) - 1)).1 1 4) false (wI M 1 4 ((M.1 1 4) - 1))))))) (T2 := ((wL (wI M 1 4 ((M.1 1 4) - 1)) 1 2 (Hp_withBit ((wI M 1 4 ((M.1 1 4) - 1)).2 1 2) ((wI M 1 4 ((M.1 1 4) - 1)).1 1 4) false (wI M 1 4 ((M.1 1 4) - 1)))), Mr, Mo)) (As := [.long ((wL (wI M 1 4 ((M.1 1 4) - 1)) 1 2 (Hp_withBit ((wI M 1 4 ((M.1 1 4) - 1)).2 1 2) ((wI M 1 4 ((M.1 1 4) - 1)).1 1 4) false (wI M 1 4 ((M.1 1 4) - 1)))).2 1 3), .int ((wL (wI M 1 4 ((M.1 1 4) - 1)) 1 2 (Hp_withBit ((wI M 1 4 ((M.1 1 4) - 1)).2 1 2) ((wI M 1 4 ((M.1 1 4) - 1)).1 1 4) false (wI M 1 4 ((M.1 1 4) - 1)))).1 1 4), .int 0]) (rest := [.ref (adr G 1)]) (n := 0) hx hb hml hown hts hX hP hS hl (c_Hp_withBit Mr Mo ((wL (wI M 1 4 ((M.1 1 4) - 1)) 1 2 (Hp_withBit ((wI M 1 4 ((M.1 1 4) - 1)).2 1 2) ((wI M 1 4 ((M.1 1 4) - 1)).1 1 4) false (wI M 1 4 ((M.1 1 4) - 1)))).2 1 3) ((wL (wI M 1 4 ((M.1 1 4) - 1)) 1 2 (Hp_withBit ((wI M 1 4 ((M.1 1 4) - 1)).2 1 2) ((wI M 1 4 ((M.1 1 4) - 1)).1 1 4) false (wI M 1 4 ((M.1 1 4) - 1)))).1 1 4) false (wL (wI M 1 4 ((M.1 1 4) - 1)) 1 2 (Hp_withBit ((wI M 1 4 ((M.1 1 4) - 1)).2 1 2) ((wI M 1 4 ((M.1 1 4) - 1)).1 1 4) false (wI M 1 4 ((M.1 1 4) - 1)))) rfl) m_Hp_withBit q_1021 rfl rfl (Nat.le_of_ble_eq_true rfl) dX8_pop_36 ⟨Nat.le_of_ble_eq_true rfl, Nat.le_of_ble_eq_true rfl⟩ ⟨Nat.zero_le _, Nat.zero_le _⟩) hS (fun H locs hP hS => ?_)
  refine hy_putL (T := ((wL (wI M 1 4 ((M.1 1 4) - 1)) 1 2 (Hp_withBit ((wI M 1 4 ((M.1 1 4) - 1)).2 1 2) ((wI M 1 4 ((M.1 1 4) - 1)).1 1 4) false (wI M 1 4 ((M.1 1 4) - 1)))), Mr, Mo)) (T2 := ((wL (wL (wI M 1 4 ((M.1 1 4) - 1)) 1 2 (Hp_withBit ((wI M 1 4 ((M.1 1 4) - 1)).2 1 2) ((wI M 1 4 ((M.1 1 4) - 1)).1 1 4) false (wI M 1 4 ((M.1 1 4) - 1)))) 1 3 (Hp_withBit ((wL (wI M 1 4 ((M.1 1 4) - 1)) 1 2 (Hp_withBit ((wI M 1 4 ((M.1 1 4) - 1)).2 1 2) ((wI M 1 4 ((M.1 1 4) - 1)).1 1 4) false (wI M 1 4 ((M.1 1 4) - 1)))).2 1 3) ((wL (wI M 1 4 ((M.1 1 4) - 1)) 1 2 (Hp_withBit ((wI M 1 4 ((M.1 1 4) - 1)).2 1 2) ((wI M 1 4 ((M.1 1 4) - 1)).1 1 4) false (wI M 1 4 ((M.1 1 4) - 1)))).1 1 4) false (wL (wI M 1 4 ((M.1 1 4) - 1)) 1 2 (Hp_withBit ((wI M 1 4 ((M.1 1 4) - 1)).2 1 2) ((wI M 1 4 ((M.1 1 4) - 1)).1 1 4) false (wI M 1 4 ((M.1 1 4) - 1)))))), Mr, Mo)) (o := 1) (k := 3) hx hb hown hts hX hP hS (by decide) rfl rfl rfl rfl inX8g tyX8_ok nmX8 (by decide) q_121 rfl rfl (Nat.le_of_ble_eq_true rfl) dX8_pop_39 (fun H locs hP hS => ?_)
  exact hy_vret (T := ((wL (wL (wI M 1 4 ((M.1 1 4) - 1)) 1 2 (Hp_withBit ((wI M 1 4 ((M.1 1 4) - 1)).2 1 2) ((wI M 1 4 ((M.1 1 4) - 1)).1 1 4) false (wI M 1 4 ((M.1 1 4) - 1)))) 1 3 (Hp_withBit ((wL (wI M 1 4 ((M.1 1 4) - 1)) 1 2 (Hp_withBit ((wI M 1 4 ((M.1 1 4) - 1)).2 1 2) ((wI M 1 4 ((M.1 1 4) - 1)).1 1 4) false (wI M 1 4 ((M.1 1 4) - 1)))).2 1 3) ((wL (wI M 1 4 ((M.1 1 4) - 1)) 1 2 (Hp_withBit ((wI M 1 4 ((M.1 1 4) - 1)).2 1 2) ((wI M 1 4 ((M.1 1 4) - 1)).1 1 4) false (wI M 1 4 ((M.1 1 4) - 1)))).1 1 4) false (wL (wI M 1 4 ((M.1 1 4) - 1)) 1 2 (Hp_withBit ((wI M 1 4 ((M.1 1 4) - 1)).2 1 2) ((wI M 1 4 ((M.1 1 4) - 1)).1 1 4) false (wI M 1 4 ((M.1 1 4) - 1)))))), Mr, Mo)) hx hb hr hlocks hP hS (Nat.zero_le _) (Nat.zero_le _) (by rw [← h] <;> rfl) dX8_pop_42
set_option maxHeartbeats 1000000 in
set_option maxRecDepth 100000 in
theorem c_Tu_lengthOf {l : Launch} {G : hyG} (Mr Mo : hyM) (a1 : Int32) (M : hyM) {res : Int32} (h : Tu_lengthOf a1 M = res) : hyC l yX8_lengthOf (.code yX8_lengthOf cX8_lengthOf 2 (some .int)) 1 21 (0) G [.ref (adr G 1), .int a1] (M, Mr, Mo) (.inr (some (.int res)), (M, Mr, Mo)) := by
  refine hy_of (by decide +kernel) (Nat.le_of_ble_eq_true rfl) ?_
  intro p e s m below meth c hx hb hml hown hts hr hlocks ht hX hP hS ls hl
  have hl : lv_has ls 2 [(0, .ref (adr G 1)), (1, .int a1)] := hl
  rw [Tu_lengthOf] at h
  refine lv_aload_n hx hb dX8_lengthOf_0 rfl (lv_at hl 0 rfl) ?_
  refine hy_get (T := (M, Mr, Mo)) (o := 1) (k := 0) (v := .ref (adr G 2)) hx hb hown hts hX hP (by decide) rfl rfl inX8g (by decide) q_116 rfl dX8_lengthOf_1 ?_
  refine lv_iload_n hx hb dX8_lengthOf_4 rfl (lv_at hl 1 rfl) ?_
  refine hy_ret (hy_rSN (T := (M, Mr, Mo)) (v := some (.int (atf 40 (M.1 2) a1))) (T2 := (M, Mr, Mo)) (As := [.ref (adr G 2), .int a1]) (rest := []) (n := 0) hx hb hml hown hts hX hP hS hl (c_at 2 40 (hy34 G (by decide)) (by decide) (fun _ _ => rfl) a1 (M, Mr, Mo)) m_Hp_at q_598 rfl rfl (Nat.le_of_ble_eq_true rfl) dX8_lengthOf_5 ⟨Nat.le_of_ble_eq_true rfl, Nat.le_of_ble_eq_true rfl⟩ ⟨Nat.zero_le _, Nat.zero_le _⟩) hS (fun H locs hP hS => ?_)
  exact hy_iret (T := (M, Mr, Mo)) hx hb hr hlocks hP hS (Nat.zero_le _) (Nat.zero_le _) (by rw [← h] <;> rfl) dX8_lengthOf_8
set_option maxHeartbeats 1000000 in
set_option maxRecDepth 100000 in
theorem c_Tu_pitchOf {l : Launch} {G : hyG} (Mr Mo : hyM) (a1 : Int32) (a2 : Int32) (M : hyM) {res : Int32} (h : Tu_pitchOf a1 a2 M = res) : hyC l yX8_pitchOf (.code yX8_pitchOf cX8_pitchOf 3 (some .int)) 1 21 (0) G [.ref (adr G 1), .int a1, .int a2] (M, Mr, Mo) (.inr (some (.int res)), (M, Mr, Mo)) := by
  refine hy_of (by decide +kernel) (Nat.le_of_ble_eq_true rfl) ?_
  intro p e s m below meth c hx hb hml hown hts hr hlocks ht hX hP hS ls hl
  have hl : lv_has ls 3 [(0, .ref (adr G 1)), (1, .int a1), (2, .int a2)] := hl
  rw [Tu_pitchOf] at h
  refine lv_aload_n hx hb dX8_pitchOf_0 rfl (lv_at hl 0 rfl) ?_
  refine hy_get (T := (M, Mr, Mo)) (o := 1) (k := 1) (v := .ref (adr G 3)) hx hb hown hts hX hP (by decide) rfl rfl inX8g (by decide) q_117 rfl dX8_pitchOf_1 ?_
  refine lv_iload_n hx hb dX8_pitchOf_4 rfl (lv_at hl 1 rfl) ?_
  refine lv_iconst (v := 4) hx hb dX8_pitchOf_5 rfl ?_
  refine lv_imul hx hb dX8_pitchOf_6 ?_
  refine lv_iload_n hx hb dX8_pitchOf_7 rfl (lv_at hl 2 rfl) ?_
  refine lv_iadd hx hb dX8_pitchOf_8 ?_
  refine hy_ret (hy_rSN (T := (M, Mr, Mo)) (v := some (.int (atf 160 (M.1 3) ((a1 * 4) + a2)))) (T2 := (M, Mr, Mo)) (As := [.ref (adr G 3), .int ((a1 * 4) + a2)]) (rest := []) (n := 0) hx hb hml hown hts hX hP hS hl (c_at 3 160 (hy34 G (by decide)) (by decide) (fun _ _ => rfl) ((a1 * 4) + a2) (M, Mr, Mo)) m_Hp_at q_598 rfl rfl (Nat.le_of_ble_eq_true rfl) dX8_pitchOf_9 ⟨Nat.le_of_ble_eq_true rfl, Nat.le_of_ble_eq_true rfl⟩ ⟨Nat.zero_le _, Nat.zero_le _⟩) hS (fun H locs hP hS => ?_)
  exact hy_iret (T := (M, Mr, Mo)) hx hb hr hlocks hP hS (Nat.zero_le _) (Nat.zero_le _) (by rw [← h] <;> rfl) dX8_pitchOf_12
set_option maxHeartbeats 1000000 in
set_option maxRecDepth 100000 in
theorem c_Tu_startOf {l : Launch} {G : hyG} (Mr Mo : hyM) (a1 : Int32) (M : hyM) {res : Int32} (h : Tu_startOf a1 M = some res) : hyC l yX8_startOf (.code yX8_startOf cX8_startOf 4 (some .int)) 2 42 (0) G [.ref (adr G 1), .int a1] (M, Mr, Mo) (.inr (some (.int res)), (M, Mr, Mo)) := by
  refine hy_of (by decide +kernel) (Nat.le_of_ble_eq_true rfl) ?_
  intro p e s m below meth c hx hb hml hown hts hr hlocks ht hX hP hS ls hl
  have hl : lv_has ls 4 [(0, .ref (adr G 1)), (1, .int a1)] := hl
  rw [Tu_startOf] at h
  refine lv_iconst (v := 0) hx hb dX8_startOf_0 rfl ?_
  refine lv_istore_n (lv' := [(2, .int 0), (0, .ref (adr G 1)), (1, .int a1)]) hx hb dX8_startOf_1 rfl hl (by decide) rfl (fun ls hl => ?_)
  refine lv_iconst (v := 0) hx hb dX8_startOf_2 rfl ?_
  refine lv_istore_n (lv' := [(3, .int 0), (2, .int 0), (0, .ref (adr G 1)), (1, .int a1)]) hx hb dX8_startOf_3 rfl hl (by decide) rfl (fun ls hl => ?_)
  have L4 : ∀ (f : Nat) (x1 : Int32) (x2 : Int32) (qL : (Int32 × Int32)) (h : Tu_startOf_L4 a1 M f x1 x2 = some qL) (H : Heap) (locs : List Loc) (ls : Array Slot) (hP : va_P G.1 vwCl (wld G (M, Mr, Mo)) H) (hS : va_S (hyA G) s.heap H locs) (hl : lv_has ls 4 [(0, .ref (adr G 1)), (1, .int a1), (2, .int x1), (3, .int x2)]) (kk : ∀ (y1 : Int32) (y2 : Int32), qL = (y1, y2) → ∀ (H : Heap) (locs : List Loc) (ls : Array Slot), va_P G.1 vwCl (wld G (M, Mr, Mo)) H → va_S (hyA G) s.heap H locs → lv_has ls 4 [(0, .ref (adr G 1)), (1, .int a1), (2, .int y1), (3, .int y2)] → W p l e { frames := 2, cells := 0, slots := 6 * 0, locals := 42 } s m ([.ref (adr G 1), .int a1] : List Value).toArray below meth c H locs 0 0 (vx_MQ below (hyQ G (.inr (some (.int res)), (M, Mr, Mo))) (hyXQ G (.inr (some (.int res)), (M, Mr, Mo))) ([.ref (adr G 1), .int a1] : List Value).toArray s 0 (6 * 0) (hyA G)) (F0 m 23 ls [])), W p l e { frames := 2, cells := 0, slots := 6 * 0, locals := 42 } s m ([.ref (adr G 1), .int a1] : List Value).toArray below meth c H locs 0 0 (vx_MQ below (hyQ G (.inr (some (.int res)), (M, Mr, Mo))) (hyXQ G (.inr (some (.int res)), (M, Mr, Mo))) ([.ref (adr G 1), .int a1] : List Value).toArray s 0 (6 * 0) (hyA G)) (F0 m 4 ls []) := by
    intro f
    induction f with
    | zero =>
      intro x1 x2 qL h H locs ls hP hS hl kk
      rw [Tu_startOf_L4] at h
      cases h
    | succ f ih =>
      intro x1 x2 qL h H locs ls hP hS hl kk
      rw [Tu_startOf_L4] at h
      refine lv_iload_n hx hb dX8_startOf_4 rfl (lv_at hl 3 rfl) ?_
      refine lv_iload_n hx hb dX8_startOf_5 rfl (lv_at hl 1 rfl) ?_
      refine lv_icmp_ge (tgt := 23) hx hb dX8_startOf_6 (by decide) (fun c3 => ?_) (fun c3 => ?_)
      · rw [if_pos c3] at h
        exact kk x1 x2 (Option.some.inj h).symm _ _ ls hP hS (lv_sub hl [0, 1, 2, 3] rfl)
      · rw [if_neg c3] at h
        refine lv_iload_n hx hb dX8_startOf_9 rfl (lv_at hl 2 rfl) ?_
        refine lv_aload_n hx hb dX8_startOf_10 rfl (lv_at hl 0 rfl) ?_
        refine lv_iload_n hx hb dX8_startOf_11 rfl (lv_at hl 3 rfl) ?_
        refine hy_ret (hy_rV0 (T := (M, Mr, Mo)) (v := some (.int (Tu_lengthOf x2 M))) (T2 := (M, Mr, Mo)) (As := [.int x2]) (rest := [.int x1]) (n := 0) hx hb hml hown hts hX hP hS hl (c_Tu_lengthOf Mr Mo x2 M rfl) m_Tu_lengthOf q_594 (hy_recv hX hP 1 7 (by decide) rfl rfl) rfl rfl (Nat.le_of_ble_eq_true rfl) dX8_startOf_12 ⟨Nat.le_of_ble_eq_true rfl, Nat.le_of_ble_eq_true rfl⟩ ⟨Nat.zero_le _, Nat.zero_le _⟩) hS (fun H locs hP hS => ?_)
        refine lv_iadd hx hb dX8_startOf_15 ?_
        refine lv_istore_n (lv' := [(2, .int (x1 + (Tu_lengthOf x2 M))), (0, .ref (adr G 1)), (1, .int a1), (3, .int x2)]) hx hb dX8_startOf_16 rfl hl (by decide) rfl (fun ls hl => ?_)
        refine lv_iinc (v := (x2 + 1)) (lv' := [(3, .int (x2 + 1)), (2, .int (x1 + (Tu_lengthOf x2 M))), (0, .ref (adr G 1)), (1, .int a1)]) hx hb dX8_startOf_17 hl (k := 3) rfl rfl (by decide) rfl (fun ls hl => ?_)
        refine lv_goto (tgt := 4) hx hb dX8_startOf_20 (by decide) ?_
        exact ih (x1 + (Tu_lengthOf x2 M)) (x2 + 1) _ h  _ _ ls hP hS (lv_sub hl [2, 3, 1, 0] rfl) kk
  obtain ⟨q5, hq5, h⟩ := hy_bind h
  refine L4 hyFu 0 0 q5 hq5 _ _ ls hP hS (lv_sub hl [2, 3, 1, 0] rfl) ?_
  intro y1 y2 e9 H locs ls hP hS hl
  subst e9
  try dsimp only at h
  refine lv_iload_n hx hb dX8_startOf_23 rfl (lv_at hl 2 rfl) ?_
  exact hy_iret (T := (M, Mr, Mo)) hx hb hr hlocks hP hS (Nat.zero_le _) (Nat.zero_le _) (by rw [← (Option.some.inj h)] <;> rfl) dX8_startOf_24
set_option maxHeartbeats 1000000 in
set_option maxRecDepth 100000 in
theorem c_Tu_canMove {l : Launch} {G : hyG} (Mr Mo : hyM) (a1 : Int32) (M : hyM) {res : Bool} (h : Tu_canMove a1 M = some res) : hyC l yX8_canMove (.code yX8_canMove cX8_canMove 4 (some .boolean)) 1 21 (0) G [.ref (adr G 1), .int a1] (M, Mr, Mo) (.inr (some (.int (bI res))), (M, Mr, Mo)) := by
  refine hy_of (by decide +kernel) (Nat.le_of_ble_eq_true rfl) ?_
  intro p e s m below meth c hx hb hml hown hts hr hlocks ht hX hP hS ls hl
  have hl : lv_has ls 4 [(0, .ref (adr G 1)), (1, .int a1)] := hl
  rw [Tu_canMove] at h
  refine lv_iconst (v := 0) hx hb dX8_canMove_0 rfl ?_
  refine lv_istore_n (lv' := [(2, .int 0), (0, .ref (adr G 1)), (1, .int a1)]) hx hb dX8_canMove_1 rfl hl (by decide) rfl (fun ls hl => ?_)
  have L7 : ∀ (f : Nat) (x1 : Int32) (qL : (Bool ⊕ (Int32))) (h : Tu_canMove_L2 a1 M f x1 = some qL) (hq : ∀ r9, qL = .inl r9 → res = r9) (H : Heap) (locs : List Loc) (ls : Array Slot) (hP : va_P G.1 vwCl (wld G (M, Mr, Mo)) H) (hS : va_S (hyA G) s.heap H locs) (hl : lv_has ls 4 [(0, .ref (adr G 1)), (1, .int a1), (2, .int x1)]) (kk : ∀ (y1 : Int32), qL = .inr (y1) → ∀ (H : Heap) (locs : List Loc) (ls : Array Slot), va_P G.1 vwCl (wld G (M, Mr, Mo)) H → va_S (hyA G) s.heap H locs → lv_has ls 4 [(0, .ref (adr G 1)), (1, .int a1), (2, .int y1)] → W p l e { frames := 1, cells := 0, slots := 6 * 0, locals := 21 } s m ([.ref (adr G 1), .int a1] : List Value).toArray below meth c H locs 0 0 (vx_MQ below (hyQ G (.inr (some (.int (bI res))), (M, Mr, Mo))) (hyXQ G (.inr (some (.int (bI res))), (M, Mr, Mo))) ([.ref (adr G 1), .int a1] : List Value).toArray s 0 (6 * 0) (hyA G)) (F0 m 43 ls [])), W p l e { frames := 1, cells := 0, slots := 6 * 0, locals := 21 } s m ([.ref (adr G 1), .int a1] : List Value).toArray below meth c H locs 0 0 (vx_MQ below (hyQ G (.inr (some (.int (bI res))), (M, Mr, Mo))) (hyXQ G (.inr (some (.int (bI res))), (M, Mr, Mo))) ([.ref (adr G 1), .int a1] : List Value).toArray s 0 (6 * 0) (hyA G)) (F0 m 2 ls []) := by
    intro f
    induction f with
    | zero =>
      intro x1 qL h hq H locs ls hP hS hl kk
      rw [Tu_canMove_L2] at h
      cases h
    | succ f ih =>
      intro x1 qL h hq H locs ls hP hS hl kk
      rw [Tu_canMove_L2] at h
      refine lv_iload_n hx hb dX8_canMove_2 rfl (lv_at hl 2 rfl) ?_
      refine lv_aload_n hx hb dX8_canMove_3 rfl (lv_at hl 0 rfl) ?_
      refine hy_get (T := (M, Mr, Mo)) (o := 1) (k := 4) (v := .int (M.1 1 4)) hx hb hown hts hX hP (by decide) rfl rfl inX8g (by decide) q_124 rfl dX8_canMove_4 ?_
      refine lv_iconst (v := 4) hx hb dX8_canMove_7 rfl ?_
      refine lv_imul hx hb dX8_canMove_8 ?_
      refine lv_icmp_ge (tgt := 43) hx hb dX8_canMove_9 (by decide) (fun c2 => ?_) (fun c2 => ?_)
      · rw [if_pos c2] at h
        exact kk x1 (Option.some.inj h).symm _ _ ls hP hS (lv_sub hl [0, 1, 2] rfl)
      · rw [if_neg c2] at h
        refine lv_aload_n hx hb dX8_canMove_12 rfl (lv_at hl 0 rfl) ?_
        refine hy_get (T := (M, Mr, Mo)) (o := 1) (k := 1) (v := .ref (adr G 3)) hx hb hown hts hX hP (by decide) rfl rfl inX8g (by decide) q_117 rfl dX8_canMove_13 ?_
        refine lv_iload_n hx hb dX8_canMove_16 rfl (lv_at hl 2 rfl) ?_
        refine hy_ret (hy_rSN (T := (M, Mr, Mo)) (v := some (.int (atf 160 (M.1 3) x1))) (T2 := (M, Mr, Mo)) (As := [.ref (adr G 3), .int x1]) (rest := []) (n := 0) hx hb hml hown hts hX hP hS hl (c_at 3 160 (hy34 G (by decide)) (by decide) (fun _ _ => rfl) x1 (M, Mr, Mo)) m_Hp_at q_598 rfl rfl (Nat.le_of_ble_eq_true rfl) dX8_canMove_17 ⟨Nat.le_of_ble_eq_true rfl, Nat.le_of_ble_eq_true rfl⟩ ⟨Nat.zero_le _, Nat.zero_le _⟩) hS (fun H locs hP hS => ?_)
        refine lv_iload_n hx hb dX8_canMove_20 rfl (lv_at hl 1 rfl) ?_
        refine lv_iadd hx hb dX8_canMove_21 ?_
        refine lv_istore_n (lv' := [(3, .int ((atf 160 (M.1 3) x1) + a1)), (0, .ref (adr G 1)), (1, .int a1), (2, .int x1)]) hx hb dX8_canMove_22 rfl hl (by decide) rfl (fun ls hl => ?_)
        refine lv_iload_n hx hb dX8_canMove_23 rfl (lv_at hl 0 rfl) ?_
        refine lv_bipush (v := 36) hx hb dX8_canMove_24 rfl ?_
        have K5 : ∀ (H : Heap) (locs : List Loc), (if ((atf 160 (M.1 3) x1) + a1) < 36 then true else (!decide (((atf 160 (M.1 3) x1) + a1) ≤ 84))) = true → va_P G.1 vwCl (wld G (M, Mr, Mo)) H → va_S (hyA G) s.heap H locs → W p l e { frames := 1, cells := 0, slots := 6 * 0, locals := 21 } s m ([.ref (adr G 1), .int a1] : List Value).toArray below meth c H locs 0 0 (vx_MQ below (hyQ G (.inr (some (.int (bI res))), (M, Mr, Mo))) (hyXQ G (.inr (some (.int (bI res))), (M, Mr, Mo))) ([.ref (adr G 1), .int a1] : List Value).toArray s 0 (6 * 0) (hyA G)) (F0 m 35 ls []) := by
          intro H locs cb hP hS
          rw [if_pos cb] at h
          refine lv_iconst (v := 0) hx hb dX8_canMove_35 rfl ?_
          exact hy_zret (T := (M, Mr, Mo)) hx hb hr hlocks hP hS (Nat.zero_le _) (Nat.zero_le _) (bI_nar false) (by rw [← (hq _ (Option.some.inj h).symm).symm] <;> rfl) dX8_canMove_36
        have K6 : ∀ (H : Heap) (locs : List Loc), ¬ (if ((atf 160 (M.1 3) x1) + a1) < 36 then true else (!decide (((atf 160 (M.1 3) x1) + a1) ≤ 84))) = true → va_P G.1 vwCl (wld G (M, Mr, Mo)) H → va_S (hyA G) s.heap H locs → W p l e { frames := 1, cells := 0, slots := 6 * 0, locals := 21 } s m ([.ref (adr G 1), .int a1] : List Value).toArray below meth c H locs 0 0 (vx_MQ below (hyQ G (.inr (some (.int (bI res))), (M, Mr, Mo))) (hyXQ G (.inr (some (.int (bI res))), (M, Mr, Mo))) ([.ref (adr G 1), .int a1] : List Value).toArray s 0 (6 * 0) (hyA G)) (F0 m 37 ls []) := by
          intro H locs cb hP hS
          rw [if_neg cb] at h
          refine lv_iinc (v := (x1 + 1)) (lv' := [(2, .int (x1 + 1)), (3, .int ((atf 160 (M.1 3) x1) + a1)), (0, .ref (adr G 1)), (1, .int a1)]) hx hb dX8_canMove_37 hl (k := 3) rfl rfl (by decide) rfl (fun ls hl => ?_)
          refine lv_goto (tgt := 2) hx hb dX8_canMove_40 (by decide) ?_
          exact ih (x1 + 1) _ h hq _ _ ls hP hS (lv_sub hl [2, 3, 0] rfl) kk
        refine lv_icmp_lt (tgt := 35) hx hb dX8_canMove_26 (by decide) (fun c3 => ?_) (fun c3 => ?_)
        · exact K5 _ _ (by rw [if_pos c3] <;> first | rfl | decide) hP hS
        · refine lv_iload_n hx hb dX8_canMove_29 rfl (lv_at hl 0 rfl) ?_
          refine lv_bipush (v := 84) hx hb dX8_canMove_30 rfl ?_
          refine lv_icmp_le (tgt := 37) hx hb dX8_canMove_32 (by decide) (fun c4 => ?_) (fun c4 => ?_)
          · exact K6 _ _ (by rw [if_neg c3, decide_eq_true c4] <;> first | rfl | decide) hP hS
          · exact K5 _ _ (by rw [if_neg c3, decide_eq_false c4] <;> first | rfl | decide) hP hS
  obtain ⟨q8, hq8, h⟩ := hy_bind h
  refine L7 hyFu 0 q8 hq8 (fun r9 e9 => by subst e9; exact (Option.some.inj h).symm) _ _ ls hP hS (lv_sub hl [1, 2, 0] rfl) ?_
  intro y1 e9 H locs ls hP hS hl
  subst e9
  try dsimp only at h
  refine lv_iconst (v := 1) hx hb dX8_canMove_43 rfl ?_
  exact hy_zret (T := (M, Mr, Mo)) hx hb hr hlocks hP hS (Nat.zero_le _) (Nat.zero_le _) (bI_nar true) (by rw [← (Option.some.inj h)] <;> rfl) dX8_canMove_44
set_option maxHeartbeats 1000000 in
set_option maxRecDepth 100000 in
theorem c_Tu_move {l : Launch} {G : hyG} (Mr Mo : hyM) (a1 : Int32) (M : hyM) {res : hyM} (h : Tu_move a1 M = some res) : hyC l yX8_move (.code yX8_move cX8_move 3 none) 1 22 (0) G [.ref (adr G 1), .int a1] (M, Mr, Mo) (.inr none, (res, Mr, Mo)) := by
  refine hy_of (by decide +kernel) (Nat.le_of_ble_eq_true rfl) ?_
  intro p e s m below meth c hx hb hml hown hts hr hlocks ht hX hP hS ls hl
  have hl : lv_has ls 3 [(0, .ref (adr G 1)), (1, .int a1)] := hl
  rw [Tu_move] at h
  refine lv_iconst (v := 0) hx hb dX8_move_0 rfl ?_
  refine lv_istore_n (lv' := [(2, .int 0), (0, .ref (adr G 1)), (1, .int a1)]) hx hb dX8_move_1 rfl hl (by decide) rfl (fun ls hl => ?_)
  have L5 : ∀ (f : Nat) (x1 : Int32) (M2 : hyM) (qL : (Int32 × hyM)) (h : Tu_move_L2 a1 f x1 M2 = some qL) (H : Heap) (locs : List Loc) (ls : Array Slot) (hP : va_P G.1 vwCl (wld G (M2, Mr, Mo)) H) (hS : va_S (hyA G) s.heap H locs) (hl : lv_has ls 3 [(0, .ref (adr G 1)), (1, .int a1), (2, .int x1)]) (kk : ∀ (y1 : Int32) (NM2 : hyM), qL = (y1, NM2) → ∀ (H : Heap) (locs : List Loc) (ls : Array Slot), va_P G.1 vwCl (wld G (NM2, Mr, Mo)) H → va_S (hyA G) s.heap H locs → lv_has ls 3 [(0, .ref (adr G 1)), (1, .int a1), (2, .int y1)] → W p l e { frames := 1, cells := 0, slots := 6 * 0, locals := 22 } s m ([.ref (adr G 1), .int a1] : List Value).toArray below meth c H locs 0 0 (vx_MQ below (hyQ G (.inr none, (res, Mr, Mo))) (hyXQ G (.inr none, (res, Mr, Mo))) ([.ref (adr G 1), .int a1] : List Value).toArray s 0 (6 * 0) (hyA G)) (F0 m 36 ls [])), W p l e { frames := 1, cells := 0, slots := 6 * 0, locals := 22 } s m ([.ref (adr G 1), .int a1] : List Value).toArray below meth c H locs 0 0 (vx_MQ below (hyQ G (.inr none, (res, Mr, Mo))) (hyXQ G (.inr none, (res, Mr, Mo))) ([.ref (adr G 1), .int a1] : List Value).toArray s 0 (6 * 0) (hyA G)) (F0 m 2 ls []) := by
    intro f
    induction f with
    | zero =>
      intro x1 M2 qL h H locs ls hP hS hl kk
      rw [Tu_move_L2] at h
      cases h
    | succ f ih =>
      intro x1 M2 qL h H locs ls hP hS hl kk
      rw [Tu_move_L2] at h
      refine lv_iload_n hx hb dX8_move_2 rfl (lv_at hl 2 rfl) ?_
      refine lv_aload_n hx hb dX8_move_3 rfl (lv_at hl 0 rfl) ?_
      refine hy_get (T := (M2, Mr, Mo)) (o := 1) (k := 4) (v := .int (M2.1 1 4)) hx hb hown hts hX hP (by decide) rfl rfl inX8g (by decide) q_124 rfl dX8_move_4 ?_
      refine lv_iconst (v := 4) hx hb dX8_move_7 rfl ?_
      refine lv_imul hx hb dX8_move_8 ?_
      refine lv_icmp_ge (tgt := 36) hx hb dX8_move_9 (by decide) (fun c3 => ?_) (fun c3 => ?_)
      · rw [if_pos c3] at h
        exact kk x1 M2 (Option.some.inj h).symm _ _ ls hP hS (lv_sub hl [0, 1, 2] rfl)
      · rw [if_neg c3] at h
        refine lv_aload_n hx hb dX8_move_12 rfl (lv_at hl 0 rfl) ?_
        refine hy_get (T := (M2, Mr, Mo)) (o := 1) (k := 1) (v := .ref (adr G 3)) hx hb hown hts hX hP (by decide) rfl rfl inX8g (by decide) q_117 rfl dX8_move_13 ?_
        refine lv_iload_n hx hb dX8_move_16 rfl (lv_at hl 2 rfl) ?_
        refine lv_aload_n hx hb dX8_move_17 rfl (lv_at hl 0 rfl) ?_
        refine hy_get (T := (M2, Mr, Mo)) (o := 1) (k := 1) (v := .ref (adr G 3)) hx hb hown hts hX hP (by decide) rfl rfl inX8g (by decide) q_117 rfl dX8_move_18 ?_
        refine lv_iload_n hx hb dX8_move_21 rfl (lv_at hl 2 rfl) ?_
        refine hy_ret (hy_rSN (T := (M2, Mr, Mo)) (v := some (.int (atf 160 (M2.1 3) x1))) (T2 := (M2, Mr, Mo)) (As := [.ref (adr G 3), .int x1]) (rest := [.int x1, .ref (adr G 3)]) (n := 0) hx hb hml hown hts hX hP hS hl (c_at 3 160 (hy34 G (by decide)) (by decide) (fun _ _ => rfl) x1 (M2, Mr, Mo)) m_Hp_at q_598 rfl rfl (Nat.le_of_ble_eq_true rfl) dX8_move_22 ⟨Nat.le_of_ble_eq_true rfl, Nat.le_of_ble_eq_true rfl⟩ ⟨Nat.zero_le _, Nat.zero_le _⟩) hS (fun H locs hP hS => ?_)
        refine lv_iload_n hx hb dX8_move_25 rfl (lv_at hl 1 rfl) ?_
        refine lv_iadd hx hb dX8_move_26 ?_
        refine hy_ret (hy_rSN (T := (M2, Mr, Mo)) (v := none) (T2 := ((putf M2 3 160 x1 ((atf 160 (M2.1 3) x1) + a1)), Mr, Mo)) (As := [.ref (adr G 3), .int x1, .int ((atf 160 (M2.1 3) x1) + a1)]) (rest := []) (n := 0) hx hb hml hown hts hX hP hS hl (c_put Mr Mo 3 160 (by decide) (by decide) (fun _ _ => rfl) x1 ((atf 160 (M2.1 3) x1) + a1) M2) m_Hp_put q_999 rfl rfl (Nat.le_of_ble_eq_true rfl) dX8_move_27 ⟨Nat.le_of_ble_eq_true rfl, Nat.le_of_ble_eq_true rfl⟩ ⟨Nat.zero_le _, Nat.zero_le _⟩) hS (fun H locs hP hS => ?_)
        obtain ⟨M4, hM4, h⟩ := hy_bind h
        rw [Option.some.inj hM4] at hP
        refine lv_iinc (v := (x1 + 1)) (lv' := [(2, .int (x1 + 1)), (0, .ref (adr G 1)), (1, .int a1)]) hx hb dX8_move_30 hl (k := 2) rfl rfl (by decide) rfl (fun ls hl => ?_)
        refine lv_goto (tgt := 2) hx hb dX8_move_33 (by decide) ?_
        exact ih (x1 + 1) M4 _ h  _ _ ls hP hS (lv_sub hl [1, 2, 0] rfl) kk
  obtain ⟨q8, hq8, h⟩ := hy_bind h
  refine L5 hyFu 0 M q8 hq8 _ _ ls hP hS (lv_sub hl [1, 2, 0] rfl) ?_
  intro y1 NM2 e9 H locs ls hP hS hl
  subst e9
  try dsimp only at h
  refine lv_aload_n hx hb dX8_move_36 rfl (lv_at hl 0 rfl) ?_
  refine lv_aload_n hx hb dX8_move_37 rfl (lv_at hl 0 rfl) ?_
  refine hy_get (T := (NM2, Mr, Mo)) (o := 1) (k := 5) (v := .int (NM2.1 1 5)) hx hb hown hts hX hP (by decide) rfl rfl inX8g (by decide) q_127 rfl dX8_move_38 ?_
  refine lv_iload_n hx hb dX8_move_41 rfl (lv_at hl 1 rfl) ?_
  refine lv_iadd hx hb dX8_move_42 ?_
  refine lv_bipush (v := 12) hx hb dX8_move_43 rfl ?_
  obtain ⟨v6, hv6, h⟩ := hy_bind h
  refine hy_ret (hy_rS0 (T := (NM2, Mr, Mo)) (v := some (.int v6)) (T2 := (NM2, Mr, Mo)) (As := [.int ((NM2.1 1 5) + a1), .int 12]) (rest := [.ref (adr G 1)]) (n := 0) hx hb hml hown hts hX hP hS hl (c_Jm_floorMod Mr Mo ((NM2.1 1 5) + a1) 12 NM2 hv6) m_Jm_floorMod q_629 rfl rfl (Nat.le_of_ble_eq_true rfl) dX8_move_45 ⟨Nat.le_of_ble_eq_true rfl, Nat.le_of_ble_eq_true rfl⟩ ⟨Nat.zero_le _, Nat.zero_le _⟩) hS (fun H locs hP hS => ?_)
  refine hy_putI (ty := .int) (T := (NM2, Mr, Mo)) (T2 := ((wI NM2 1 5 v6), Mr, Mo)) (o := 1) (k := 5) hx hb hown hts hX hP hS (by decide) rfl rfl rfl rfl inX8g tyX8_ok nmX8 (by decide) q_127 rfl rfl rfl rfl (Nat.le_of_ble_eq_true rfl) dX8_move_48 (fun H locs hP hS => ?_)
  obtain ⟨M7, hM7, h⟩ := hy_bind h
  rw [Option.some.inj hM7] at hP
  exact hy_vret (T := (M7, Mr, Mo)) hx hb hr hlocks hP hS (Nat.zero_le _) (Nat.zero_le _) (by rw [← (Option.some.inj h)] <;> rfl) dX8_move_51
set_option maxHeartbeats 1000000 in
set_option maxRecDepth 100000 in
theorem c_Tu_goParallel {l : Launch} {G : hyG} (Mr Mo : hyM) (a1 : Int32) (a2 : Int32) (a3 : Int32) (M : hyM) {res : Bool} (h : Tu_goParallel a1 a2 a3 M = some res) : hyC l yX8_goParallel (.code yX8_goParallel cX8_goParallel 11 (some .boolean)) 2 43 (0) G [.ref (adr G 1), .int a1, .int a2, .int a3] (M, Mr, Mo) (.inr (some (.int (bI res))), (M, Mr, Mo)) := by
  refine hy_of (by decide +kernel) (Nat.le_of_ble_eq_true rfl) ?_
  intro p e s m below meth c hx hb hml hown hts hr hlocks ht hX hP hS ls hl
  have hl : lv_has ls 11 [(0, .ref (adr G 1)), (1, .int a1), (2, .int a2), (3, .int a3)] := hl
  rw [Tu_goParallel] at h
  refine lv_iload_n hx hb dX8_goParallel_0 rfl (lv_at hl 1 rfl) ?_
  refine lv_iconst (v := 1) hx hb dX8_goParallel_1 rfl ?_
  refine lv_icmp_ge (tgt := 7) hx hb dX8_goParallel_2 (by decide) (fun c1 => ?_) (fun c1 => ?_)
  · rw [if_pos c1] at h
    refine lv_aload_n hx hb dX8_goParallel_7 rfl (lv_at hl 0 rfl) ?_
    refine lv_iload_n hx hb dX8_goParallel_8 rfl (lv_at hl 1 rfl) ?_
    refine lv_iload_n hx hb dX8_goParallel_9 rfl (lv_at hl 2 rfl) ?_
    refine hy_ret (hy_rV0 (T := (M, Mr, Mo)) (v := some (.int (Tu_pitchOf a1 a2 M))) (T2 := (M, Mr, Mo)) (As := [.int a1, .int a2]) (rest := []) (n := 0) hx hb hml hown hts hX hP hS hl (c_Tu_pitchOf Mr Mo a1 a2 M rfl) m_Tu_pitchOf q_625 (hy_recv hX hP 1 7 (by decide) rfl rfl) rfl rfl (Nat.le_of_ble_eq_true rfl) dX8_goParallel_10 ⟨Nat.le_of_ble_eq_true rfl, Nat.le_of_ble_eq_true rfl⟩ ⟨Nat.zero_le _, Nat.zero_le _⟩) hS (fun H locs hP hS => ?_)
    refine lv_istore (lv' := [(4, .int (Tu_pitchOf a1 a2 M)), (0, .ref (adr G 1)), (1, .int a1), (2, .int a2), (3, .int a3)]) hx hb dX8_goParallel_13 hl (by decide) rfl (fun ls hl => ?_)
    refine lv_aload_n hx hb dX8_goParallel_15 rfl (lv_at hl 1 rfl) ?_
    refine lv_iload_n hx hb dX8_goParallel_16 rfl (lv_at hl 2 rfl) ?_
    refine lv_iload_n hx hb dX8_goParallel_17 rfl (lv_at hl 4 rfl) ?_
    refine hy_ret (hy_rV0 (T := (M, Mr, Mo)) (v := some (.int (Tu_pitchOf a1 a3 M))) (T2 := (M, Mr, Mo)) (As := [.int a1, .int a3]) (rest := []) (n := 0) hx hb hml hown hts hX hP hS hl (c_Tu_pitchOf Mr Mo a1 a3 M rfl) m_Tu_pitchOf q_625 (hy_recv hX hP 1 7 (by decide) rfl rfl) rfl rfl (Nat.le_of_ble_eq_true rfl) dX8_goParallel_18 ⟨Nat.le_of_ble_eq_true rfl, Nat.le_of_ble_eq_true rfl⟩ ⟨Nat.zero_le _, Nat.zero_le _⟩) hS (fun H locs hP hS => ?_)
    refine lv_istore (lv' := [(5, .int (Tu_pitchOf a1 a3 M)), (4, .int (Tu_pitchOf a1 a2 M)), (0, .ref (adr G 1)), (1, .int a1), (2, .int a2), (3, .int a3)]) hx hb dX8_goParallel_21 hl (by decide) rfl (fun ls hl => ?_)
    refine lv_aload_n hx hb dX8_goParallel_23 rfl (lv_at hl 2 rfl) ?_
    refine lv_iload_n hx hb dX8_goParallel_24 rfl (lv_at hl 3 rfl) ?_
    refine lv_iconst (v := 1) hx hb dX8_goParallel_25 rfl ?_
    refine lv_isub hx hb dX8_goParallel_26 ?_
    refine lv_iload_n hx hb dX8_goParallel_27 rfl (lv_at hl 4 rfl) ?_
    refine hy_ret (hy_rV0 (T := (M, Mr, Mo)) (v := some (.int (Tu_pitchOf (a1 - 1) a2 M))) (T2 := (M, Mr, Mo)) (As := [.int (a1 - 1), .int a2]) (rest := []) (n := 0) hx hb hml hown hts hX hP hS hl (c_Tu_pitchOf Mr Mo (a1 - 1) a2 M rfl) m_Tu_pitchOf q_625 (hy_recv hX hP 1 7 (by decide) rfl rfl) rfl rfl (Nat.le_of_ble_eq_true rfl) dX8_goParallel_28 ⟨Nat.le_of_ble_eq_true rfl, Nat.le_of_ble_eq_true rfl⟩ ⟨Nat.zero_le _, Nat.zero_le _⟩) hS (fun H locs hP hS => ?_)
    refine lv_istore (lv' := [(6, .int (Tu_pitchOf (a1 - 1) a2 M)), (5, .int (Tu_pitchOf a1 a3 M)), (4, .int (Tu_pitchOf a1 a2 M)), (0, .ref (adr G 1)), (1, .int a1), (2, .int a2), (3, .int a3)]) hx hb dX8_goParallel_31 hl (by decide) rfl (fun ls hl => ?_)
    refine lv_aload_n hx hb dX8_goParallel_33 rfl (lv_at hl 3 rfl) ?_
    refine lv_iload_n hx hb dX8_goParallel_34 rfl (lv_at hl 4 rfl) ?_
    refine lv_iconst (v := 1) hx hb dX8_goParallel_35 rfl ?_
    refine lv_isub hx hb dX8_goParallel_36 ?_
    refine lv_iload_n hx hb dX8_goParallel_37 rfl (lv_at hl 6 rfl) ?_
    refine hy_ret (hy_rV0 (T := (M, Mr, Mo)) (v := some (.int (Tu_pitchOf (a1 - 1) a3 M))) (T2 := (M, Mr, Mo)) (As := [.int (a1 - 1), .int a3]) (rest := []) (n := 0) hx hb hml hown hts hX hP hS hl (c_Tu_pitchOf Mr Mo (a1 - 1) a3 M rfl) m_Tu_pitchOf q_625 (hy_recv hX hP 1 7 (by decide) rfl rfl) rfl rfl (Nat.le_of_ble_eq_true rfl) dX8_goParallel_38 ⟨Nat.le_of_ble_eq_true rfl, Nat.le_of_ble_eq_true rfl⟩ ⟨Nat.zero_le _, Nat.zero_le _⟩) hS (fun H locs hP hS => ?_)
    refine lv_istore (lv' := [(7, .int (Tu_pitchOf (a1 - 1) a3 M)), (6, .int (Tu_pitchOf (a1 - 1) a2 M)), (5, .int (Tu_pitchOf a1 a3 M)), (4, .int (Tu_pitchOf a1 a2 M)), (0, .ref (adr G 1)), (1, .int a1), (2, .int a2), (3, .int a3)]) hx hb dX8_goParallel_41 hl (by decide) rfl (fun ls hl => ?_)
    refine lv_iload hx hb dX8_goParallel_43 (lv_at hl 3 rfl) ?_
    refine lv_iload hx hb dX8_goParallel_45 (lv_at hl 1 rfl) ?_
    have J19 : ∀ (H : Heap) (locs : List Loc) (ls : Array Slot) (u1 : Int32), u1 = (bI (if (Tu_pitchOf a1 a2 M) ≤ (Tu_pitchOf (a1 - 1) a2 M) then false else (!decide ((Tu_pitchOf a1 a3 M) ≤ (Tu_pitchOf (a1 - 1) a3 M))))) → va_P G.1 vwCl (wld G (M, Mr, Mo)) H → va_S (hyA G) s.heap H locs → lv_has ls 11 [(0, .ref (adr G 1)), (1, .int a1), (2, .int a2), (3, .int a3), (4, .int (Tu_pitchOf a1 a2 M)), (5, .int (Tu_pitchOf a1 a3 M)), (6, .int (Tu_pitchOf (a1 - 1) a2 M)), (7, .int (Tu_pitchOf (a1 - 1) a3 M))] → W p l e { frames := 2, cells := 0, slots := 6 * 0, locals := 43 } s m ([.ref (adr G 1), .int a1, .int a2, .int a3] : List Value).toArray below meth c H locs 0 0 (vx_MQ below (hyQ G (.inr (some (.int (bI res))), (M, Mr, Mo))) (hyXQ G (.inr (some (.int (bI res))), (M, Mr, Mo))) ([.ref (adr G 1), .int a1, .int a2, .int a3] : List Value).toArray s 0 (6 * 0) (hyA G)) (F0 m 62 ls [.int u1]) := by
      intro H locs ls u1 eu1 hP hS hl
      subst eu1
      refine lv_istore (lv' := [(8, .int (bI (if (Tu_pitchOf a1 a2 M) ≤ (Tu_pitchOf (a1 - 1) a2 M) then false else (!decide ((Tu_pitchOf a1 a3 M) ≤ (Tu_pitchOf (a1 - 1) a3 M)))))), (0, .ref (adr G 1)), (1, .int a1), (2, .int a2), (3, .int a3), (4, .int (Tu_pitchOf a1 a2 M)), (5, .int (Tu_pitchOf a1 a3 M)), (6, .int (Tu_pitchOf (a1 - 1) a2 M)), (7, .int (Tu_pitchOf (a1 - 1) a3 M))]) hx hb dX8_goParallel_62 hl (by decide) rfl (fun ls hl => ?_)
      refine lv_iload hx hb dX8_goParallel_64 (lv_at hl 5 rfl) ?_
      refine lv_iload hx hb dX8_goParallel_66 (lv_at hl 7 rfl) ?_
      have J18 : ∀ (H : Heap) (locs : List Loc) (ls : Array Slot) (u1 : Int32), u1 = (bI (if (Tu_pitchOf (a1 - 1) a2 M) ≤ (Tu_pitchOf a1 a2 M) then false else (!decide ((Tu_pitchOf (a1 - 1) a3 M) ≤ (Tu_pitchOf a1 a3 M))))) → va_P G.1 vwCl (wld G (M, Mr, Mo)) H → va_S (hyA G) s.heap H locs → lv_has ls 11 [(0, .ref (adr G 1)), (1, .int a1), (2, .int a2), (3, .int a3), (4, .int (Tu_pitchOf a1 a2 M)), (5, .int (Tu_pitchOf a1 a3 M)), (6, .int (Tu_pitchOf (a1 - 1) a2 M)), (7, .int (Tu_pitchOf (a1 - 1) a3 M)), (8, .int (bI (if (Tu_pitchOf a1 a2 M) ≤ (Tu_pitchOf (a1 - 1) a2 M) then false else (!decide ((Tu_pitchOf a1 a3 M) ≤ (Tu_pitchOf (a1 - 1) a3 M))))))] → W p l e { frames := 2, cells := 0, slots := 6 * 0, locals := 43 } s m ([.ref (adr G 1), .int a1, .int a2, .int a3] : List Value).toArray below meth c H locs 0 0 (vx_MQ below (hyQ G (.inr (some (.int (bI res))), (M, Mr, Mo))) (hyXQ G (.inr (some (.int (bI res))), (M, Mr, Mo))) ([.ref (adr G 1), .int a1, .int a2, .int a3] : List Value).toArray s 0 (6 * 0) (hyA G)) (F0 m 83 ls [.int u1]) := by
        intro H locs ls u1 eu1 hP hS hl
        subst eu1
        refine lv_istore (lv' := [(9, .int (bI (if (Tu_pitchOf (a1 - 1) a2 M) ≤ (Tu_pitchOf a1 a2 M) then false else (!decide ((Tu_pitchOf (a1 - 1) a3 M) ≤ (Tu_pitchOf a1 a3 M)))))), (0, .ref (adr G 1)), (1, .int a1), (2, .int a2), (3, .int a3), (4, .int (Tu_pitchOf a1 a2 M)), (5, .int (Tu_pitchOf a1 a3 M)), (6, .int (Tu_pitchOf (a1 - 1) a2 M)), (7, .int (Tu_pitchOf (a1 - 1) a3 M)), (8, .int (bI (if (Tu_pitchOf a1 a2 M) ≤ (Tu_pitchOf (a1 - 1) a2 M) then false else (!decide ((Tu_pitchOf a1 a3 M) ≤ (Tu_pitchOf (a1 - 1) a3 M))))))]) hx hb dX8_goParallel_83 hl (by decide) rfl (fun ls hl => ?_)
        refine lv_iload hx hb dX8_goParallel_85 (lv_at hl 5 rfl) ?_
        refine lv_iload hx hb dX8_goParallel_87 (lv_at hl 6 rfl) ?_
        refine lv_isub hx hb dX8_goParallel_89 ?_
        refine lv_bipush (v := 12) hx hb dX8_goParallel_90 rfl ?_
        obtain ⟨v6, hv6, h⟩ := hy_bind h
        refine hy_ret (hy_rS0 (T := (M, Mr, Mo)) (v := some (.int v6)) (T2 := (M, Mr, Mo)) (As := [.int ((Tu_pitchOf a1 a2 M) - (Tu_pitchOf a1 a3 M)), .int 12]) (rest := []) (n := 0) hx hb hml hown hts hX hP hS hl (c_Jm_floorMod Mr Mo ((Tu_pitchOf a1 a2 M) - (Tu_pitchOf a1 a3 M)) 12 M hv6) m_Jm_floorMod q_629 rfl rfl (Nat.le_of_ble_eq_true rfl) dX8_goParallel_92 ⟨Nat.le_of_ble_eq_true rfl, Nat.le_of_ble_eq_true rfl⟩ ⟨Nat.zero_le _, Nat.zero_le _⟩) hS (fun H locs hP hS => ?_)
        refine lv_istore (lv' := [(10, .int v6), (9, .int (bI (if (Tu_pitchOf (a1 - 1) a2 M) ≤ (Tu_pitchOf a1 a2 M) then false else (!decide ((Tu_pitchOf (a1 - 1) a3 M) ≤ (Tu_pitchOf a1 a3 M)))))), (0, .ref (adr G 1)), (1, .int a1), (2, .int a2), (3, .int a3), (4, .int (Tu_pitchOf a1 a2 M)), (5, .int (Tu_pitchOf a1 a3 M)), (6, .int (Tu_pitchOf (a1 - 1) a2 M)), (7, .int (Tu_pitchOf (a1 - 1) a3 M)), (8, .int (bI (if (Tu_pitchOf a1 a2 M) ≤ (Tu_pitchOf (a1 - 1) a2 M) then false else (!decide ((Tu_pitchOf a1 a3 M) ≤ (Tu_pitchOf (a1 - 1) a3 M))))))]) hx hb dX8_goParallel_95 hl (by decide) rfl (fun ls hl => ?_)
        refine lv_iload hx hb dX8_goParallel_97 (lv_at hl 10 rfl) ?_
        have K16 : ∀ (H : Heap) (locs : List Loc), (if (if (Tu_pitchOf a1 a2 M) ≤ (Tu_pitchOf (a1 - 1) a2 M) then false else (!decide ((Tu_pitchOf a1 a3 M) ≤ (Tu_pitchOf (a1 - 1) a3 M)))) then (if v6 = 0 then true else (decide (v6 = 7))) else (if (if (Tu_pitchOf (a1 - 1) a2 M) ≤ (Tu_pitchOf a1 a2 M) then false else (!decide ((Tu_pitchOf (a1 - 1) a3 M) ≤ (Tu_pitchOf a1 a3 M)))) then (if v6 = 0 then true else (decide (v6 = 7))) else false)) = true → va_P G.1 vwCl (wld G (M, Mr, Mo)) H → va_S (hyA G) s.heap H locs → W p l e { frames := 2, cells := 0, slots := 6 * 0, locals := 43 } s m ([.ref (adr G 1), .int a1, .int a2, .int a3] : List Value).toArray below meth c H locs 0 0 (vx_MQ below (hyQ G (.inr (some (.int (bI res))), (M, Mr, Mo))) (hyXQ G (.inr (some (.int (bI res))), (M, Mr, Mo))) ([.ref (adr G 1), .int a1, .int a2, .int a3] : List Value).toArray s 0 (6 * 0) (hyA G)) (F0 m 119 ls []) := by
          intro H locs cb hP hS
          rw [if_pos cb] at h
          refine lv_iload hx hb dX8_goParallel_119 (lv_at hl 0 rfl) ?_
          refine lv_iload hx hb dX8_goParallel_121 (lv_at hl 8 rfl) ?_
          refine lv_iload hx hb dX8_goParallel_123 (lv_at hl 9 rfl) ?_
          refine lv_isub hx hb dX8_goParallel_125 ?_
          refine lv_bipush (v := 12) hx hb dX8_goParallel_126 rfl ?_
          obtain ⟨v13, hv13, h⟩ := hy_bind h
          refine hy_ret (hy_rS0 (T := (M, Mr, Mo)) (v := some (.int v13)) (T2 := (M, Mr, Mo)) (As := [.int ((Tu_pitchOf (a1 - 1) a2 M) - (Tu_pitchOf (a1 - 1) a3 M)), .int 12]) (rest := [.int v6]) (n := 0) hx hb hml hown hts hX hP hS hl (c_Jm_floorMod Mr Mo ((Tu_pitchOf (a1 - 1) a2 M) - (Tu_pitchOf (a1 - 1) a3 M)) 12 M hv13) m_Jm_floorMod q_629 rfl rfl (Nat.le_of_ble_eq_true rfl) dX8_goParallel_128 ⟨Nat.le_of_ble_eq_true rfl, Nat.le_of_ble_eq_true rfl⟩ ⟨Nat.zero_le _, Nat.zero_le _⟩) hS (fun H locs hP hS => ?_)
          have J15 : ∀ (H : Heap) (locs : List Loc) (ls : Array Slot) (u1 : Int32), u1 = (bI (decide (v6 = v13))) → va_P G.1 vwCl (wld G (M, Mr, Mo)) H → va_S (hyA G) s.heap H locs → lv_has ls 11 [(0, .ref (adr G 1)), (1, .int a1), (2, .int a2), (3, .int a3), (4, .int (Tu_pitchOf a1 a2 M)), (5, .int (Tu_pitchOf a1 a3 M)), (6, .int (Tu_pitchOf (a1 - 1) a2 M)), (7, .int (Tu_pitchOf (a1 - 1) a3 M)), (8, .int (bI (if (Tu_pitchOf a1 a2 M) ≤ (Tu_pitchOf (a1 - 1) a2 M) then false else (!decide ((Tu_pitchOf a1 a3 M) ≤ (Tu_pitchOf (a1 - 1) a3 M)))))), (9, .int (bI (if (Tu_pitchOf (a1 - 1) a2 M) ≤ (Tu_pitchOf a1 a2 M) then false else (!decide ((Tu_pitchOf (a1 - 1) a3 M) ≤ (Tu_pitchOf a1 a3 M)))))), (10, .int v6)] → W p l e { frames := 2, cells := 0, slots := 6 * 0, locals := 43 } s m ([.ref (adr G 1), .int a1, .int a2, .int a3] : List Value).toArray below meth c H locs 0 0 (vx_MQ below (hyQ G (.inr (some (.int (bI res))), (M, Mr, Mo))) (hyXQ G (.inr (some (.int (bI res))), (M, Mr, Mo))) ([.ref (adr G 1), .int a1, .int a2, .int a3] : List Value).toArray s 0 (6 * 0) (hyA G)) (F0 m 139 ls [.int u1]) := by
            intro H locs ls u1 eu1 hP hS hl
            subst eu1
            exact hy_zret (T := (M, Mr, Mo)) hx hb hr hlocks hP hS (Nat.zero_le _) (Nat.zero_le _) (bI_nar (decide (v6 = v13))) (by rw [← (Option.some.inj h)] <;> rfl) dX8_goParallel_139
          refine lv_icmp_ne (tgt := 138) hx hb dX8_goParallel_131 (by decide) (fun c14 => ?_) (fun c14 => ?_)
          · refine lv_iconst (v := 0) hx hb dX8_goParallel_138 rfl ?_
            exact J15 _ _ ls 0 (by rw [decide_eq_false c14] <;> rfl) hP hS (lv_sub hl [2, 3, 4, 5, 6, 7, 8, 9, 10, 1, 0] rfl)
          · refine lv_iconst (v := 1) hx hb dX8_goParallel_134 rfl ?_
            refine lv_goto (tgt := 139) hx hb dX8_goParallel_135 (by decide) ?_
            exact J15 _ _ ls 1 (by rw [decide_eq_true c14] <;> rfl) hP hS (lv_sub hl [2, 3, 4, 5, 6, 7, 8, 9, 10, 1, 0] rfl)
        have K17 : ∀ (H : Heap) (locs : List Loc), ¬ (if (if (Tu_pitchOf a1 a2 M) ≤ (Tu_pitchOf (a1 - 1) a2 M) then false else (!decide ((Tu_pitchOf a1 a3 M) ≤ (Tu_pitchOf (a1 - 1) a3 M)))) then (if v6 = 0 then true else (decide (v6 = 7))) else (if (if (Tu_pitchOf (a1 - 1) a2 M) ≤ (Tu_pitchOf a1 a2 M) then false else (!decide ((Tu_pitchOf (a1 - 1) a3 M) ≤ (Tu_pitchOf a1 a3 M)))) then (if v6 = 0 then true else (decide (v6 = 7))) else false)) = true → va_P G.1 vwCl (wld G (M, Mr, Mo)) H → va_S (hyA G) s.heap H locs → W p l e { frames := 2, cells := 0, slots := 6 * 0, locals := 43 } s m ([.ref (adr G 1), .int a1, .int a2, .int a3] : List Value).toArray below meth c H locs 0 0 (vx_MQ below (hyQ G (.inr (some (.int (bI res))), (M, Mr, Mo))) (hyXQ G (.inr (some (.int (bI res))), (M, Mr, Mo))) ([.ref (adr G 1), .int a1, .int a2, .int a3] : List Value).toArray s 0 (6 * 0) (hyA G)) (F0 m 138 ls []) := by
          intro H locs cb hP hS
          rw [if_neg cb] at h
          refine lv_iconst (v := 0) hx hb dX8_goParallel_138 rfl ?_
          exact hy_zret (T := (M, Mr, Mo)) hx hb hr hlocks hP hS (Nat.zero_le _) (Nat.zero_le _) (bI_nar false) (by rw [← (Option.some.inj h)] <;> rfl) dX8_goParallel_139
        refine lv_if_ne (tgt := 107) hx hb dX8_goParallel_99 (by decide) (fun c7 => ?_) (fun c7 => ?_)
        · refine lv_iload hx hb dX8_goParallel_107 (lv_at hl 0 rfl) ?_
          refine lv_if_eq (tgt := 119) hx hb dX8_goParallel_109 (by decide) (fun c8 => ?_) (fun c8 => ?_)
          · exact K16 _ _ (by rw [if_pos (bI_1 c7), if_pos c8] <;> first | rfl | decide) hP hS
          · refine lv_iload hx hb dX8_goParallel_112 (lv_at hl 0 rfl) ?_
            refine lv_bipush (v := 7) hx hb dX8_goParallel_114 rfl ?_
            refine lv_icmp_ne (tgt := 138) hx hb dX8_goParallel_116 (by decide) (fun c9 => ?_) (fun c9 => ?_)
            · exact K17 _ _ (by rw [if_pos (bI_1 c7), if_neg c8, decide_eq_false c9] <;> first | rfl | decide) hP hS
            · exact K16 _ _ (by rw [if_pos (bI_1 c7), if_neg c8, decide_eq_true c9] <;> first | rfl | decide) hP hS
        · refine lv_iload hx hb dX8_goParallel_102 (lv_at hl 1 rfl) ?_
          refine lv_if_eq (tgt := 138) hx hb dX8_goParallel_104 (by decide) (fun c10 => ?_) (fun c10 => ?_)
          · exact K17 _ _ (by rw [if_neg (bI_0 c7), if_neg (bI_0 c10)] <;> first | rfl | decide) hP hS
          · refine lv_iload hx hb dX8_goParallel_107 (lv_at hl 0 rfl) ?_
            refine lv_if_eq (tgt := 119) hx hb dX8_goParallel_109 (by decide) (fun c11 => ?_) (fun c11 => ?_)
            · exact K16 _ _ (by rw [if_neg (bI_0 c7), if_pos (bI_1 c10), if_pos c11] <;> first | rfl | decide) hP hS
            · refine lv_iload hx hb dX8_goParallel_112 (lv_at hl 0 rfl) ?_
              refine lv_bipush (v := 7) hx hb dX8_goParallel_114 rfl ?_
              refine lv_icmp_ne (tgt := 138) hx hb dX8_goParallel_116 (by decide) (fun c12 => ?_) (fun c12 => ?_)
              · exact K17 _ _ (by rw [if_neg (bI_0 c7), if_pos (bI_1 c10), if_neg c11, decide_eq_false c12] <;> first | rfl | decide) hP hS
              · exact K16 _ _ (by rw [if_neg (bI_0 c7), if_pos (bI_1 c10), if_neg c11, decide_eq_true c12] <;> first | rfl | decide) hP hS
      refine lv_icmp_ge (tgt := 82) hx hb dX8_goParallel_68 (by decide) (fun c4 => ?_) (fun c4 => ?_)
      · refine lv_iconst (v := 0) hx hb dX8_goParallel_82 rfl ?_
        exact J18 _ _ ls 0 (by rw [if_pos c4] <;> rfl) hP hS (lv_sub hl [1, 2, 3, 4, 5, 6, 7, 8, 0] rfl)
      · refine lv_iload hx hb dX8_goParallel_71 (lv_at hl 6 rfl) ?_
        refine lv_iload hx hb dX8_goParallel_73 (lv_at hl 8 rfl) ?_
        refine lv_icmp_ge (tgt := 82) hx hb dX8_goParallel_75 (by decide) (fun c5 => ?_) (fun c5 => ?_)
        · refine lv_iconst (v := 0) hx hb dX8_goParallel_82 rfl ?_
          exact J18 _ _ ls 0 (by rw [if_neg c4, decide_eq_true c5] <;> rfl) hP hS (lv_sub hl [1, 2, 3, 4, 5, 6, 7, 8, 0] rfl)
        · refine lv_iconst (v := 1) hx hb dX8_goParallel_78 rfl ?_
          refine lv_goto (tgt := 83) hx hb dX8_goParallel_79 (by decide) ?_
          exact J18 _ _ ls 1 (by rw [if_neg c4, decide_eq_false c5] <;> rfl) hP hS (lv_sub hl [1, 2, 3, 4, 5, 6, 7, 8, 0] rfl)
    refine lv_icmp_le (tgt := 61) hx hb dX8_goParallel_47 (by decide) (fun c2 => ?_) (fun c2 => ?_)
    · refine lv_iconst (v := 0) hx hb dX8_goParallel_61 rfl ?_
      exact J19 _ _ ls 0 (by rw [if_pos c2] <;> rfl) hP hS (lv_sub hl [4, 5, 6, 7, 3, 2, 1, 0] rfl)
    · refine lv_iload hx hb dX8_goParallel_50 (lv_at hl 2 rfl) ?_
      refine lv_iload hx hb dX8_goParallel_52 (lv_at hl 0 rfl) ?_
      refine lv_icmp_le (tgt := 61) hx hb dX8_goParallel_54 (by decide) (fun c3 => ?_) (fun c3 => ?_)
      · refine lv_iconst (v := 0) hx hb dX8_goParallel_61 rfl ?_
        exact J19 _ _ ls 0 (by rw [if_neg c2, decide_eq_true c3] <;> rfl) hP hS (lv_sub hl [4, 5, 6, 7, 3, 2, 1, 0] rfl)
      · refine lv_iconst (v := 1) hx hb dX8_goParallel_57 rfl ?_
        refine lv_goto (tgt := 62) hx hb dX8_goParallel_58 (by decide) ?_
        exact J19 _ _ ls 1 (by rw [if_neg c2, decide_eq_false c3] <;> rfl) hP hS (lv_sub hl [4, 5, 6, 7, 3, 2, 1, 0] rfl)
  · rw [if_neg c1] at h
    refine lv_iconst (v := 0) hx hb dX8_goParallel_5 rfl ?_
    exact hy_zret (T := (M, Mr, Mo)) hx hb hr hlocks hP hS (Nat.zero_le _) (Nat.zero_le _) (bI_nar false) (by rw [← (Option.some.inj h)] <;> rfl) dX8_goParallel_6
