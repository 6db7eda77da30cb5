set_option maxHeartbeats 1000000 in
set_option maxRecDepth 100000 in
theorem c_Rf_sing {l : Launch} {G : hyG} (Mc Mo : hyM) (a1 : Int32) (a2 : Int32) (M : hyM) {res : hyM} (h : Rf_sing a1 a2 M = some res) : hyC l yX11_sing (.code yX11_sing cX11_sing 4 none) 0 0 (0) G [.ref (adr G 30), .int a1, .int a2] (Mc, M, Mo) (.inr none, (Mc, res, Mo)) := by
  refine hy_of (by decide +kernel) (Nat.le_of_ble_eq_true rfl) ?_
  intro p e s m below meth c hx hb hml hown hts hr hlocks ht hX hP hS ls hl
  have hl : lv_has ls 4 [(0, .ref (adr G 30)), (1, .int a1), (2, .int a2)] := hl
  rw [Rf_sing] at h
  refine lv_iload_n hx hb dX11_sing_0 rfl (lv_at hl 1 rfl) ?_
  refine lv_istore_n (lv' := [(3, .int a1), (0, .ref (adr G 30)), (1, .int a1), (2, .int a2)]) hx hb dX11_sing_1 rfl hl (by decide) rfl (fun ls hl => ?_)
  have L6 : ∀ (f : Nat) (x1 : Int32) (M2 : hyM) (qL : (Int32 × hyM)) (h : Rf_sing_L2 a2 f x1 M2 = some qL) (H : Heap) (locs : List Loc) (ls : Array Slot) (hP : va_P G.1 vwCl (wld G (Mc, M2, Mo)) H) (hS : va_S (hyA G) s.heap H locs) (hl : lv_has ls 4 [(0, .ref (adr G 30)), (1, .int a1), (2, .int a2), (3, .int x1)]) (kk : ∀ (y1 : Int32) (NM2 : hyM), qL = (y1, NM2) → ∀ (H : Heap) (locs : List Loc) (ls : Array Slot), va_P G.1 vwCl (wld G (Mc, NM2, Mo)) H → va_S (hyA G) s.heap H locs → lv_has ls 4 [(0, .ref (adr G 30)), (1, .int a1), (2, .int a2), (3, .int y1)] → W p l e { frames := 0, cells := 0, slots := 6 * 0, locals := 0 } s m ([.ref (adr G 30), .int a1, .int a2] : List Value).toArray below meth c H locs 0 0 (vx_MQ below (hyQ G (.inr none, (Mc, res, Mo))) (hyXQ G (.inr none, (Mc, res, Mo))) ([.ref (adr G 30), .int a1, .int a2] : List Value).toArray s 0 (6 * 0) (hyA G)) (F0 m 33 ls [])), W p l e { frames := 0, cells := 0, slots := 6 * 0, locals := 0 } s m ([.ref (adr G 30), .int a1, .int a2] : List Value).toArray below meth c H locs 0 0 (vx_MQ below (hyQ G (.inr none, (Mc, res, Mo))) (hyXQ G (.inr none, (Mc, res, Mo))) ([.ref (adr G 30), .int a1, .int a2] : List Value).toArray s 0 (6 * 0) (hyA G)) (F0 m 2 ls []) := by
    intro f
    induction f with
    | zero =>
      intro x1 M2 qL h H locs ls hP hS hl kk
      rw [Rf_sing_L2] at h
      cases h
    | succ f ih =>
      intro x1 M2 qL h H locs ls hP hS hl kk
      rw [Rf_sing_L2] at h
      refine lv_iload_n hx hb dX11_sing_2 rfl (lv_at hl 3 rfl) ?_
      refine lv_iload_n hx hb dX11_sing_3 rfl (lv_at hl 2 rfl) ?_
      refine lv_icmp_gt (tgt := 33) hx hb dX11_sing_4 (by decide) (fun c3 => ?_) (fun c3 => ?_)
      · rw [if_pos c3] at h
        exact kk x1 M2 (Option.some.inj h).symm _ _ ls hP hS (lv_sub hl [0, 1, 2, 3] rfl)
      · rw [if_neg c3] at h
        refine lv_aload_n hx hb dX11_sing_7 rfl (lv_at hl 0 rfl) ?_
        refine hy_get (T := (Mc, M2, Mo)) (o := 30) (k := 26) (v := .ref (adr G 46)) hx hb hown hts hX hP (by decide) rfl rfl inX11g (by decide) q_1218 rfl dX11_sing_8 ?_
        refine lv_aload_n hx hb dX11_sing_11 rfl (lv_at hl 0 rfl) ?_
        refine hy_get (T := (Mc, M2, Mo)) (o := 30) (k := 25) (v := .int (M2.1 30 25)) hx hb hown hts hX hP (by decide) rfl rfl inX11g (by decide) q_1217 rfl dX11_sing_12 ?_
        refine lv_iload_n hx hb dX11_sing_15 rfl (lv_at hl 3 rfl) ?_
        obtain ⟨M4, hM4, h⟩ := hy_bind h
        obtain ⟨nM4, hM4⟩ := stE_some hM4
        refine hy_iast (T := (Mc, M2, Mo)) (T2 := (Mc, (wI M2 46 (M2.1 30 25).toNatClampNeg x1), Mo)) hx hb hX hP hS 46 80 (by decide) (fun _ _ => rfl) nM4 rfl dX11_sing_16 (fun H locs hP hS => ?_)
        rw [hM4] at hP
        refine lv_aload_n hx hb dX11_sing_17 rfl (lv_at hl 0 rfl) ?_
        refine lv_dup hx hb dX11_sing_18 rfl ?_
        refine hy_get (T := (Mc, M4, Mo)) (o := 30) (k := 25) (v := .int (M4.1 30 25)) hx hb hown hts hX hP (by decide) rfl rfl inX11g (by decide) q_1217 rfl dX11_sing_19 ?_
        refine lv_iconst (v := 1) hx hb dX11_sing_22 rfl ?_
        refine lv_iadd hx hb dX11_sing_23 ?_
        refine hy_putI (ty := .int) (T := (Mc, M4, Mo)) (T2 := (Mc, (wI M4 30 25 ((M4.1 30 25) + 1)), Mo)) (o := 30) (k := 25) hx hb hown hts hX hP hS (by decide) rfl rfl rfl rfl inX11g tyX11_ok nmX11 (by decide) q_1217 rfl rfl rfl rfl (Nat.le_of_ble_eq_true rfl) dX11_sing_24 (fun H locs hP hS => ?_)
        obtain ⟨M5, hM5, h⟩ := hy_bind h
        rw [Option.some.inj hM5] at hP
        refine lv_iinc (v := (x1 + 1)) (lv' := [(3, .int (x1 + 1)), (0, .ref (adr G 30)), (1, .int a1), (2, .int a2)]) hx hb dX11_sing_27 hl (k := 3) rfl rfl (by decide) rfl (fun ls hl => ?_)
        refine lv_goto (tgt := 2) hx hb dX11_sing_30 (by decide) ?_
        exact ih (x1 + 1) M5 _ h  _ _ ls hP hS (lv_sub hl [1, 2, 3, 0] rfl) kk
  obtain ⟨q7, hq7, h⟩ := hy_bind h
  refine L6 hyFu a1 M q7 hq7 _ _ ls hP hS (lv_sub hl [1, 2, 3, 0] rfl) ?_
  intro y1 NM2 e9 H locs ls hP hS hl
  subst e9
  try dsimp only at h
  exact hy_vret (T := (Mc, NM2, Mo)) hx hb hr hlocks hP hS (Nat.zero_le _) (Nat.zero_le _) (by rw [← (Option.some.inj h)] <;> rfl) dX11_sing_33
set_option maxHeartbeats 1000000 in
set_option maxRecDepth 100000 in
theorem c_Rf_laySung {l : Launch} {G : hyG} (Mc Mo : hyM) (M : hyM) {res : hyM} (h : Rf_laySung M = some res) : hyC l yX11_laySung (.code yX11_laySung cX11_laySung 4 none) 1 23 (0) G [.ref (adr G 30)] (Mc, M, Mo) (.inr none, (Mc, res, Mo)) := by
  refine hy_of (by decide +kernel) (Nat.le_of_ble_eq_true rfl) ?_
  intro p e s m below meth c hx hb hml hown hts hr hlocks ht hX hP hS ls hl
  have hl : lv_has ls 4 [(0, .ref (adr G 30))] := hl
  rw [Rf_laySung] at h
  refine lv_aload_n hx hb dX11_laySung_0 rfl (lv_at hl 0 rfl) ?_
  obtain ⟨M1, hM1, h⟩ := hy_bind h
  refine hy_ret (hy_rV0 (T := (Mc, M, Mo)) (v := none) (T2 := (Mc, M1, Mo)) (As := []) (rest := []) (n := 0) hx hb hml hown hts hX hP hS hl (c_Rf_layPhrases Mc Mo M hM1) m_Rf_layPhrases q_1328 (hy_recv hX hP 30 10 (by decide) rfl rfl) rfl rfl (Nat.le_of_ble_eq_true rfl) dX11_laySung_1 ⟨Nat.le_of_ble_eq_true rfl, Nat.le_of_ble_eq_true rfl⟩ ⟨Nat.zero_le _, Nat.zero_le _⟩) hS (fun H locs hP hS => ?_)
  refine lv_aload_n hx hb dX11_laySung_4 rfl (lv_at hl 0 rfl) ?_
  refine lv_iconst (v := 0) hx hb dX11_laySung_5 rfl ?_
  refine hy_putI (ty := .int) (T := (Mc, M1, Mo)) (T2 := (Mc, (wI M1 30 25 0), Mo)) (o := 30) (k := 25) hx hb hown hts hX hP hS (by decide) rfl rfl rfl rfl inX11g tyX11_ok nmX11 (by decide) q_1217 rfl rfl rfl rfl (Nat.le_of_ble_eq_true rfl) dX11_laySung_6 (fun H locs hP hS => ?_)
  obtain ⟨M2, hM2, h⟩ := hy_bind h
  rw [Option.some.inj hM2] at hP
  refine lv_iconst (v := 0) hx hb dX11_laySung_9 rfl ?_
  refine lv_istore_n (lv' := [(1, .int 0), (0, .ref (adr G 30))]) hx hb dX11_laySung_10 rfl hl (by decide) rfl (fun ls hl => ?_)
  have L24 : ∀ (f : Nat) (x3 : Int32) (M4 : hyM) (qL : (Int32 × hyM)) (h : Rf_laySung_L11  f x3 M4 = some qL) (H : Heap) (locs : List Loc) (ls : Array Slot) (hP : va_P G.1 vwCl (wld G (Mc, M4, Mo)) H) (hS : va_S (hyA G) s.heap H locs) (hl : lv_has ls 4 [(0, .ref (adr G 30)), (1, .int x3)]) (kk : ∀ (y3 : Int32) (NM4 : hyM), qL = (y3, NM4) → ∀ (H : Heap) (locs : List Loc) (ls : Array Slot), va_P G.1 vwCl (wld G (Mc, NM4, Mo)) H → va_S (hyA G) s.heap H locs → lv_has ls 4 [(0, .ref (adr G 30)), (1, .int y3)] → W p l e { frames := 1, cells := 0, slots := 6 * 0, locals := 23 } s m ([.ref (adr G 30)] : List Value).toArray below meth c H locs 0 0 (vx_MQ below (hyQ G (.inr none, (Mc, res, Mo))) (hyXQ G (.inr none, (Mc, res, Mo))) ([.ref (adr G 30)] : List Value).toArray s 0 (6 * 0) (hyA G)) (F0 m 100 ls [])), W p l e { frames := 1, cells := 0, slots := 6 * 0, locals := 23 } s m ([.ref (adr G 30)] : List Value).toArray below meth c H locs 0 0 (vx_MQ below (hyQ G (.inr none, (Mc, res, Mo))) (hyXQ G (.inr none, (Mc, res, Mo))) ([.ref (adr G 30)] : List Value).toArray s 0 (6 * 0) (hyA G)) (F0 m 11 ls []) := by
    intro f
    induction f with
    | zero =>
      intro x3 M4 qL h H locs ls hP hS hl kk
      rw [Rf_laySung_L11] at h
      cases h
    | succ f ih =>
      intro x3 M4 qL h H locs ls hP hS hl kk
      rw [Rf_laySung_L11] at h
      refine lv_iload_n hx hb dX11_laySung_11 rfl (lv_at hl 1 rfl) ?_
      refine lv_aload_n hx hb dX11_laySung_12 rfl (lv_at hl 0 rfl) ?_
      refine hy_get (T := (Mc, M4, Mo)) (o := 30) (k := 21) (v := .int (M4.1 30 21)) hx hb hown hts hX hP (by decide) rfl rfl inX11g (by decide) q_1213 rfl dX11_laySung_13 ?_
      refine lv_icmp_ge (tgt := 100) hx hb dX11_laySung_16 (by decide) (fun c5 => ?_) (fun c5 => ?_)
      · rw [if_pos c5] at h
        exact kk x3 M4 (Option.some.inj h).symm _ _ ls hP hS (lv_sub hl [0, 1] rfl)
      · rw [if_neg c5] at h
        refine lv_iconst (v := (-1)) hx hb dX11_laySung_19 rfl ?_
        refine lv_istore_n (lv' := [(2, .int (-1)), (0, .ref (adr G 30)), (1, .int x3)]) hx hb dX11_laySung_20 rfl hl (by decide) rfl (fun ls hl => ?_)
        refine lv_iconst (v := 0) hx hb dX11_laySung_21 rfl ?_
        refine lv_istore_n (lv' := [(3, .int 0), (2, .int (-1)), (0, .ref (adr G 30)), (1, .int x3)]) hx hb dX11_laySung_22 rfl hl (by decide) rfl (fun ls hl => ?_)
        have L12 : ∀ (f : Nat) (x6 : Int32) (x7 : Int32) (qL : (Int32 × Int32)) (h : Rf_laySung_L23 x3 M4 f x6 x7 = some qL) (H : Heap) (locs : List Loc) (ls : Array Slot) (hP : va_P G.1 vwCl (wld G (Mc, M4, Mo)) H) (hS : va_S (hyA G) s.heap H locs) (hl : lv_has ls 4 [(0, .ref (adr G 30)), (1, .int x3), (2, .int x6), (3, .int x7)]) (kk : ∀ (y6 : Int32) (y7 : Int32), qL = (y6, y7) → ∀ (H : Heap) (locs : List Loc) (ls : Array Slot), va_P G.1 vwCl (wld G (Mc, M4, Mo)) H → va_S (hyA G) s.heap H locs → lv_has ls 4 [(0, .ref (adr G 30)), (1, .int x3), (2, .int y6), (3, .int y7)] → W p l e { frames := 1, cells := 0, slots := 6 * 0, locals := 23 } s m ([.ref (adr G 30)] : List Value).toArray below meth c H locs 0 0 (vx_MQ below (hyQ G (.inr none, (Mc, res, Mo))) (hyXQ G (.inr none, (Mc, res, Mo))) ([.ref (adr G 30)] : List Value).toArray s 0 (6 * 0) (hyA G)) (F0 m 53 ls [])), W p l e { frames := 1, cells := 0, slots := 6 * 0, locals := 23 } s m ([.ref (adr G 30)] : List Value).toArray below meth c H locs 0 0 (vx_MQ below (hyQ G (.inr none, (Mc, res, Mo))) (hyXQ G (.inr none, (Mc, res, Mo))) ([.ref (adr G 30)] : List Value).toArray s 0 (6 * 0) (hyA G)) (F0 m 23 ls []) := by
          intro f
          induction f with
          | zero =>
            intro x6 x7 qL h H locs ls hP hS hl kk
            rw [Rf_laySung_L23] at h
            cases h
          | succ f ih =>
            intro x6 x7 qL h H locs ls hP hS hl kk
            rw [Rf_laySung_L23] at h
            refine lv_iload_n hx hb dX11_laySung_23 rfl (lv_at hl 3 rfl) ?_
            refine lv_aload_n hx hb dX11_laySung_24 rfl (lv_at hl 0 rfl) ?_
            refine hy_get (T := (Mc, M4, Mo)) (o := 30) (k := 7) (v := .int (M4.1 30 7)) hx hb hown hts hX hP (by decide) rfl rfl inX11g (by decide) q_1199 rfl dX11_laySung_25 ?_
            refine lv_icmp_ge (tgt := 53) hx hb dX11_laySung_28 (by decide) (fun c8 => ?_) (fun c8 => ?_)
            · rw [if_pos c8] at h
              exact kk x6 x7 (Option.some.inj h).symm _ _ ls hP hS (lv_sub hl [0, 1, 2, 3] rfl)
            · rw [if_neg c8] at h
              refine lv_aload_n hx hb dX11_laySung_31 rfl (lv_at hl 0 rfl) ?_
              refine hy_get (T := (Mc, M4, Mo)) (o := 30) (k := 8) (v := .ref (adr G 35)) hx hb hown hts hX hP (by decide) rfl rfl inX11g (by decide) q_1200 rfl dX11_laySung_32 ?_
              refine lv_iload_n hx hb dX11_laySung_35 rfl (lv_at hl 3 rfl) ?_
              obtain ⟨v9, hv9, h⟩ := hy_bind h
              obtain ⟨nv9, hv9⟩ := ldE_some hv9
              refine hy_iald (T := (Mc, M4, Mo)) hx hb hX hP 35 3 (M4.1 35) (by decide) rfl nv9 dX11_laySung_36 ?_
              rw [hv9]
              refine lv_iload_n hx hb dX11_laySung_37 rfl (lv_at hl 1 rfl) ?_
              have J11 : ∀ (H : Heap) (locs : List Loc) (ls : Array Slot) (u1 : Int32), u1 = (if v9 = x3 then x7 else x6) → va_P G.1 vwCl (wld G (Mc, M4, Mo)) H → va_S (hyA G) s.heap H locs → lv_has ls 4 [(0, .ref (adr G 30)), (1, .int x3), (2, .int x6), (3, .int x7)] → W p l e { frames := 1, cells := 0, slots := 6 * 0, locals := 23 } s m ([.ref (adr G 30)] : List Value).toArray below meth c H locs 0 0 (vx_MQ below (hyQ G (.inr none, (Mc, res, Mo))) (hyXQ G (.inr none, (Mc, res, Mo))) ([.ref (adr G 30)] : List Value).toArray s 0 (6 * 0) (hyA G)) (F0 m 46 ls [.int u1]) := by
                intro H locs ls u1 eu1 hP hS hl
                subst eu1
                refine lv_istore_n (lv' := [(2, .int (if v9 = x3 then x7 else x6)), (0, .ref (adr G 30)), (1, .int x3), (3, .int x7)]) hx hb dX11_laySung_46 rfl hl (by decide) rfl (fun ls hl => ?_)
                refine lv_iinc (v := (x7 + 1)) (lv' := [(3, .int (x7 + 1)), (2, .int (if v9 = x3 then x7 else x6)), (0, .ref (adr G 30)), (1, .int x3)]) hx hb dX11_laySung_47 hl (k := 3) rfl rfl (by decide) rfl (fun ls hl => ?_)
                refine lv_goto (tgt := 23) hx hb dX11_laySung_50 (by decide) ?_
                exact ih (if v9 = x3 then x7 else x6) (x7 + 1) _ h  _ _ ls hP hS (lv_sub hl [2, 3, 1, 0] rfl) kk
              refine lv_icmp_ne (tgt := 45) hx hb dX11_laySung_38 (by decide) (fun c10 => ?_) (fun c10 => ?_)
              · refine lv_iload_n hx hb dX11_laySung_45 rfl (lv_at hl 2 rfl) ?_
                exact J11 _ _ ls x6 (by rw [if_neg c10] <;> rfl) hP hS (lv_sub hl [0, 1, 2, 3] rfl)
              · refine lv_iload_n hx hb dX11_laySung_41 rfl (lv_at hl 3 rfl) ?_
                refine lv_goto (tgt := 46) hx hb dX11_laySung_42 (by decide) ?_
                exact J11 _ _ ls x7 (by rw [if_pos c10] <;> rfl) hP hS (lv_sub hl [0, 1, 2, 3] rfl)
        obtain ⟨q23, hq23, h⟩ := hy_bind h
        refine L12 hyFu (-1) 0 q23 hq23 _ _ ls hP hS (lv_sub hl [2, 3, 1, 0] rfl) ?_
        intro y6 y7 e9 H locs ls hP hS hl
        subst e9
        try dsimp only at h
        refine lv_iload_n hx hb dX11_laySung_53 rfl (lv_at hl 2 rfl) ?_
        refine lv_iconst (v := (-1)) hx hb dX11_laySung_54 rfl ?_
        refine lv_icmp_ne (tgt := 62) hx hb dX11_laySung_55 (by decide) (fun c13 => ?_) (fun c13 => ?_)
        · rw [if_neg c13] at h
          refine lv_aload_n hx hb dX11_laySung_62 rfl (lv_at hl 0 rfl) ?_
          refine hy_get (T := (Mc, M4, Mo)) (o := 30) (k := 9) (v := .ref (adr G 36)) hx hb hown hts hX hP (by decide) rfl rfl inX11g (by decide) q_1201 rfl dX11_laySung_63 ?_
          refine lv_iload_n hx hb dX11_laySung_66 rfl (lv_at hl 2 rfl) ?_
          obtain ⟨v14, hv14, h⟩ := hy_bind h
          obtain ⟨nv14, hv14⟩ := ldE_some hv14
          refine hy_iald (T := (Mc, M4, Mo)) hx hb hX hP 36 3 (M4.1 36) (by decide) rfl nv14 dX11_laySung_67 ?_
          rw [hv14]
          refine lv_istore_n (lv' := [(3, .int v14), (0, .ref (adr G 30)), (1, .int x3), (2, .int y6)]) hx hb dX11_laySung_68 rfl hl (by decide) rfl (fun ls hl => ?_)
          refine lv_aload_n hx hb dX11_laySung_69 rfl (lv_at hl 1 rfl) ?_
          refine lv_iload_n hx hb dX11_laySung_70 rfl (lv_at hl 2 rfl) ?_
          refine lv_iload_n hx hb dX11_laySung_71 rfl (lv_at hl 0 rfl) ?_
          obtain ⟨M15, hM15, h⟩ := hy_bind h
          refine hy_ret (hy_rV0 (T := (Mc, M4, Mo)) (v := none) (T2 := (Mc, M15, Mo)) (As := [.int x3, .int v14]) (rest := []) (n := 0) hx hb hml hown hts hX hP hS hl (c_Rf_sing Mc Mo x3 v14 M4 hM15) m_Rf_sing q_1364 (hy_recv hX hP 30 10 (by decide) rfl rfl) rfl rfl (Nat.le_of_ble_eq_true rfl) dX11_laySung_72 ⟨Nat.le_of_ble_eq_true rfl, Nat.le_of_ble_eq_true rfl⟩ ⟨Nat.zero_le _, Nat.zero_le _⟩) hS (fun H locs hP hS => ?_)
          refine lv_iload_n hx hb dX11_laySung_75 rfl (lv_at hl 3 rfl) ?_
          refine lv_iconst (v := (-1)) hx hb dX11_laySung_76 rfl ?_
          refine lv_icmp_eq (tgt := 93) hx hb dX11_laySung_77 (by decide) (fun c16 => ?_) (fun c16 => ?_)
          · rw [if_pos c16] at h
            refine lv_iload_n hx hb dX11_laySung_93 rfl (lv_at hl 0 rfl) ?_
            refine lv_iconst (v := 1) hx hb dX11_laySung_94 rfl ?_
            refine lv_iadd hx hb dX11_laySung_95 ?_
            refine lv_istore_n (lv' := [(1, .int (v14 + 1)), (3, .int v14), (0, .ref (adr G 30)), (2, .int y6)]) hx hb dX11_laySung_96 rfl hl (by decide) rfl (fun ls hl => ?_)
            refine lv_goto (tgt := 11) hx hb dX11_laySung_97 (by decide) ?_
            exact ih (v14 + 1) M15 _ h  _ _ ls hP hS (lv_sub hl [2, 0] rfl) kk
          · rw [if_neg c16] at h
            refine lv_aload_n hx hb dX11_laySung_80 rfl (lv_at hl 1 rfl) ?_
            refine lv_iload_n hx hb dX11_laySung_81 rfl (lv_at hl 2 rfl) ?_
            refine lv_iload_n hx hb dX11_laySung_82 rfl (lv_at hl 0 rfl) ?_
            refine lv_aload_n hx hb dX11_laySung_83 rfl (lv_at hl 1 rfl) ?_
            refine hy_get (T := (Mc, M15, Mo)) (o := 30) (k := 10) (v := .ref (adr G 37)) hx hb hown hts hX hP (by decide) rfl rfl inX11g (by decide) q_1202 rfl dX11_laySung_84 ?_
            refine lv_iload_n hx hb dX11_laySung_87 rfl (lv_at hl 3 rfl) ?_
            obtain ⟨v17, hv17, h⟩ := hy_bind h
            obtain ⟨nv17, hv17⟩ := ldE_some hv17
            refine hy_iald (T := (Mc, M15, Mo)) hx hb hX hP 37 3 (M15.1 37) (by decide) rfl nv17 dX11_laySung_88 ?_
            rw [hv17]
            refine lv_isub hx hb dX11_laySung_89 ?_
            obtain ⟨M18, hM18, h⟩ := hy_bind h
            refine hy_ret (hy_rV0 (T := (Mc, M15, Mo)) (v := none) (T2 := (Mc, M18, Mo)) (As := [.int x3, .int (v14 - v17)]) (rest := []) (n := 0) hx hb hml hown hts hX hP hS hl (c_Rf_sing Mc Mo x3 (v14 - v17) M15 hM18) m_Rf_sing q_1364 (hy_recv hX hP 30 10 (by decide) rfl rfl) rfl rfl (Nat.le_of_ble_eq_true rfl) dX11_laySung_90 ⟨Nat.le_of_ble_eq_true rfl, Nat.le_of_ble_eq_true rfl⟩ ⟨Nat.zero_le _, Nat.zero_le _⟩) hS (fun H locs hP hS => ?_)
            refine lv_iload_n hx hb dX11_laySung_93 rfl (lv_at hl 0 rfl) ?_
            refine lv_iconst (v := 1) hx hb dX11_laySung_94 rfl ?_
            refine lv_iadd hx hb dX11_laySung_95 ?_
            refine lv_istore_n (lv' := [(1, .int (v14 + 1)), (3, .int v14), (0, .ref (adr G 30)), (2, .int y6)]) hx hb dX11_laySung_96 rfl hl (by decide) rfl (fun ls hl => ?_)
            refine lv_goto (tgt := 11) hx hb dX11_laySung_97 (by decide) ?_
            exact ih (v14 + 1) M18 _ h  _ _ ls hP hS (lv_sub hl [2, 0] rfl) kk
        · rw [if_pos (c13)] at h
          refine lv_iload_n hx hb dX11_laySung_58 rfl (lv_at hl 1 rfl) ?_
          refine lv_goto (tgt := 68) hx hb dX11_laySung_59 (by decide) ?_
          refine lv_istore_n (lv' := [(3, .int x3), (0, .ref (adr G 30)), (1, .int x3), (2, .int y6)]) hx hb dX11_laySung_68 rfl hl (by decide) rfl (fun ls hl => ?_)
          refine lv_aload_n hx hb dX11_laySung_69 rfl (lv_at hl 1 rfl) ?_
          refine lv_iload_n hx hb dX11_laySung_70 rfl (lv_at hl 2 rfl) ?_
          refine lv_iload_n hx hb dX11_laySung_71 rfl (lv_at hl 0 rfl) ?_
          obtain ⟨M19, hM19, h⟩ := hy_bind h
          refine hy_ret (hy_rV0 (T := (Mc, M4, Mo)) (v := none) (T2 := (Mc, M19, Mo)) (As := [.int x3, .int x3]) (rest := []) (n := 0) hx hb hml hown hts hX hP hS hl (c_Rf_sing Mc Mo x3 x3 M4 hM19) m_Rf_sing q_1364 (hy_recv hX hP 30 10 (by decide) rfl rfl) rfl rfl (Nat.le_of_ble_eq_true rfl) dX11_laySung_72 ⟨Nat.le_of_ble_eq_true rfl, Nat.le_of_ble_eq_true rfl⟩ ⟨Nat.zero_le _, Nat.zero_le _⟩) hS (fun H locs hP hS => ?_)
          refine lv_iload_n hx hb dX11_laySung_75 rfl (lv_at hl 3 rfl) ?_
          refine lv_iconst (v := (-1)) hx hb dX11_laySung_76 rfl ?_
          refine lv_icmp_eq (tgt := 93) hx hb dX11_laySung_77 (by decide) (fun c20 => ?_) (fun c20 => ?_)
          · rw [if_pos c20] at h
            refine lv_iload_n hx hb dX11_laySung_93 rfl (lv_at hl 0 rfl) ?_
            refine lv_iconst (v := 1) hx hb dX11_laySung_94 rfl ?_
            refine lv_iadd hx hb dX11_laySung_95 ?_
            refine lv_istore_n (lv' := [(1, .int (x3 + 1)), (3, .int x3), (0, .ref (adr G 30)), (2, .int y6)]) hx hb dX11_laySung_96 rfl hl (by decide) rfl (fun ls hl => ?_)
            refine lv_goto (tgt := 11) hx hb dX11_laySung_97 (by decide) ?_
            exact ih (x3 + 1) M19 _ h  _ _ ls hP hS (lv_sub hl [2, 0] rfl) kk
          · rw [if_neg c20] at h
            refine lv_aload_n hx hb dX11_laySung_80 rfl (lv_at hl 1 rfl) ?_
            refine lv_iload_n hx hb dX11_laySung_81 rfl (lv_at hl 2 rfl) ?_
            refine lv_iload_n hx hb dX11_laySung_82 rfl (lv_at hl 0 rfl) ?_
            refine lv_aload_n hx hb dX11_laySung_83 rfl (lv_at hl 1 rfl) ?_
            refine hy_get (T := (Mc, M19, Mo)) (o := 30) (k := 10) (v := .ref (adr G 37)) hx hb hown hts hX hP (by decide) rfl rfl inX11g (by decide) q_1202 rfl dX11_laySung_84 ?_
            refine lv_iload_n hx hb dX11_laySung_87 rfl (lv_at hl 3 rfl) ?_
            obtain ⟨v21, hv21, h⟩ := hy_bind h
            obtain ⟨nv21, hv21⟩ := ldE_some hv21
            refine hy_iald (T := (Mc, M19, Mo)) hx hb hX hP 37 3 (M19.1 37) (by decide) rfl nv21 dX11_laySung_88 ?_
            rw [hv21]
            refine lv_isub hx hb dX11_laySung_89 ?_
            obtain ⟨M22, hM22, h⟩ := hy_bind h
            refine hy_ret (hy_rV0 (T := (Mc, M19, Mo)) (v := none) (T2 := (Mc, M22, Mo)) (As := [.int x3, .int (x3 - v21)]) (rest := []) (n := 0) hx hb hml hown hts hX hP hS hl (c_Rf_sing Mc Mo x3 (x3 - v21) M19 hM22) m_Rf_sing q_1364 (hy_recv hX hP 30 10 (by decide) rfl rfl) rfl rfl (Nat.le_of_ble_eq_true rfl) dX11_laySung_90 ⟨Nat.le_of_ble_eq_true rfl, Nat.le_of_ble_eq_true rfl⟩ ⟨Nat.zero_le _, Nat.zero_le _⟩) hS (fun H locs hP hS => ?_)
            refine lv_iload_n hx hb dX11_laySung_93 rfl (lv_at hl 0 rfl) ?_
            refine lv_iconst (v := 1) hx hb dX11_laySung_94 rfl ?_
            refine lv_iadd hx hb dX11_laySung_95 ?_
            refine lv_istore_n (lv' := [(1, .int (x3 + 1)), (3, .int x3), (0, .ref (adr G 30)), (2, .int y6)]) hx hb dX11_laySung_96 rfl hl (by decide) rfl (fun ls hl => ?_)
            refine lv_goto (tgt := 11) hx hb dX11_laySung_97 (by decide) ?_
            exact ih (x3 + 1) M22 _ h  _ _ ls hP hS (lv_sub hl [2, 0] rfl) kk
  obtain ⟨q25, hq25, h⟩ := hy_bind h
  refine L24 hyFu 0 M2 q25 hq25 _ _ ls hP hS (lv_sub hl [1, 0] rfl) ?_
  intro y3 NM4 e9 H locs ls hP hS hl
  subst e9
  try dsimp only at h
  exact hy_vret (T := (Mc, NM4, Mo)) hx hb hr hlocks hP hS (Nat.zero_le _) (Nat.zero_le _) (by rw [← (Option.some.inj h)] <;> rfl) dX11_laySung_100
set_option maxHeartbeats 1000000 in
set_option maxRecDepth 100000 in
theorem c_Rf_dropRepeats {l : Launch} {G : hyG} (Mc Mo : hyM) (M : hyM) {res : hyM} (h : Rf_dropRepeats M = some res) : hyC l yX11_dropRepeats (.code yX11_dropRepeats cX11_dropRepeats 3 none) 1 22 (0) G [.ref (adr G 30)] (Mc, M, Mo) (.inr none, (Mc, res, Mo)) := by
  refine hy_of (by decide +kernel) (Nat.le_of_ble_eq_true rfl) ?_
  intro p e s m below meth c hx hb hml hown hts hr hlocks ht hX hP hS ls hl
  have hl : lv_has ls 3 [(0, .ref (adr G 30))] := hl
  rw [Rf_dropRepeats] at h
  refine lv_aload_n hx hb dX11_dropRepeats_0 rfl (lv_at hl 0 rfl) ?_
  obtain ⟨M1, hM1, h⟩ := hy_bind h
  refine hy_ret (hy_rV0 (T := (Mc, M, Mo)) (v := none) (T2 := (Mc, M1, Mo)) (As := []) (rest := []) (n := 0) hx hb hml hown hts hX hP hS hl (c_Rf_layPhrases Mc Mo M hM1) m_Rf_layPhrases q_1328 (hy_recv hX hP 30 10 (by decide) rfl rfl) rfl rfl (Nat.le_of_ble_eq_true rfl) dX11_dropRepeats_1 ⟨Nat.le_of_ble_eq_true rfl, Nat.le_of_ble_eq_true rfl⟩ ⟨Nat.zero_le _, Nat.zero_le _⟩) hS (fun H locs hP hS => ?_)
  refine lv_iconst (v := 0) hx hb dX11_dropRepeats_4 rfl ?_
  refine lv_istore_n (lv' := [(1, .int 0), (0, .ref (adr G 30))]) hx hb dX11_dropRepeats_5 rfl hl (by decide) rfl (fun ls hl => ?_)
  refine lv_iconst (v := 0) hx hb dX11_dropRepeats_6 rfl ?_
  refine lv_istore_n (lv' := [(2, .int 0), (1, .int 0), (0, .ref (adr G 30))]) hx hb dX11_dropRepeats_7 rfl hl (by decide) rfl (fun ls hl => ?_)
  have L14 : ∀ (f : Nat) (x2 : Int32) (x3 : Int32) (M4 : hyM) (qL : (Int32 × Int32 × hyM)) (h : Rf_dropRepeats_L8  f x2 x3 M4 = some qL) (H : Heap) (locs : List Loc) (ls : Array Slot) (hP : va_P G.1 vwCl (wld G (Mc, M4, Mo)) H) (hS : va_S (hyA G) s.heap H locs) (hl : lv_has ls 3 [(0, .ref (adr G 30)), (1, .int x2), (2, .int x3)]) (kk : ∀ (y2 : Int32) (y3 : Int32) (NM4 : hyM), qL = (y2, y3, NM4) → ∀ (H : Heap) (locs : List Loc) (ls : Array Slot), va_P G.1 vwCl (wld G (Mc, NM4, Mo)) H → va_S (hyA G) s.heap H locs → lv_has ls 3 [(0, .ref (adr G 30)), (1, .int y2), (2, .int y3)] → W p l e { frames := 1, cells := 0, slots := 6 * 0, locals := 22 } s m ([.ref (adr G 30)] : List Value).toArray below meth c H locs 0 0 (vx_MQ below (hyQ G (.inr none, (Mc, res, Mo))) (hyXQ G (.inr none, (Mc, res, Mo))) ([.ref (adr G 30)] : List Value).toArray s 0 (6 * 0) (hyA G)) (F0 m 74 ls [])), W p l e { frames := 1, cells := 0, slots := 6 * 0, locals := 22 } s m ([.ref (adr G 30)] : List Value).toArray below meth c H locs 0 0 (vx_MQ below (hyQ G (.inr none, (Mc, res, Mo))) (hyXQ G (.inr none, (Mc, res, Mo))) ([.ref (adr G 30)] : List Value).toArray s 0 (6 * 0) (hyA G)) (F0 m 8 ls []) := by
    intro f
    induction f with
    | zero =>
      intro x2 x3 M4 qL h H locs ls hP hS hl kk
      rw [Rf_dropRepeats_L8] at h
      cases h
    | succ f ih =>
      intro x2 x3 M4 qL h H locs ls hP hS hl kk
      rw [Rf_dropRepeats_L8] at h
      refine lv_iload_n hx hb dX11_dropRepeats_8 rfl (lv_at hl 2 rfl) ?_
      refine lv_aload_n hx hb dX11_dropRepeats_9 rfl (lv_at hl 0 rfl) ?_
      refine hy_get (T := (Mc, M4, Mo)) (o := 30) (k := 7) (v := .int (M4.1 30 7)) hx hb hown hts hX hP (by decide) rfl rfl inX11g (by decide) q_1199 rfl dX11_dropRepeats_10 ?_
      refine lv_icmp_ge (tgt := 74) hx hb dX11_dropRepeats_13 (by decide) (fun c5 => ?_) (fun c5 => ?_)
      · rw [if_pos c5] at h
        exact kk x2 x3 M4 (Option.some.inj h).symm _ _ ls hP hS (lv_sub hl [0, 1, 2] rfl)
      · rw [if_neg c5] at h
        refine lv_aload_n hx hb dX11_dropRepeats_16 rfl (lv_at hl 0 rfl) ?_
        refine hy_get (T := (Mc, M4, Mo)) (o := 30) (k := 9) (v := .ref (adr G 36)) hx hb hown hts hX hP (by decide) rfl rfl inX11g (by decide) q_1201 rfl dX11_dropRepeats_17 ?_
        refine lv_iload_n hx hb dX11_dropRepeats_20 rfl (lv_at hl 2 rfl) ?_
        obtain ⟨v6, hv6, h⟩ := hy_bind h
        obtain ⟨nv6, hv6⟩ := ldE_some hv6
        refine hy_iald (T := (Mc, M4, Mo)) hx hb hX hP 36 3 (M4.1 36) (by decide) rfl nv6 dX11_dropRepeats_21 ?_
        rw [hv6]
        refine lv_aload_n hx hb dX11_dropRepeats_22 rfl (lv_at hl 0 rfl) ?_
        refine hy_get (T := (Mc, M4, Mo)) (o := 30) (k := 21) (v := .int (M4.1 30 21)) hx hb hown hts hX hP (by decide) rfl rfl inX11g (by decide) q_1213 rfl dX11_dropRepeats_23 ?_
        refine lv_icmp_ge (tgt := 68) hx hb dX11_dropRepeats_26 (by decide) (fun c7 => ?_) (fun c7 => ?_)
        · rw [if_pos c7] at h
          refine lv_iinc (v := (x3 + 1)) (lv' := [(2, .int (x3 + 1)), (0, .ref (adr G 30)), (1, .int x2)]) hx hb dX11_dropRepeats_68 hl (k := 2) rfl rfl (by decide) rfl (fun ls hl => ?_)
          refine lv_goto (tgt := 8) hx hb dX11_dropRepeats_71 (by decide) ?_
          exact ih x2 (x3 + 1) M4 _ h  _ _ ls hP hS (lv_sub hl [1, 2, 0] rfl) kk
        · rw [if_neg c7] at h
          refine lv_aload_n hx hb dX11_dropRepeats_29 rfl (lv_at hl 0 rfl) ?_
          refine hy_get (T := (Mc, M4, Mo)) (o := 30) (k := 8) (v := .ref (adr G 35)) hx hb hown hts hX hP (by decide) rfl rfl inX11g (by decide) q_1200 rfl dX11_dropRepeats_30 ?_
          refine lv_iload_n hx hb dX11_dropRepeats_33 rfl (lv_at hl 1 rfl) ?_
          refine lv_aload_n hx hb dX11_dropRepeats_34 rfl (lv_at hl 0 rfl) ?_
          refine hy_get (T := (Mc, M4, Mo)) (o := 30) (k := 8) (v := .ref (adr G 35)) hx hb hown hts hX hP (by decide) rfl rfl inX11g (by decide) q_1200 rfl dX11_dropRepeats_35 ?_
          refine lv_iload_n hx hb dX11_dropRepeats_38 rfl (lv_at hl 2 rfl) ?_
          obtain ⟨v8, hv8, h⟩ := hy_bind h
          obtain ⟨nv8, hv8⟩ := ldE_some hv8
          refine hy_iald (T := (Mc, M4, Mo)) hx hb hX hP 35 3 (M4.1 35) (by decide) rfl nv8 dX11_dropRepeats_39 ?_
          rw [hv8]
          obtain ⟨M9, hM9, h⟩ := hy_bind h
          obtain ⟨nM9, hM9⟩ := stE_some hM9
          refine hy_iast (T := (Mc, M4, Mo)) (T2 := (Mc, (wI M4 35 x2.toNatClampNeg v8), Mo)) hx hb hX hP hS 35 3 (by decide) (fun _ _ => rfl) nM9 rfl dX11_dropRepeats_40 (fun H locs hP hS => ?_)
          rw [hM9] at hP
          refine lv_aload_n hx hb dX11_dropRepeats_41 rfl (lv_at hl 0 rfl) ?_
          refine hy_get (T := (Mc, M9, Mo)) (o := 30) (k := 9) (v := .ref (adr G 36)) hx hb hown hts hX hP (by decide) rfl rfl inX11g (by decide) q_1201 rfl dX11_dropRepeats_42 ?_
          refine lv_iload_n hx hb dX11_dropRepeats_45 rfl (lv_at hl 1 rfl) ?_
          refine lv_aload_n hx hb dX11_dropRepeats_46 rfl (lv_at hl 0 rfl) ?_
          refine hy_get (T := (Mc, M9, Mo)) (o := 30) (k := 9) (v := .ref (adr G 36)) hx hb hown hts hX hP (by decide) rfl rfl inX11g (by decide) q_1201 rfl dX11_dropRepeats_47 ?_
          refine lv_iload_n hx hb dX11_dropRepeats_50 rfl (lv_at hl 2 rfl) ?_
          obtain ⟨v10, hv10, h⟩ := hy_bind h
          obtain ⟨nv10, hv10⟩ := ldE_some hv10
          refine hy_iald (T := (Mc, M9, Mo)) hx hb hX hP 36 3 (M9.1 36) (by decide) rfl nv10 dX11_dropRepeats_51 ?_
          rw [hv10]
          obtain ⟨M11, hM11, h⟩ := hy_bind h
          obtain ⟨nM11, hM11⟩ := stE_some hM11
          refine hy_iast (T := (Mc, M9, Mo)) (T2 := (Mc, (wI M9 36 x2.toNatClampNeg v10), Mo)) hx hb hX hP hS 36 3 (by decide) (fun _ _ => rfl) nM11 rfl dX11_dropRepeats_52 (fun H locs hP hS => ?_)
          rw [hM11] at hP
          refine lv_aload_n hx hb dX11_dropRepeats_53 rfl (lv_at hl 0 rfl) ?_
          refine hy_get (T := (Mc, M11, Mo)) (o := 30) (k := 10) (v := .ref (adr G 37)) hx hb hown hts hX hP (by decide) rfl rfl inX11g (by decide) q_1202 rfl dX11_dropRepeats_54 ?_
          refine lv_iload_n hx hb dX11_dropRepeats_57 rfl (lv_at hl 1 rfl) ?_
          refine lv_aload_n hx hb dX11_dropRepeats_58 rfl (lv_at hl 0 rfl) ?_
          refine hy_get (T := (Mc, M11, Mo)) (o := 30) (k := 10) (v := .ref (adr G 37)) hx hb hown hts hX hP (by decide) rfl rfl inX11g (by decide) q_1202 rfl dX11_dropRepeats_59 ?_
          refine lv_iload_n hx hb dX11_dropRepeats_62 rfl (lv_at hl 2 rfl) ?_
          obtain ⟨v12, hv12, h⟩ := hy_bind h
          obtain ⟨nv12, hv12⟩ := ldE_some hv12
          refine hy_iald (T := (Mc, M11, Mo)) hx hb hX hP 37 3 (M11.1 37) (by decide) rfl nv12 dX11_dropRepeats_63 ?_
          rw [hv12]
          obtain ⟨M13, hM13, h⟩ := hy_bind h
          obtain ⟨nM13, hM13⟩ := stE_some hM13
          refine hy_iast (T := (Mc, M11, Mo)) (T2 := (Mc, (wI M11 37 x2.toNatClampNeg v12), Mo)) hx hb hX hP hS 37 3 (by decide) (fun _ _ => rfl) nM13 rfl dX11_dropRepeats_64 (fun H locs hP hS => ?_)
          rw [hM13] at hP
          refine lv_iinc (v := (x2 + 1)) (lv' := [(1, .int (x2 + 1)), (0, .ref (adr G 30)), (2, .int x3)]) hx hb dX11_dropRepeats_65 hl (k := 1) rfl rfl (by decide) rfl (fun ls hl => ?_)
          refine lv_iinc (v := (x3 + 1)) (lv' := [(2, .int (x3 + 1)), (1, .int (x2 + 1)), (0, .ref (adr G 30))]) hx hb dX11_dropRepeats_68 hl (k := 2) rfl rfl (by decide) rfl (fun ls hl => ?_)
          refine lv_goto (tgt := 8) hx hb dX11_dropRepeats_71 (by decide) ?_
          exact ih (x2 + 1) (x3 + 1) M13 _ h  _ _ ls hP hS (lv_sub hl [2, 1, 0] rfl) kk
  obtain ⟨q16, hq16, h⟩ := hy_bind h
  refine L14 hyFu 0 0 M1 q16 hq16 _ _ ls hP hS (lv_sub hl [2, 1, 0] rfl) ?_
  intro y2 y3 NM4 e9 H locs ls hP hS hl
  subst e9
  try dsimp only at h
  refine lv_aload_n hx hb dX11_dropRepeats_74 rfl (lv_at hl 0 rfl) ?_
  refine lv_iload_n hx hb dX11_dropRepeats_75 rfl (lv_at hl 1 rfl) ?_
  refine hy_putI (ty := .int) (T := (Mc, NM4, Mo)) (T2 := (Mc, (wI NM4 30 7 y2), Mo)) (o := 30) (k := 7) hx hb hown hts hX hP hS (by decide) rfl rfl rfl rfl inX11g tyX11_ok nmX11 (by decide) q_1199 rfl rfl rfl rfl (Nat.le_of_ble_eq_true rfl) dX11_dropRepeats_76 (fun H locs hP hS => ?_)
  obtain ⟨M15, hM15, h⟩ := hy_bind h
  rw [Option.some.inj hM15] at hP
  exact hy_vret (T := (Mc, M15, Mo)) hx hb hr hlocks hP hS (Nat.zero_le _) (Nat.zero_le _) (by rw [← (Option.some.inj h)] <;> rfl) dX11_dropRepeats_79
set_option maxHeartbeats 1000000 in
set_option maxRecDepth 100000 in
theorem c_Rf_isSlurred {l : Launch} {G : hyG} (Mc Mo : hyM) (a1 : Int32) (M : hyM) {res : Bool} (h : Rf_isSlurred a1 M = some res) : hyC l yX11_isSlurred (.code yX11_isSlurred cX11_isSlurred 2 (some .boolean)) 0 0 (0) G [.ref (adr G 30), .int a1] (Mc, M, Mo) (.inr (some (.int (bI res))), (Mc, M, Mo)) := by
  refine hy_of (by decide +kernel) (Nat.le_of_ble_eq_true rfl) ?_
  intro p e s m below meth c hx hb hml hown hts hr hlocks ht hX hP hS ls hl
  have hl : lv_has ls 2 [(0, .ref (adr G 30)), (1, .int a1)] := hl
  rw [Rf_isSlurred] at h
  refine lv_aload_n hx hb dX11_isSlurred_0 rfl (lv_at hl 0 rfl) ?_
  refine hy_get (T := (Mc, M, Mo)) (o := 30) (k := 5) (v := .ref (adr G 33)) hx hb hown hts hX hP (by decide) rfl rfl inX11g (by decide) q_1197 rfl dX11_isSlurred_1 ?_
  refine lv_iload_n hx hb dX11_isSlurred_4 rfl (lv_at hl 1 rfl) ?_
  obtain ⟨v1, hv1, h⟩ := hy_bind h
  obtain ⟨nv1, hv1⟩ := ldE_some hv1
  refine hy_zald (T := (Mc, M, Mo)) hx hb hX hP 33 40 (M.1 33) (by decide) rfl nv1 dX11_isSlurred_5 ?_
  rw [hv1]
  refine lv_if_eq (tgt := 28) hx hb dX11_isSlurred_6 (by decide) (fun c2 => ?_) (fun c2 => ?_)
  · rw [if_pos c2] at h
    refine lv_iconst (v := 0) hx hb dX11_isSlurred_28 rfl ?_
    exact hy_zret (T := (Mc, M, Mo)) hx hb hr hlocks hP hS (Nat.zero_le _) (Nat.zero_le _) (bI_nar false) (by rw [← (Option.some.inj h)] <;> rfl) dX11_isSlurred_29
  · rw [if_neg c2] at h
    refine lv_aload_n hx hb dX11_isSlurred_9 rfl (lv_at hl 0 rfl) ?_
    refine hy_get (T := (Mc, M, Mo)) (o := 30) (k := 22) (v := .ref (adr G 43)) hx hb hown hts hX hP (by decide) rfl rfl inX11g (by decide) q_1214 rfl dX11_isSlurred_10 ?_
    refine lv_aload_n hx hb dX11_isSlurred_13 rfl (lv_at hl 0 rfl) ?_
    refine hy_get (T := (Mc, M, Mo)) (o := 30) (k := 24) (v := .ref (adr G 45)) hx hb hown hts hX hP (by decide) rfl rfl inX11g (by decide) q_1216 rfl dX11_isSlurred_14 ?_
    refine lv_iload_n hx hb dX11_isSlurred_17 rfl (lv_at hl 1 rfl) ?_
    obtain ⟨v3, hv3, h⟩ := hy_bind h
    obtain ⟨nv3, hv3⟩ := ldE_some hv3
    refine hy_iald (T := (Mc, M, Mo)) hx hb hX hP 45 40 (M.1 45) (by decide) rfl nv3 dX11_isSlurred_18 ?_
    rw [hv3]
    obtain ⟨v4, hv4, h⟩ := hy_bind h
    obtain ⟨nv4, hv4⟩ := ldE_some hv4
    refine hy_iald (T := (Mc, M, Mo)) hx hb hX hP 43 40 (M.1 43) (by decide) rfl nv4 dX11_isSlurred_19 ?_
    rw [hv4]
    refine lv_iload_n hx hb dX11_isSlurred_20 rfl (lv_at hl 1 rfl) ?_
    have J6 : ∀ (H : Heap) (locs : List Loc) (ls : Array Slot) (u1 : Int32), u1 = (bI (!decide (v4 = a1))) → va_P G.1 vwCl (wld G (Mc, M, Mo)) H → va_S (hyA G) s.heap H locs → lv_has ls 2 [(0, .ref (adr G 30)), (1, .int a1)] → W p l e { frames := 0, cells := 0, slots := 6 * 0, locals := 0 } s m ([.ref (adr G 30), .int a1] : List Value).toArray below meth c H locs 0 0 (vx_MQ below (hyQ G (.inr (some (.int (bI res))), (Mc, M, Mo))) (hyXQ G (.inr (some (.int (bI res))), (Mc, M, Mo))) ([.ref (adr G 30), .int a1] : List Value).toArray s 0 (6 * 0) (hyA G)) (F0 m 29 ls [.int u1]) := by
      intro H locs ls u1 eu1 hP hS hl
      subst eu1
      exact hy_zret (T := (Mc, M, Mo)) hx hb hr hlocks hP hS (Nat.zero_le _) (Nat.zero_le _) (bI_nar (!decide (v4 = a1))) (by rw [← (Option.some.inj h)] <;> rfl) dX11_isSlurred_29
    refine lv_icmp_eq (tgt := 28) hx hb dX11_isSlurred_21 (by decide) (fun c5 => ?_) (fun c5 => ?_)
    · refine lv_iconst (v := 0) hx hb dX11_isSlurred_28 rfl ?_
      exact J6 _ _ ls 0 (by rw [decide_eq_true c5] <;> rfl) hP hS (lv_sub hl [0, 1] rfl)
    · refine lv_iconst (v := 1) hx hb dX11_isSlurred_24 rfl ?_
      refine lv_goto (tgt := 29) hx hb dX11_isSlurred_25 (by decide) ?_
      exact J6 _ _ ls 1 (by rw [decide_eq_false c5] <;> rfl) hP hS (lv_sub hl [0, 1] rfl)
set_option maxHeartbeats 1000000 in
set_option maxRecDepth 100000 in
theorem c_Rf_syllablesOf {l : Launch} {G : hyG} (Mc Mo : hyM) (a1 : Int32) (M : hyM) {res : Int32} (h : Rf_syllablesOf a1 M = some res) : hyC l yX11_syllablesOf (.code yX11_syllablesOf cX11_syllablesOf 4 (some .int)) 1 21 (0) G [.ref (adr G 30), .int a1] (Mc, M, Mo) (.inr (some (.int res)), (Mc, M, Mo)) := by
  refine hy_of (by decide +kernel) (Nat.le_of_ble_eq_true rfl) ?_
  intro p e s m below meth c hx hb hml hown hts hr hlocks ht hX hP hS ls hl
  have hl : lv_has ls 4 [(0, .ref (adr G 30)), (1, .int a1)] := hl
  rw [Rf_syllablesOf] at h
  refine lv_iconst (v := 0) hx hb dX11_syllablesOf_0 rfl ?_
  refine lv_istore_n (lv' := [(2, .int 0), (0, .ref (adr G 30)), (1, .int a1)]) hx hb dX11_syllablesOf_1 rfl hl (by decide) rfl (fun ls hl => ?_)
  refine lv_aload_n hx hb dX11_syllablesOf_2 rfl (lv_at hl 1 rfl) ?_
  refine hy_get (T := (Mc, M, Mo)) (o := 30) (k := 22) (v := .ref (adr G 43)) hx hb hown hts hX hP (by decide) rfl rfl inX11g (by decide) q_1214 rfl dX11_syllablesOf_3 ?_
  refine lv_iload_n hx hb dX11_syllablesOf_6 rfl (lv_at hl 2 rfl) ?_
  obtain ⟨v1, hv1, h⟩ := hy_bind h
  obtain ⟨nv1, hv1⟩ := ldE_some hv1
  refine hy_iald (T := (Mc, M, Mo)) hx hb hX hP 43 40 (M.1 43) (by decide) rfl nv1 dX11_syllablesOf_7 ?_
  rw [hv1]
  refine lv_istore_n (lv' := [(3, .int v1), (2, .int 0), (0, .ref (adr G 30)), (1, .int a1)]) hx hb dX11_syllablesOf_8 rfl hl (by decide) rfl (fun ls hl => ?_)
  have L9 : ∀ (f : Nat) (x2 : Int32) (x3 : Int32) (qL : (Int32 × Int32)) (h : Rf_syllablesOf_L9 a1 M f x2 x3 = some qL) (H : Heap) (locs : List Loc) (ls : Array Slot) (hP : va_P G.1 vwCl (wld G (Mc, M, Mo)) H) (hS : va_S (hyA G) s.heap H locs) (hl : lv_has ls 4 [(0, .ref (adr G 30)), (1, .int a1), (2, .int x2), (3, .int x3)]) (kk : ∀ (y2 : Int32) (y3 : Int32), qL = (y2, y3) → ∀ (H : Heap) (locs : List Loc) (ls : Array Slot), va_P G.1 vwCl (wld G (Mc, M, Mo)) H → va_S (hyA G) s.heap H locs → lv_has ls 4 [(0, .ref (adr G 30)), (1, .int a1), (2, .int y2), (3, .int y3)] → W p l e { frames := 1, cells := 0, slots := 6 * 0, locals := 21 } s m ([.ref (adr G 30), .int a1] : List Value).toArray below meth c H locs 0 0 (vx_MQ below (hyQ G (.inr (some (.int res)), (Mc, M, Mo))) (hyXQ G (.inr (some (.int res)), (Mc, M, Mo))) ([.ref (adr G 30), .int a1] : List Value).toArray s 0 (6 * 0) (hyA G)) (F0 m 41 ls [])), W p l e { frames := 1, cells := 0, slots := 6 * 0, locals := 21 } s m ([.ref (adr G 30), .int a1] : List Value).toArray below meth c H locs 0 0 (vx_MQ below (hyQ G (.inr (some (.int res)), (Mc, M, Mo))) (hyXQ G (.inr (some (.int res)), (Mc, M, Mo))) ([.ref (adr G 30), .int a1] : List Value).toArray s 0 (6 * 0) (hyA G)) (F0 m 9 ls []) := by
    intro f
    induction f with
    | zero =>
      intro x2 x3 qL h H locs ls hP hS hl kk
      rw [Rf_syllablesOf_L9] at h
      cases h
    | succ f ih =>
      intro x2 x3 qL h H locs ls hP hS hl kk
      rw [Rf_syllablesOf_L9] at h
      refine lv_iload_n hx hb dX11_syllablesOf_9 rfl (lv_at hl 3 rfl) ?_
      refine lv_aload_n hx hb dX11_syllablesOf_10 rfl (lv_at hl 0 rfl) ?_
      refine hy_get (T := (Mc, M, Mo)) (o := 30) (k := 23) (v := .ref (adr G 44)) hx hb hown hts hX hP (by decide) rfl rfl inX11g (by decide) q_1215 rfl dX11_syllablesOf_11 ?_
      refine lv_iload_n hx hb dX11_syllablesOf_14 rfl (lv_at hl 1 rfl) ?_
      obtain ⟨v4, hv4, h⟩ := hy_bind h
      obtain ⟨nv4, hv4⟩ := ldE_some hv4
      refine hy_iald (T := (Mc, M, Mo)) hx hb hX hP 44 40 (M.1 44) (by decide) rfl nv4 dX11_syllablesOf_15 ?_
      rw [hv4]
      refine lv_icmp_gt (tgt := 41) hx hb dX11_syllablesOf_16 (by decide) (fun c5 => ?_) (fun c5 => ?_)
      · rw [if_pos c5] at h
        exact kk x2 x3 (Option.some.inj h).symm _ _ ls hP hS (lv_sub hl [0, 1, 2, 3] rfl)
      · rw [if_neg c5] at h
        refine lv_iload_n hx hb dX11_syllablesOf_19 rfl (lv_at hl 2 rfl) ?_
        refine lv_aload_n hx hb dX11_syllablesOf_20 rfl (lv_at hl 0 rfl) ?_
        refine lv_iload_n hx hb dX11_syllablesOf_21 rfl (lv_at hl 3 rfl) ?_
        obtain ⟨v6, hv6, h⟩ := hy_bind h
        refine hy_ret (hy_rV0 (T := (Mc, M, Mo)) (v := some (.int (bI v6))) (T2 := (Mc, M, Mo)) (As := [.int x3]) (rest := [.int x2]) (n := 0) hx hb hml hown hts hX hP hS hl (c_Rf_isSlurred Mc Mo x3 M hv6) m_Rf_isSlurred q_1396 (hy_recv hX hP 30 10 (by decide) rfl rfl) rfl rfl (Nat.le_of_ble_eq_true rfl) dX11_syllablesOf_22 ⟨Nat.le_of_ble_eq_true rfl, Nat.le_of_ble_eq_true rfl⟩ ⟨Nat.zero_le _, Nat.zero_le _⟩) hS (fun H locs hP hS => ?_)
        have J8 : ∀ (H : Heap) (locs : List Loc) (ls : Array Slot) (u1 : Int32), u1 = (bI (!v6)) → va_P G.1 vwCl (wld G (Mc, M, Mo)) H → va_S (hyA G) s.heap H locs → lv_has ls 4 [(0, .ref (adr G 30)), (1, .int a1), (2, .int x2), (3, .int x3)] → W p l e { frames := 1, cells := 0, slots := 6 * 0, locals := 21 } s m ([.ref (adr G 30), .int a1] : List Value).toArray below meth c H locs 0 0 (vx_MQ below (hyQ G (.inr (some (.int res)), (Mc, M, Mo))) (hyXQ G (.inr (some (.int res)), (Mc, M, Mo))) ([.ref (adr G 30), .int a1] : List Value).toArray s 0 (6 * 0) (hyA G)) (F0 m 33 ls [.int u1, .int x2]) := by
          intro H locs ls u1 eu1 hP hS hl
          subst eu1
          refine lv_iadd hx hb dX11_syllablesOf_33 ?_
          refine lv_istore_n (lv' := [(2, .int (x2 + (bI (!v6)))), (0, .ref (adr G 30)), (1, .int a1), (3, .int x3)]) hx hb dX11_syllablesOf_34 rfl hl (by decide) rfl (fun ls hl => ?_)
          refine lv_iinc (v := (x3 + 1)) (lv' := [(3, .int (x3 + 1)), (2, .int (x2 + (bI (!v6)))), (0, .ref (adr G 30)), (1, .int a1)]) hx hb dX11_syllablesOf_35 hl (k := 3) rfl rfl (by decide) rfl (fun ls hl => ?_)
          refine lv_goto (tgt := 9) hx hb dX11_syllablesOf_38 (by decide) ?_
          exact ih (x2 + (bI (!v6))) (x3 + 1) _ h  _ _ ls hP hS (lv_sub hl [2, 3, 1, 0] rfl) kk
        refine lv_if_eq (tgt := 32) hx hb dX11_syllablesOf_25 (by decide) (fun c7 => ?_) (fun c7 => ?_)
        · refine lv_iconst (v := 1) hx hb dX11_syllablesOf_32 rfl ?_
          exact J8 _ _ ls 1 (by rw [(bI_z c7)] <;> rfl) hP hS (lv_sub hl [0, 1, 2, 3] rfl)
        · refine lv_iconst (v := 0) hx hb dX11_syllablesOf_28 rfl ?_
          refine lv_goto (tgt := 33) hx hb dX11_syllablesOf_29 (by decide) ?_
          exact J8 _ _ ls 0 (by rw [(bI_1 c7)] <;> rfl) hP hS (lv_sub hl [0, 1, 2, 3] rfl)
  obtain ⟨q10, hq10, h⟩ := hy_bind h
  refine L9 hyFu 0 v1 q10 hq10 _ _ ls hP hS (lv_sub hl [2, 3, 1, 0] rfl) ?_
  intro y2 y3 e9 H locs ls hP hS hl
  subst e9
  try dsimp only at h
  refine lv_iload_n hx hb dX11_syllablesOf_41 rfl (lv_at hl 2 rfl) ?_
  exact hy_iret (T := (Mc, M, Mo)) hx hb hr hlocks hP hS (Nat.zero_le _) (Nat.zero_le _) (by rw [← (Option.some.inj h)] <;> rfl) dX11_syllablesOf_42
set_option maxHeartbeats 1000000 in
set_option maxRecDepth 100000 in
theorem c_Rf_syllableOf {l : Launch} {G : hyG} (Mc Mo : hyM) (a1 : Int32) (M : hyM) {res : Int32} (h : Rf_syllableOf a1 M = some res) : hyC l yX11_syllableOf (.code yX11_syllableOf cX11_syllableOf 4 (some .int)) 1 21 (0) G [.ref (adr G 30), .int a1] (Mc, M, Mo) (.inr (some (.int res)), (Mc, M, Mo)) := by
  refine hy_of (by decide +kernel) (Nat.le_of_ble_eq_true rfl) ?_
  intro p e s m below meth c hx hb hml hown hts hr hlocks ht hX hP hS ls hl
  have hl : lv_has ls 4 [(0, .ref (adr G 30)), (1, .int a1)] := hl
  rw [Rf_syllableOf] at h
  refine lv_iconst (v := 0) hx hb dX11_syllableOf_0 rfl ?_
  refine lv_istore_n (lv' := [(2, .int 0), (0, .ref (adr G 30)), (1, .int a1)]) hx hb dX11_syllableOf_1 rfl hl (by decide) rfl (fun ls hl => ?_)
  refine lv_aload_n hx hb dX11_syllableOf_2 rfl (lv_at hl 1 rfl) ?_
  refine hy_get (T := (Mc, M, Mo)) (o := 30) (k := 22) (v := .ref (adr G 43)) hx hb hown hts hX hP (by decide) rfl rfl inX11g (by decide) q_1214 rfl dX11_syllableOf_3 ?_
  refine lv_aload_n hx hb dX11_syllableOf_6 rfl (lv_at hl 1 rfl) ?_
  refine hy_get (T := (Mc, M, Mo)) (o := 30) (k := 24) (v := .ref (adr G 45)) hx hb hown hts hX hP (by decide) rfl rfl inX11g (by decide) q_1216 rfl dX11_syllableOf_7 ?_
  refine lv_iload_n hx hb dX11_syllableOf_10 rfl (lv_at hl 2 rfl) ?_
  obtain ⟨v1, hv1, h⟩ := hy_bind h
  obtain ⟨nv1, hv1⟩ := ldE_some hv1
  refine hy_iald (T := (Mc, M, Mo)) hx hb hX hP 45 40 (M.1 45) (by decide) rfl nv1 dX11_syllableOf_11 ?_
  rw [hv1]
  obtain ⟨v2, hv2, h⟩ := hy_bind h
  obtain ⟨nv2, hv2⟩ := ldE_some hv2
  refine hy_iald (T := (Mc, M, Mo)) hx hb hX hP 43 40 (M.1 43) (by decide) rfl nv2 dX11_syllableOf_12 ?_
  rw [hv2]
  refine lv_istore_n (lv' := [(3, .int v2), (2, .int 0), (0, .ref (adr G 30)), (1, .int a1)]) hx hb dX11_syllableOf_13 rfl hl (by decide) rfl (fun ls hl => ?_)
  have L9 : ∀ (f : Nat) (x3 : Int32) (x4 : Int32) (qL : (Int32 × Int32)) (h : Rf_syllableOf_L14 a1 M f x3 x4 = some qL) (H : Heap) (locs : List Loc) (ls : Array Slot) (hP : va_P G.1 vwCl (wld G (Mc, M, Mo)) H) (hS : va_S (hyA G) s.heap H locs) (hl : lv_has ls 4 [(0, .ref (adr G 30)), (1, .int a1), (2, .int x3), (3, .int x4)]) (kk : ∀ (y3 : Int32) (y4 : Int32), qL = (y3, y4) → ∀ (H : Heap) (locs : List Loc) (ls : Array Slot), va_P G.1 vwCl (wld G (Mc, M, Mo)) H → va_S (hyA G) s.heap H locs → lv_has ls 4 [(0, .ref (adr G 30)), (1, .int a1), (2, .int y3), (3, .int y4)] → W p l e { frames := 1, cells := 0, slots := 6 * 0, locals := 21 } s m ([.ref (adr G 30), .int a1] : List Value).toArray below meth c H locs 0 0 (vx_MQ below (hyQ G (.inr (some (.int res)), (Mc, M, Mo))) (hyXQ G (.inr (some (.int res)), (Mc, M, Mo))) ([.ref (adr G 30), .int a1] : List Value).toArray s 0 (6 * 0) (hyA G)) (F0 m 41 ls [])), W p l e { frames := 1, cells := 0, slots := 6 * 0, locals := 21 } s m ([.ref (adr G 30), .int a1] : List Value).toArray below meth c H locs 0 0 (vx_MQ below (hyQ G (.inr (some (.int res)), (Mc, M, Mo))) (hyXQ G (.inr (some (.int res)), (Mc, M, Mo))) ([.ref (adr G 30), .int a1] : List Value).toArray s 0 (6 * 0) (hyA G)) (F0 m 14 ls []) := by
    intro f
    induction f with
    | zero =>
      intro x3 x4 qL h H locs ls hP hS hl kk
      rw [Rf_syllableOf_L14] at h
      cases h
    | succ f ih =>
      intro x3 x4 qL h H locs ls hP hS hl kk
      rw [Rf_syllableOf_L14] at h
      refine lv_iload_n hx hb dX11_syllableOf_14 rfl (lv_at hl 3 rfl) ?_
      refine lv_iload_n hx hb dX11_syllableOf_15 rfl (lv_at hl 1 rfl) ?_
      refine lv_icmp_ge (tgt := 41) hx hb dX11_syllableOf_16 (by decide) (fun c5 => ?_) (fun c5 => ?_)
      · rw [if_pos c5] at h
        exact kk x3 x4 (Option.some.inj h).symm _ _ ls hP hS (lv_sub hl [0, 1, 2, 3] rfl)
      · rw [if_neg c5] at h
        refine lv_iload_n hx hb dX11_syllableOf_19 rfl (lv_at hl 2 rfl) ?_
        refine lv_aload_n hx hb dX11_syllableOf_20 rfl (lv_at hl 0 rfl) ?_
        refine lv_iload_n hx hb dX11_syllableOf_21 rfl (lv_at hl 3 rfl) ?_
        obtain ⟨v6, hv6, h⟩ := hy_bind h
        refine hy_ret (hy_rV0 (T := (Mc, M, Mo)) (v := some (.int (bI v6))) (T2 := (Mc, M, Mo)) (As := [.int x4]) (rest := [.int x3]) (n := 0) hx hb hml hown hts hX hP hS hl (c_Rf_isSlurred Mc Mo x4 M hv6) m_Rf_isSlurred q_1396 (hy_recv hX hP 30 10 (by decide) rfl rfl) rfl rfl (Nat.le_of_ble_eq_true rfl) dX11_syllableOf_22 ⟨Nat.le_of_ble_eq_true rfl, Nat.le_of_ble_eq_true rfl⟩ ⟨Nat.zero_le _, Nat.zero_le _⟩) hS (fun H locs hP hS => ?_)
        have J8 : ∀ (H : Heap) (locs : List Loc) (ls : Array Slot) (u1 : Int32), u1 = (bI (!v6)) → va_P G.1 vwCl (wld G (Mc, M, Mo)) H → va_S (hyA G) s.heap H locs → lv_has ls 4 [(0, .ref (adr G 30)), (1, .int a1), (2, .int x3), (3, .int x4)] → W p l e { frames := 1, cells := 0, slots := 6 * 0, locals := 21 } s m ([.ref (adr G 30), .int a1] : List Value).toArray below meth c H locs 0 0 (vx_MQ below (hyQ G (.inr (some (.int res)), (Mc, M, Mo))) (hyXQ G (.inr (some (.int res)), (Mc, M, Mo))) ([.ref (adr G 30), .int a1] : List Value).toArray s 0 (6 * 0) (hyA G)) (F0 m 33 ls [.int u1, .int x3]) := by
          intro H locs ls u1 eu1 hP hS hl
          subst eu1
          refine lv_iadd hx hb dX11_syllableOf_33 ?_
          refine lv_istore_n (lv' := [(2, .int (x3 + (bI (!v6)))), (0, .ref (adr G 30)), (1, .int a1), (3, .int x4)]) hx hb dX11_syllableOf_34 rfl hl (by decide) rfl (fun ls hl => ?_)
          refine lv_iinc (v := (x4 + 1)) (lv' := [(3, .int (x4 + 1)), (2, .int (x3 + (bI (!v6)))), (0, .ref (adr G 30)), (1, .int a1)]) hx hb dX11_syllableOf_35 hl (k := 3) rfl rfl (by decide) rfl (fun ls hl => ?_)
          refine lv_goto (tgt := 14) hx hb dX11_syllableOf_38 (by decide) ?_
          exact ih (x3 + (bI (!v6))) (x4 + 1) _ h  _ _ ls hP hS (lv_sub hl [2, 3, 1, 0] rfl) kk
        refine lv_if_eq (tgt := 32) hx hb dX11_syllableOf_25 (by decide) (fun c7 => ?_) (fun c7 => ?_)
        · refine lv_iconst (v := 1) hx hb dX11_syllableOf_32 rfl ?_
          exact J8 _ _ ls 1 (by rw [(bI_z c7)] <;> rfl) hP hS (lv_sub hl [0, 1, 2, 3] rfl)
        · refine lv_iconst (v := 0) hx hb dX11_syllableOf_28 rfl ?_
          refine lv_goto (tgt := 33) hx hb dX11_syllableOf_29 (by decide) ?_
          exact J8 _ _ ls 0 (by rw [(bI_1 c7)] <;> rfl) hP hS (lv_sub hl [0, 1, 2, 3] rfl)
  obtain ⟨q10, hq10, h⟩ := hy_bind h
  refine L9 hyFu 0 v2 q10 hq10 _ _ ls hP hS (lv_sub hl [2, 3, 1, 0] rfl) ?_
  intro y3 y4 e9 H locs ls hP hS hl
  subst e9
  try dsimp only at h
  refine lv_iload_n hx hb dX11_syllableOf_41 rfl (lv_at hl 2 rfl) ?_
  exact hy_iret (T := (Mc, M, Mo)) hx hb hr hlocks hP hS (Nat.zero_le _) (Nat.zero_le _) (by rw [← (Option.some.inj h)] <;> rfl) dX11_syllableOf_42
set_option maxHeartbeats 1000000 in
set_option maxRecDepth 100000 in
theorem c_Rf_sign {l : Launch} {G : hyG} (Mc Mo : hyM) (a1 : Int32) (a2 : Int32) (M : hyM) {res : Int32} (h : Rf_sign a1 a2 M = some res) : hyC l yX11_sign (.code yX11_sign cX11_sign 3 (some .int)) 0 0 (0) G [.ref (adr G 30), .int a1, .int a2] (Mc, M, Mo) (.inr (some (.int res)), (Mc, M, Mo)) := by
  refine hy_of (by decide +kernel) (Nat.le_of_ble_eq_true rfl) ?_
  intro p e s m below meth c hx hb hml hown hts hr hlocks ht hX hP hS ls hl
  have hl : lv_has ls 3 [(0, .ref (adr G 30)), (1, .int a1), (2, .int a2)] := hl
  rw [Rf_sign] at h
  refine lv_aload_n hx hb dX11_sign_0 rfl (lv_at hl 0 rfl) ?_
  refine hy_get (T := (Mc, M, Mo)) (o := 30) (k := 15) (v := .ref (adr G 39)) hx hb hown hts hX hP (by decide) rfl rfl inX11g (by decide) q_1207 rfl dX11_sign_1 ?_
  refine lv_bipush (v := 60) hx hb dX11_sign_4 rfl ?_
  refine lv_iload_n hx hb dX11_sign_6 rfl (lv_at hl 1 rfl) ?_
  refine lv_imul hx hb dX11_sign_7 ?_
  refine lv_iload_n hx hb dX11_sign_8 rfl (lv_at hl 2 rfl) ?_
  refine lv_iadd hx hb dX11_sign_9 ?_
  obtain ⟨v1, hv1, h⟩ := hy_bind h
  obtain ⟨nv1, hv1⟩ := ldE_some hv1
  refine hy_iald (T := (Mc, M, Mo)) hx hb hX hP 39 5760 (M.1 39) (by decide) rfl nv1 dX11_sign_10 ?_
  rw [hv1]
  exact hy_iret (T := (Mc, M, Mo)) hx hb hr hlocks hP hS (Nat.zero_le _) (Nat.zero_le _) (by rw [← (Option.some.inj h)] <;> rfl) dX11_sign_11
set_option maxHeartbeats 1000000 in
set_option maxRecDepth 100000 in
theorem c_Rf_isLetter {l : Launch} {G : hyG} (Mc Mo : hyM) (a1 : Int32) (M : hyM) {res : Bool} (h : Rf_isLetter a1 M = res) : hyC l yX11_isLetter (.code yX11_isLetter cX11_isLetter 1 (some .boolean)) 1 22 (0) G [.int a1] (Mc, M, Mo) (.inr (some (.int (bI res))), (Mc, M, Mo)) := by
  refine hy_of (by decide +kernel) (Nat.le_of_ble_eq_true rfl) ?_
  intro p e s m below meth c hx hb hml hown hts hr hlocks ht hX hP hS ls hl
  have hl : lv_has ls 1 [(0, .int a1)] := hl
  rw [Rf_isLetter] at h
  refine lv_iload_n hx hb dX11_isLetter_0 rfl (lv_at hl 0 rfl) ?_
  refine lv_bipush (v := 97) hx hb dX11_isLetter_1 rfl ?_
  refine lv_bipush (v := 122) hx hb dX11_isLetter_3 rfl ?_
  refine hy_ret (hy_rS0 (T := (Mc, M, Mo)) (v := some (.int (bI (Rf_within a1 97 122 M)))) (T2 := (Mc, M, Mo)) (As := [.int a1, .int 97, .int 122]) (rest := []) (n := 0) hx hb hml hown hts hX hP hS hl (c_Rf_within Mc Mo a1 97 122 M rfl) m_Rf_within q_1310 rfl rfl (Nat.le_of_ble_eq_true rfl) dX11_isLetter_5 ⟨Nat.le_of_ble_eq_true rfl, Nat.le_of_ble_eq_true rfl⟩ ⟨Nat.zero_le _, Nat.zero_le _⟩) hS (fun H locs hP hS => ?_)
  have J4 : ∀ (H : Heap) (locs : List Loc) (ls : Array Slot) (u1 : Int32), u1 = (bI (if (Rf_within a1 97 122 M) then true else (if (Rf_within a1 65 90 M) then true else (decide (a1 = 39))))) → va_P G.1 vwCl (wld G (Mc, M, Mo)) H → va_S (hyA G) s.heap H locs → lv_has ls 1 [(0, .int a1)] → W p l e { frames := 1, cells := 0, slots := 6 * 0, locals := 22 } s m ([.int a1] : List Value).toArray below meth c H locs 0 0 (vx_MQ below (hyQ G (.inr (some (.int (bI res))), (Mc, M, Mo))) (hyXQ G (.inr (some (.int (bI res))), (Mc, M, Mo))) ([.int a1] : List Value).toArray s 0 (6 * 0) (hyA G)) (F0 m 33 ls [.int u1]) := by
    intro H locs ls u1 eu1 hP hS hl
    subst eu1
    exact hy_zret (T := (Mc, M, Mo)) hx hb hr hlocks hP hS (Nat.zero_le _) (Nat.zero_le _) (bI_nar (if (Rf_within a1 97 122 M) then true else (if (Rf_within a1 65 90 M) then true else (decide (a1 = 39))))) (by rw [← h] <;> rfl) dX11_isLetter_33
  refine lv_if_ne (tgt := 28) hx hb dX11_isLetter_8 (by decide) (fun c1 => ?_) (fun c1 => ?_)
  · refine lv_iconst (v := 1) hx hb dX11_isLetter_28 rfl ?_
    refine lv_goto (tgt := 33) hx hb dX11_isLetter_29 (by decide) ?_
    exact J4 _ _ ls 1 (by rw [if_pos (bI_1 c1)] <;> rfl) hP hS (lv_sub hl [0] rfl)
  · refine lv_iload_n hx hb dX11_isLetter_11 rfl (lv_at hl 0 rfl) ?_
    refine lv_bipush (v := 65) hx hb dX11_isLetter_12 rfl ?_
    refine lv_bipush (v := 90) hx hb dX11_isLetter_14 rfl ?_
    refine hy_ret (hy_rS0 (T := (Mc, M, Mo)) (v := some (.int (bI (Rf_within a1 65 90 M)))) (T2 := (Mc, M, Mo)) (As := [.int a1, .int 65, .int 90]) (rest := []) (n := 0) hx hb hml hown hts hX hP hS hl (c_Rf_within Mc Mo a1 65 90 M rfl) m_Rf_within q_1310 rfl rfl (Nat.le_of_ble_eq_true rfl) dX11_isLetter_16 ⟨Nat.le_of_ble_eq_true rfl, Nat.le_of_ble_eq_true rfl⟩ ⟨Nat.zero_le _, Nat.zero_le _⟩) hS (fun H locs hP hS => ?_)
    refine lv_if_ne (tgt := 28) hx hb dX11_isLetter_19 (by decide) (fun c2 => ?_) (fun c2 => ?_)
    · refine lv_iconst (v := 1) hx hb dX11_isLetter_28 rfl ?_
      refine lv_goto (tgt := 33) hx hb dX11_isLetter_29 (by decide) ?_
      exact J4 _ _ ls 1 (by rw [if_neg (bI_0 c1), if_pos (bI_1 c2)] <;> rfl) hP hS (lv_sub hl [0] rfl)
    · refine lv_iload_n hx hb dX11_isLetter_22 rfl (lv_at hl 0 rfl) ?_
      refine lv_bipush (v := 39) hx hb dX11_isLetter_23 rfl ?_
      refine lv_icmp_ne (tgt := 32) hx hb dX11_isLetter_25 (by decide) (fun c3 => ?_) (fun c3 => ?_)
      · refine lv_iconst (v := 0) hx hb dX11_isLetter_32 rfl ?_
        exact J4 _ _ ls 0 (by rw [if_neg (bI_0 c1), if_neg (bI_0 c2), decide_eq_false c3] <;> rfl) hP hS (lv_sub hl [0] rfl)
      · refine lv_iconst (v := 1) hx hb dX11_isLetter_28 rfl ?_
        refine lv_goto (tgt := 33) hx hb dX11_isLetter_29 (by decide) ?_
        exact J4 _ _ ls 1 (by rw [if_neg (bI_0 c1), if_neg (bI_0 c2), decide_eq_true c3] <;> rfl) hP hS (lv_sub hl [0] rfl)
set_option maxHeartbeats 1000000 in
set_option maxRecDepth 100000 in
theorem c_Rf_counts {l : Launch} {G : hyG} (Mc Mo : hyM) (a1 : Int32) (a2 : Int32) (M : hyM) {res : Int32} (h : Rf_counts a1 a2 M = some res) : hyC l yX11_counts (.code yX11_counts cX11_counts 6 (some .int)) 1 22 (0) G [.ref (adr G 30), .int a1, .int a2] (Mc, M, Mo) (.inr (some (.int res)), (Mc, M, Mo)) := by
  refine hy_of (by decide +kernel) (Nat.le_of_ble_eq_true rfl) ?_
  intro p e s m below meth c hx hb hml hown hts hr hlocks ht hX hP hS ls hl
  have hl : lv_has ls 6 [(0, .ref (adr G 30)), (1, .int a1), (2, .int a2)] := hl
  rw [Rf_counts] at h
  refine lv_aload_n hx hb dX11_counts_0 rfl (lv_at hl 0 rfl) ?_
  refine hy_get (T := (Mc, M, Mo)) (o := 30) (k := 14) (v := .ref (adr G 38)) hx hb hown hts hX hP (by decide) rfl rfl inX11g (by decide) q_1206 rfl dX11_counts_1 ?_
  refine lv_iload_n hx hb dX11_counts_4 rfl (lv_at hl 1 rfl) ?_
  obtain ⟨v1, hv1, h⟩ := hy_bind h
  obtain ⟨nv1, hv1⟩ := ldE_some hv1
  refine hy_iald (T := (Mc, M, Mo)) hx hb hX hP 38 96 (M.1 38) (by decide) rfl nv1 dX11_counts_5 ?_
  rw [hv1]
  have J14 : ∀ (H : Heap) (locs : List Loc) (ls : Array Slot) (u1 : Int32), u1 = (bI (!decide (v1 ≤ 0))) → va_P G.1 vwCl (wld G (Mc, M, Mo)) H → va_S (hyA G) s.heap H locs → lv_has ls 6 [(0, .ref (adr G 30)), (1, .int a1), (2, .int a2)] → W p l e { frames := 1, cells := 0, slots := 6 * 0, locals := 22 } s m ([.ref (adr G 30), .int a1, .int a2] : List Value).toArray below meth c H locs 0 0 (vx_MQ below (hyQ G (.inr (some (.int res)), (Mc, M, Mo))) (hyXQ G (.inr (some (.int res)), (Mc, M, Mo))) ([.ref (adr G 30), .int a1, .int a2] : List Value).toArray s 0 (6 * 0) (hyA G)) (F0 m 14 ls [.int u1]) := by
    intro H locs ls u1 eu1 hP hS hl
    subst eu1
    refine lv_istore_n (lv' := [(3, .int (bI (!decide (v1 ≤ 0)))), (0, .ref (adr G 30)), (1, .int a1), (2, .int a2)]) hx hb dX11_counts_14 rfl hl (by decide) rfl (fun ls hl => ?_)
    refine lv_iconst (v := 0) hx hb dX11_counts_15 rfl ?_
    refine lv_istore (lv' := [(4, .int 0), (3, .int (bI (!decide (v1 ≤ 0)))), (0, .ref (adr G 30)), (1, .int a1), (2, .int a2)]) hx hb dX11_counts_16 hl (by decide) rfl (fun ls hl => ?_)
    have L12 : ∀ (f : Nat) (x3 : Int32) (x4 : Int32) (qL : (Int32 × Int32)) (h : Rf_counts_L18 a1 a2 M f x3 x4 = some qL) (H : Heap) (locs : List Loc) (ls : Array Slot) (hP : va_P G.1 vwCl (wld G (Mc, M, Mo)) H) (hS : va_S (hyA G) s.heap H locs) (hl : lv_has ls 6 [(0, .ref (adr G 30)), (1, .int a1), (2, .int a2), (3, .int x3), (4, .int x4)]) (kk : ∀ (y3 : Int32) (y4 : Int32), qL = (y3, y4) → ∀ (H : Heap) (locs : List Loc) (ls : Array Slot), va_P G.1 vwCl (wld G (Mc, M, Mo)) H → va_S (hyA G) s.heap H locs → lv_has ls 6 [(0, .ref (adr G 30)), (1, .int a1), (2, .int a2), (3, .int y3), (4, .int y4)] → W p l e { frames := 1, cells := 0, slots := 6 * 0, locals := 22 } s m ([.ref (adr G 30), .int a1, .int a2] : List Value).toArray below meth c H locs 0 0 (vx_MQ below (hyQ G (.inr (some (.int res)), (Mc, M, Mo))) (hyXQ G (.inr (some (.int res)), (Mc, M, Mo))) ([.ref (adr G 30), .int a1, .int a2] : List Value).toArray s 0 (6 * 0) (hyA G)) (F0 m 70 ls [])), W p l e { frames := 1, cells := 0, slots := 6 * 0, locals := 22 } s m ([.ref (adr G 30), .int a1, .int a2] : List Value).toArray below meth c H locs 0 0 (vx_MQ below (hyQ G (.inr (some (.int res)), (Mc, M, Mo))) (hyXQ G (.inr (some (.int res)), (Mc, M, Mo))) ([.ref (adr G 30), .int a1, .int a2] : List Value).toArray s 0 (6 * 0) (hyA G)) (F0 m 18 ls []) := by
      intro f
      induction f with
      | zero =>
        intro x3 x4 qL h H locs ls hP hS hl kk
        rw [Rf_counts_L18] at h
        cases h
      | succ f ih =>
        intro x3 x4 qL h H locs ls hP hS hl kk
        rw [Rf_counts_L18] at h
        refine lv_iload hx hb dX11_counts_18 (lv_at hl 4 rfl) ?_
        refine lv_aload_n hx hb dX11_counts_20 rfl (lv_at hl 0 rfl) ?_
        refine hy_get (T := (Mc, M, Mo)) (o := 30) (k := 14) (v := .ref (adr G 38)) hx hb hown hts hX hP (by decide) rfl rfl inX11g (by decide) q_1206 rfl dX11_counts_21 ?_
        refine lv_iload_n hx hb dX11_counts_24 rfl (lv_at hl 1 rfl) ?_
        obtain ⟨v5, hv5, h⟩ := hy_bind h
        obtain ⟨nv5, hv5⟩ := ldE_some hv5
        refine hy_iald (T := (Mc, M, Mo)) hx hb hX hP 38 96 (M.1 38) (by decide) rfl nv5 dX11_counts_25 ?_
        rw [hv5]
        refine lv_icmp_ge (tgt := 70) hx hb dX11_counts_26 (by decide) (fun c6 => ?_) (fun c6 => ?_)
        · rw [if_pos c6] at h
          exact kk x3 x4 (Option.some.inj h).symm _ _ ls hP hS (lv_sub hl [0, 1, 2, 3, 4] rfl)
        · rw [if_neg c6] at h
          refine lv_aload_n hx hb dX11_counts_29 rfl (lv_at hl 0 rfl) ?_
          refine lv_iload_n hx hb dX11_counts_30 rfl (lv_at hl 1 rfl) ?_
          refine lv_iload hx hb dX11_counts_31 (lv_at hl 4 rfl) ?_
          obtain ⟨v7, hv7, h⟩ := hy_bind h
          refine hy_ret (hy_rV0 (T := (Mc, M, Mo)) (v := some (.int v7)) (T2 := (Mc, M, Mo)) (As := [.int a1, .int x4]) (rest := []) (n := 0) hx hb hml hown hts hX hP hS hl (c_Rf_sign Mc Mo a1 x4 M hv7) m_Rf_sign q_1404 (hy_recv hX hP 30 10 (by decide) rfl rfl) rfl rfl (Nat.le_of_ble_eq_true rfl) dX11_counts_33 ⟨Nat.le_of_ble_eq_true rfl, Nat.le_of_ble_eq_true rfl⟩ ⟨Nat.zero_le _, Nat.zero_le _⟩) hS (fun H locs hP hS => ?_)
          refine lv_istore (lv' := [(5, .int v7), (0, .ref (adr G 30)), (1, .int a1), (2, .int a2), (3, .int x3), (4, .int x4)]) hx hb dX11_counts_36 hl (by decide) rfl (fun ls hl => ?_)
          refine lv_iload_n hx hb dX11_counts_38 rfl (lv_at hl 4 rfl) ?_
          refine lv_iload hx hb dX11_counts_39 (lv_at hl 0 rfl) ?_
          refine lv_bipush (v := 32) hx hb dX11_counts_41 rfl ?_
          have J11 : ∀ (H : Heap) (locs : List Loc) (ls : Array Slot) (u1 : Int32), u1 = (bI (if v7 = 32 then true else (if v7 = 45 then (decide (a2 = 0)) else false))) → va_P G.1 vwCl (wld G (Mc, M, Mo)) H → va_S (hyA G) s.heap H locs → lv_has ls 6 [(0, .ref (adr G 30)), (1, .int a1), (2, .int a2), (3, .int x3), (4, .int x4), (5, .int v7)] → W p l e { frames := 1, cells := 0, slots := 6 * 0, locals := 22 } s m ([.ref (adr G 30), .int a1, .int a2] : List Value).toArray below meth c H locs 0 0 (vx_MQ below (hyQ G (.inr (some (.int res)), (Mc, M, Mo))) (hyXQ G (.inr (some (.int res)), (Mc, M, Mo))) ([.ref (adr G 30), .int a1, .int a2] : List Value).toArray s 0 (6 * 0) (hyA G)) (F0 m 62 ls [.int u1, .int x3]) := by
            intro H locs ls u1 eu1 hP hS hl
            subst eu1
            refine lv_iadd hx hb dX11_counts_62 ?_
            refine lv_istore_n (lv' := [(3, .int (x3 + (bI (if v7 = 32 then true else (if v7 = 45 then (decide (a2 = 0)) else false))))), (0, .ref (adr G 30)), (1, .int a1), (2, .int a2), (4, .int x4), (5, .int v7)]) hx hb dX11_counts_63 rfl hl (by decide) rfl (fun ls hl => ?_)
            refine lv_iinc (v := (x4 + 1)) (lv' := [(4, .int (x4 + 1)), (3, .int (x3 + (bI (if v7 = 32 then true else (if v7 = 45 then (decide (a2 = 0)) else false))))), (0, .ref (adr G 30)), (1, .int a1), (2, .int a2), (5, .int v7)]) hx hb dX11_counts_64 hl (k := 4) rfl rfl (by decide) rfl (fun ls hl => ?_)
            refine lv_goto (tgt := 18) hx hb dX11_counts_67 (by decide) ?_
            exact ih (x3 + (bI (if v7 = 32 then true else (if v7 = 45 then (decide (a2 = 0)) else false)))) (x4 + 1) _ h  _ _ ls hP hS (lv_sub hl [2, 3, 4, 1, 0] rfl) kk
          refine lv_icmp_eq (tgt := 57) hx hb dX11_counts_43 (by decide) (fun c8 => ?_) (fun c8 => ?_)
          · refine lv_iconst (v := 1) hx hb dX11_counts_57 rfl ?_
            refine lv_goto (tgt := 62) hx hb dX11_counts_58 (by decide) ?_
            exact J11 _ _ ls 1 (by rw [if_pos c8] <;> rfl) hP hS (lv_sub hl [1, 2, 3, 4, 5, 0] rfl)
          · refine lv_iload hx hb dX11_counts_46 (lv_at hl 0 rfl) ?_
            refine lv_bipush (v := 45) hx hb dX11_counts_48 rfl ?_
            refine lv_icmp_ne (tgt := 61) hx hb dX11_counts_50 (by decide) (fun c9 => ?_) (fun c9 => ?_)
            · refine lv_iconst (v := 0) hx hb dX11_counts_61 rfl ?_
              exact J11 _ _ ls 0 (by rw [if_neg c8, if_neg c9] <;> rfl) hP hS (lv_sub hl [1, 2, 3, 4, 5, 0] rfl)
            · refine lv_iload_n hx hb dX11_counts_53 rfl (lv_at hl 3 rfl) ?_
              refine lv_if_ne (tgt := 61) hx hb dX11_counts_54 (by decide) (fun c10 => ?_) (fun c10 => ?_)
              · refine lv_iconst (v := 0) hx hb dX11_counts_61 rfl ?_
                exact J11 _ _ ls 0 (by rw [if_neg c8, if_pos c9, decide_eq_false c10] <;> rfl) hP hS (lv_sub hl [1, 2, 3, 4, 5, 0] rfl)
              · refine lv_iconst (v := 1) hx hb dX11_counts_57 rfl ?_
                refine lv_goto (tgt := 62) hx hb dX11_counts_58 (by decide) ?_
                exact J11 _ _ ls 1 (by rw [if_neg c8, if_pos c9, decide_eq_true c10] <;> rfl) hP hS (lv_sub hl [1, 2, 3, 4, 5, 0] rfl)
    obtain ⟨q13, hq13, h⟩ := hy_bind h
    refine L12 hyFu (bI (!decide (v1 ≤ 0))) 0 q13 hq13 _ _ ls hP hS (lv_sub hl [2, 3, 4, 1, 0] rfl) ?_
    intro y3 y4 e9 H locs ls hP hS hl
    subst e9
    try dsimp only at h
    refine lv_iload_n hx hb dX11_counts_70 rfl (lv_at hl 3 rfl) ?_
    exact hy_iret (T := (Mc, M, Mo)) hx hb hr hlocks hP hS (Nat.zero_le _) (Nat.zero_le _) (by rw [← (Option.some.inj h)] <;> rfl) dX11_counts_71
  refine lv_if_le (tgt := 13) hx hb dX11_counts_6 (by decide) (fun c2 => ?_) (fun c2 => ?_)
  · refine lv_iconst (v := 0) hx hb dX11_counts_13 rfl ?_
    exact J14 _ _ ls 0 (by rw [decide_eq_true c2] <;> rfl) hP hS (lv_sub hl [0, 1, 2] rfl)
  · refine lv_iconst (v := 1) hx hb dX11_counts_9 rfl ?_
    refine lv_goto (tgt := 14) hx hb dX11_counts_10 (by decide) ?_
    exact J14 _ _ ls 1 (by rw [decide_eq_false c2] <;> rfl) hP hS (lv_sub hl [0, 1, 2] rfl)
set_option maxHeartbeats 1000000 in
set_option maxRecDepth 100000 in
theorem c_Rf_beginOf {l : Launch} {G : hyG} (Mc Mo : hyM) (a1 : Int32) (a2 : Int32) (M : hyM) {res : Int32} (h : Rf_beginOf a1 a2 M = some res) : hyC l yX11_beginOf (.code yX11_beginOf cX11_beginOf 5 (some .int)) 2 42 (0) G [.ref (adr G 30), .int a1, .int a2] (Mc, M, Mo) (.inr (some (.int res)), (Mc, M, Mo)) := by
  refine hy_of (by decide +kernel) (Nat.le_of_ble_eq_true rfl) ?_
  intro p e s m below meth c hx hb hml hown hts hr hlocks ht hX hP hS ls hl
  have hl : lv_has ls 5 [(0, .ref (adr G 30)), (1, .int a1), (2, .int a2)] := hl
  rw [Rf_beginOf] at h
  refine lv_iconst (v := 0) hx hb dX11_beginOf_0 rfl ?_
  refine lv_istore_n (lv' := [(3, .int 0), (0, .ref (adr G 30)), (1, .int a1), (2, .int a2)]) hx hb dX11_beginOf_1 rfl hl (by decide) rfl (fun ls hl => ?_)
  refine lv_iload_n hx hb dX11_beginOf_2 rfl (lv_at hl 3 rfl) ?_
  refine lv_istore (lv' := [(4, .int a2), (3, .int 0), (0, .ref (adr G 30)), (1, .int a1), (2, .int a2)]) hx hb dX11_beginOf_3 hl (by decide) rfl (fun ls hl => ?_)
  have L7 : ∀ (f : Nat) (x1 : Int32) (x2 : Int32) (qL : (Int32 × Int32)) (h : Rf_beginOf_L5 a1 M f x1 x2 = some qL) (H : Heap) (locs : List Loc) (ls : Array Slot) (hP : va_P G.1 vwCl (wld G (Mc, M, Mo)) H) (hS : va_S (hyA G) s.heap H locs) (hl : lv_has ls 5 [(0, .ref (adr G 30)), (1, .int a1), (2, .int a2), (3, .int x1), (4, .int x2)]) (kk : ∀ (y1 : Int32) (y2 : Int32), qL = (y1, y2) → ∀ (H : Heap) (locs : List Loc) (ls : Array Slot), va_P G.1 vwCl (wld G (Mc, M, Mo)) H → va_S (hyA G) s.heap H locs → lv_has ls 5 [(0, .ref (adr G 30)), (1, .int a1), (2, .int a2), (3, .int y1), (4, .int y2)] → W p l e { frames := 2, cells := 0, slots := 6 * 0, locals := 42 } s m ([.ref (adr G 30), .int a1, .int a2] : List Value).toArray below meth c H locs 0 0 (vx_MQ below (hyQ G (.inr (some (.int res)), (Mc, M, Mo))) (hyXQ G (.inr (some (.int res)), (Mc, M, Mo))) ([.ref (adr G 30), .int a1, .int a2] : List Value).toArray s 0 (6 * 0) (hyA G)) (F0 m 38 ls [])), W p l e { frames := 2, cells := 0, slots := 6 * 0, locals := 42 } s m ([.ref (adr G 30), .int a1, .int a2] : List Value).toArray below meth c H locs 0 0 (vx_MQ below (hyQ G (.inr (some (.int res)), (Mc, M, Mo))) (hyXQ G (.inr (some (.int res)), (Mc, M, Mo))) ([.ref (adr G 30), .int a1, .int a2] : List Value).toArray s 0 (6 * 0) (hyA G)) (F0 m 5 ls []) := by
    intro f
    induction f with
    | zero =>
      intro x1 x2 qL h H locs ls hP hS hl kk
      rw [Rf_beginOf_L5] at h
      cases h
    | succ f ih =>
      intro x1 x2 qL h H locs ls hP hS hl kk
      rw [Rf_beginOf_L5] at h
      refine lv_iload hx hb dX11_beginOf_5 (lv_at hl 4 rfl) ?_
      refine lv_if_le (tgt := 38) hx hb dX11_beginOf_7 (by decide) (fun c3 => ?_) (fun c3 => ?_)
      · rw [if_pos c3] at h
        exact kk x1 x2 (Option.some.inj h).symm _ _ ls hP hS (lv_sub hl [0, 1, 2, 3, 4] rfl)
      · rw [if_neg c3] at h
        refine lv_iload hx hb dX11_beginOf_10 (lv_at hl 4 rfl) ?_
        refine lv_aload_n hx hb dX11_beginOf_12 rfl (lv_at hl 0 rfl) ?_
        refine lv_iload_n hx hb dX11_beginOf_13 rfl (lv_at hl 1 rfl) ?_
        refine lv_iload_n hx hb dX11_beginOf_14 rfl (lv_at hl 3 rfl) ?_
        obtain ⟨v4, hv4, h⟩ := hy_bind h
        refine hy_ret (hy_rV0 (T := (Mc, M, Mo)) (v := some (.int v4)) (T2 := (Mc, M, Mo)) (As := [.int a1, .int x1]) (rest := [.int x2]) (n := 0) hx hb hml hown hts hX hP hS hl (c_Rf_sign Mc Mo a1 x1 M hv4) m_Rf_sign q_1404 (hy_recv hX hP 30 10 (by decide) rfl rfl) rfl rfl (Nat.le_of_ble_eq_true rfl) dX11_beginOf_15 ⟨Nat.le_of_ble_eq_true rfl, Nat.le_of_ble_eq_true rfl⟩ ⟨Nat.zero_le _, Nat.zero_le _⟩) hS (fun H locs hP hS => ?_)
        refine hy_ret (hy_rS0 (T := (Mc, M, Mo)) (v := some (.int (bI (Rf_isLetter v4 M)))) (T2 := (Mc, M, Mo)) (As := [.int v4]) (rest := [.int x2]) (n := 0) hx hb hml hown hts hX hP hS hl (c_Rf_isLetter Mc Mo v4 M rfl) m_Rf_isLetter q_1416 rfl rfl (Nat.le_of_ble_eq_true rfl) dX11_beginOf_18 ⟨Nat.le_of_ble_eq_true rfl, Nat.le_of_ble_eq_true rfl⟩ ⟨Nat.zero_le _, Nat.zero_le _⟩) hS (fun H locs hP hS => ?_)
        have J6 : ∀ (H : Heap) (locs : List Loc) (ls : Array Slot) (u1 : Int32), u1 = (bI (!(Rf_isLetter v4 M))) → va_P G.1 vwCl (wld G (Mc, M, Mo)) H → va_S (hyA G) s.heap H locs → lv_has ls 5 [(0, .ref (adr G 30)), (1, .int a1), (2, .int a2), (3, .int x1), (4, .int x2)] → W p l e { frames := 2, cells := 0, slots := 6 * 0, locals := 42 } s m ([.ref (adr G 30), .int a1, .int a2] : List Value).toArray below meth c H locs 0 0 (vx_MQ below (hyQ G (.inr (some (.int res)), (Mc, M, Mo))) (hyXQ G (.inr (some (.int res)), (Mc, M, Mo))) ([.ref (adr G 30), .int a1, .int a2] : List Value).toArray s 0 (6 * 0) (hyA G)) (F0 m 29 ls [.int u1, .int x2]) := by
          intro H locs ls u1 eu1 hP hS hl
          subst eu1
          refine lv_isub hx hb dX11_beginOf_29 ?_
          refine lv_istore (lv' := [(4, .int (x2 - (bI (!(Rf_isLetter v4 M))))), (0, .ref (adr G 30)), (1, .int a1), (2, .int a2), (3, .int x1)]) hx hb dX11_beginOf_30 hl (by decide) rfl (fun ls hl => ?_)
          refine lv_iinc (v := (x1 + 1)) (lv' := [(3, .int (x1 + 1)), (4, .int (x2 - (bI (!(Rf_isLetter v4 M))))), (0, .ref (adr G 30)), (1, .int a1), (2, .int a2)]) hx hb dX11_beginOf_32 hl (k := 4) rfl rfl (by decide) rfl (fun ls hl => ?_)
          refine lv_goto (tgt := 5) hx hb dX11_beginOf_35 (by decide) ?_
          exact ih (x1 + 1) (x2 - (bI (!(Rf_isLetter v4 M)))) _ h  _ _ ls hP hS (lv_sub hl [2, 3, 4, 0, 1] rfl) kk
        refine lv_if_eq (tgt := 28) hx hb dX11_beginOf_21 (by decide) (fun c5 => ?_) (fun c5 => ?_)
        · refine lv_iconst (v := 1) hx hb dX11_beginOf_28 rfl ?_
          exact J6 _ _ ls 1 (by rw [(bI_z c5)] <;> rfl) hP hS (lv_sub hl [0, 1, 2, 3, 4] rfl)
        · refine lv_iconst (v := 0) hx hb dX11_beginOf_24 rfl ?_
          refine lv_goto (tgt := 29) hx hb dX11_beginOf_25 (by decide) ?_
          exact J6 _ _ ls 0 (by rw [(bI_1 c5)] <;> rfl) hP hS (lv_sub hl [0, 1, 2, 3, 4] rfl)
  obtain ⟨q8, hq8, h⟩ := hy_bind h
  refine L7 hyFu 0 a2 q8 hq8 _ _ ls hP hS (lv_sub hl [2, 3, 4, 1, 0] rfl) ?_
  intro y1 y2 e9 H locs ls hP hS hl
  subst e9
  try dsimp only at h
  refine lv_iload_n hx hb dX11_beginOf_38 rfl (lv_at hl 3 rfl) ?_
  exact hy_iret (T := (Mc, M, Mo)) hx hb hr hlocks hP hS (Nat.zero_le _) (Nat.zero_le _) (by rw [← (Option.some.inj h)] <;> rfl) dX11_beginOf_39
set_option maxHeartbeats 1000000 in
set_option maxRecDepth 100000 in
theorem c_Rf_sizeOf {l : Launch} {G : hyG} (Mc Mo : hyM) (a1 : Int32) (a2 : Int32) (M : hyM) {res : Int32} (h : Rf_sizeOf a1 a2 M = some res) : hyC l yX11_sizeOf (.code yX11_sizeOf cX11_sizeOf 5 (some .int)) 3 66 (0) G [.ref (adr G 30), .int a1, .int a2] (Mc, M, Mo) (.inr (some (.int res)), (Mc, M, Mo)) := by
  refine hy_of (by decide +kernel) (Nat.le_of_ble_eq_true rfl) ?_
  intro p e s m below meth c hx hb hml hown hts hr hlocks ht hX hP hS ls hl
  have hl : lv_has ls 5 [(0, .ref (adr G 30)), (1, .int a1), (2, .int a2)] := hl
  rw [Rf_sizeOf] at h
  refine lv_aload_n hx hb dX11_sizeOf_0 rfl (lv_at hl 0 rfl) ?_
  refine lv_iload_n hx hb dX11_sizeOf_1 rfl (lv_at hl 1 rfl) ?_
  refine lv_iload_n hx hb dX11_sizeOf_2 rfl (lv_at hl 2 rfl) ?_
  obtain ⟨v1, hv1, h⟩ := hy_bind h
  refine hy_ret (hy_rV0 (T := (Mc, M, Mo)) (v := some (.int v1)) (T2 := (Mc, M, Mo)) (As := [.int a1, .int a2]) (rest := []) (n := 0) hx hb hml hown hts hX hP hS hl (c_Rf_beginOf Mc Mo a1 a2 M hv1) m_Rf_beginOf q_1412 (hy_recv hX hP 30 10 (by decide) rfl rfl) rfl rfl (Nat.le_of_ble_eq_true rfl) dX11_sizeOf_3 ⟨Nat.le_of_ble_eq_true rfl, Nat.le_of_ble_eq_true rfl⟩ ⟨Nat.zero_le _, Nat.zero_le _⟩) hS (fun H locs hP hS => ?_)
  refine lv_istore_n (lv' := [(3, .int v1), (0, .ref (adr G 30)), (1, .int a1), (2, .int a2)]) hx hb dX11_sizeOf_6 rfl hl (by decide) rfl (fun ls hl => ?_)
  refine lv_iload_n hx hb dX11_sizeOf_7 rfl (lv_at hl 0 rfl) ?_
  refine lv_istore (lv' := [(4, .int v1), (3, .int v1), (0, .ref (adr G 30)), (1, .int a1), (2, .int a2)]) hx hb dX11_sizeOf_8 hl (by decide) rfl (fun ls hl => ?_)
  have L7 : ∀ (f : Nat) (x2 : Int32) (qL : (Int32)) (h : Rf_sizeOf_L10 a1 M f x2 = some qL) (H : Heap) (locs : List Loc) (ls : Array Slot) (hP : va_P G.1 vwCl (wld G (Mc, M, Mo)) H) (hS : va_S (hyA G) s.heap H locs) (hl : lv_has ls 5 [(0, .ref (adr G 30)), (1, .int a1), (2, .int a2), (3, .int v1), (4, .int x2)]) (kk : ∀ (y2 : Int32), qL = (y2) → ∀ (H : Heap) (locs : List Loc) (ls : Array Slot), va_P G.1 vwCl (wld G (Mc, M, Mo)) H → va_S (hyA G) s.heap H locs → lv_has ls 5 [(0, .ref (adr G 30)), (1, .int a1), (2, .int a2), (3, .int v1), (4, .int y2)] → W p l e { frames := 3, cells := 0, slots := 6 * 0, locals := 66 } s m ([.ref (adr G 30), .int a1, .int a2] : List Value).toArray below meth c H locs 0 0 (vx_MQ below (hyQ G (.inr (some (.int res)), (Mc, M, Mo))) (hyXQ G (.inr (some (.int res)), (Mc, M, Mo))) ([.ref (adr G 30), .int a1, .int a2] : List Value).toArray s 0 (6 * 0) (hyA G)) (F0 m 40 ls [])), W p l e { frames := 3, cells := 0, slots := 6 * 0, locals := 66 } s m ([.ref (adr G 30), .int a1, .int a2] : List Value).toArray below meth c H locs 0 0 (vx_MQ below (hyQ G (.inr (some (.int res)), (Mc, M, Mo))) (hyXQ G (.inr (some (.int res)), (Mc, M, Mo))) ([.ref (adr G 30), .int a1, .int a2] : List Value).toArray s 0 (6 * 0) (hyA G)) (F0 m 10 ls []) := by
    intro f
    induction f with
    | zero =>
      intro x2 qL h H locs ls hP hS hl kk
      rw [Rf_sizeOf_L10] at h
      cases h
    | succ f ih =>
      intro x2 qL h H locs ls hP hS hl kk
      rw [Rf_sizeOf_L10] at h
      refine lv_iload hx hb dX11_sizeOf_10 (lv_at hl 4 rfl) ?_
      refine lv_aload_n hx hb dX11_sizeOf_12 rfl (lv_at hl 0 rfl) ?_
      refine hy_get (T := (Mc, M, Mo)) (o := 30) (k := 14) (v := .ref (adr G 38)) hx hb hown hts hX hP (by decide) rfl rfl inX11g (by decide) q_1206 rfl dX11_sizeOf_13 ?_
      refine lv_iload_n hx hb dX11_sizeOf_16 rfl (lv_at hl 1 rfl) ?_
      obtain ⟨v3, hv3, h⟩ := hy_bind h
      obtain ⟨nv3, hv3⟩ := ldE_some hv3
      refine hy_iald (T := (Mc, M, Mo)) hx hb hX hP 38 96 (M.1 38) (by decide) rfl nv3 dX11_sizeOf_17 ?_
      rw [hv3]
      refine lv_icmp_ge (tgt := 40) hx hb dX11_sizeOf_18 (by decide) (fun c4 => ?_) (fun c4 => ?_)
      · rw [if_pos c4] at h
        exact kk x2 (Option.some.inj h).symm _ _ ls hP hS (lv_sub hl [0, 1, 2, 3, 4] rfl)
      · rw [if_neg c4] at h
        refine lv_aload_n hx hb dX11_sizeOf_21 rfl (lv_at hl 0 rfl) ?_
        refine lv_iload_n hx hb dX11_sizeOf_22 rfl (lv_at hl 1 rfl) ?_
        refine lv_iload hx hb dX11_sizeOf_23 (lv_at hl 4 rfl) ?_
        obtain ⟨v5, hv5, h⟩ := hy_bind h
        refine hy_ret (hy_rV0 (T := (Mc, M, Mo)) (v := some (.int v5)) (T2 := (Mc, M, Mo)) (As := [.int a1, .int x2]) (rest := []) (n := 0) hx hb hml hown hts hX hP hS hl (c_Rf_sign Mc Mo a1 x2 M hv5) m_Rf_sign q_1404 (hy_recv hX hP 30 10 (by decide) rfl rfl) rfl rfl (Nat.le_of_ble_eq_true rfl) dX11_sizeOf_25 ⟨Nat.le_of_ble_eq_true rfl, Nat.le_of_ble_eq_true rfl⟩ ⟨Nat.zero_le _, Nat.zero_le _⟩) hS (fun H locs hP hS => ?_)
        refine hy_ret (hy_rS0 (T := (Mc, M, Mo)) (v := some (.int (bI (Rf_isLetter v5 M)))) (T2 := (Mc, M, Mo)) (As := [.int v5]) (rest := []) (n := 0) hx hb hml hown hts hX hP hS hl (c_Rf_isLetter Mc Mo v5 M rfl) m_Rf_isLetter q_1416 rfl rfl (Nat.le_of_ble_eq_true rfl) dX11_sizeOf_28 ⟨Nat.le_of_ble_eq_true rfl, Nat.le_of_ble_eq_true rfl⟩ ⟨Nat.zero_le _, Nat.zero_le _⟩) hS (fun H locs hP hS => ?_)
        refine lv_if_eq (tgt := 40) hx hb dX11_sizeOf_31 (by decide) (fun c6 => ?_) (fun c6 => ?_)
        · rw [if_neg (bI_0 c6)] at h
          exact kk x2 (Option.some.inj h).symm _ _ ls hP hS (lv_sub hl [0, 1, 2, 3, 4] rfl)
        · rw [if_pos (bI_1 c6)] at h
          refine lv_iinc (v := (x2 + 1)) (lv' := [(4, .int (x2 + 1)), (0, .ref (adr G 30)), (1, .int a1), (2, .int a2), (3, .int v1)]) hx hb dX11_sizeOf_34 hl (k := 4) rfl rfl (by decide) rfl (fun ls hl => ?_)
          refine lv_goto (tgt := 10) hx hb dX11_sizeOf_37 (by decide) ?_
          exact ih (x2 + 1) _ h  _ _ ls hP hS (lv_sub hl [1, 2, 3, 4, 0] rfl) kk
  obtain ⟨q8, hq8, h⟩ := hy_bind h
  refine L7 hyFu v1 q8 hq8 _ _ ls hP hS (lv_sub hl [2, 3, 4, 1, 0] rfl) ?_
  intro y2 e9 H locs ls hP hS hl
  subst e9
  try dsimp only at h
  refine lv_iload hx hb dX11_sizeOf_40 (lv_at hl 4 rfl) ?_
  refine lv_iload_n hx hb dX11_sizeOf_42 rfl (lv_at hl 3 rfl) ?_
  refine lv_isub hx hb dX11_sizeOf_43 ?_
  exact hy_iret (T := (Mc, M, Mo)) hx hb hr hlocks hP hS (Nat.zero_le _) (Nat.zero_le _) (by rw [← (Option.some.inj h)] <;> rfl) dX11_sizeOf_44
