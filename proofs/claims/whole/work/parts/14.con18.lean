set_option maxHeartbeats 1000000 in
set_option maxRecDepth 100000 in
theorem c_Jd_doubleToLongBits {l : Launch} {G : hyG} (Mc Mo : hyM) (a1 : UInt64) (M : hyM) {res : Int64} (h : Jd_doubleToLongBits a1 M = res) : hyC l yJxe99ae_doubleToLongBits_ccdee (.code yJxe99ae_doubleToLongBits_ccdee cJxe99ae_doubleToLongBits_ccdee 2 (some .long)) 1 30 (0) G [.double a1] (Mc, M, Mo) (.inr (some (.long res)), (Mc, M, Mo)) := by
  refine hy_of (by decide +kernel) (Nat.le_of_ble_eq_true rfl) ?_
  intro p e s m below meth c hx hb hml hown hts hr hlocks ht hX hP hS ls hl
  have hl : lv_has ls 2 [(0, .double a1)] := hl
  rw [Jd_doubleToLongBits] at h
  refine lv_dload_n hx hb dJxe99ae_doubleToLongBits_ccdee_0 rfl (lv_at hl 0 rfl) ?_
  refine hy_ret (hy_rS0 (T := (Mc, M, Mo)) (v := some (.int (bI (Jd_isNaN a1 M)))) (T2 := (Mc, M, Mo)) (As := [.double a1]) (rest := []) (n := 0) hx hb hml hown hts hX hP hS hl (c_Jd_isNaN Mc Mo a1 M rfl) m_Jd_isNaN q_1666 rfl rfl (Nat.le_of_ble_eq_true rfl) dJxe99ae_doubleToLongBits_ccdee_1 ⟨Nat.le_of_ble_eq_true rfl, Nat.le_of_ble_eq_true rfl⟩ ⟨Nat.zero_le _, Nat.zero_le _⟩) hS (fun H locs hP hS => ?_)
  refine lv_if_ne (tgt := 12) hx hb dJxe99ae_doubleToLongBits_ccdee_4 (by decide) (fun c1 => ?_) (fun c1 => ?_)
  · rw [if_pos (bI_1 c1)] at h
    refine lv_ldc2 (v := 9221120237041090560) hx hb hown (hts _ q_1672) dJxe99ae_doubleToLongBits_ccdee_12 ?_
    exact hy_lret (T := (Mc, M, Mo)) hx hb hr hlocks hP hS (Nat.zero_le _) (Nat.zero_le _) (by rw [← h] <;> rfl) dJxe99ae_doubleToLongBits_ccdee_15
  · rw [if_neg (bI_0 c1)] at h
    refine lv_dload_n hx hb dJxe99ae_doubleToLongBits_ccdee_7 rfl (lv_at hl 0 rfl) ?_
    refine vn_d2l hx hb (hml.trans hl.1.symm) hown (hts _ q_1669) (hts _ q_1671) (hts _ q_1670) (hts _ q_162) (Nat.le_of_ble_eq_true rfl) (Nat.le_of_ble_eq_true rfl) dJxe99ae_doubleToLongBits_ccdee_8 ?_
    exact hy_lret (T := (Mc, M, Mo)) hx hb hr hlocks hP hS (Nat.zero_le _) (Nat.zero_le _) (by rw [← h] <;> rfl) dJxe99ae_doubleToLongBits_ccdee_11
set_option maxHeartbeats 1000000 in
set_option maxRecDepth 100000 in
theorem c_Rf_digest {l : Launch} {G : hyG} (Mc Mo : hyM) (M : hyM) {res : (Int64 × hyM)} (h : Rf_digest M = some res) : hyC l yX11_digest (.code yX11_digest cX11_digest 3 (some .long)) 8 179 (0) G [.ref (adr G 30)] (Mc, M, Mo) (.inr (some (.long res.1)), (Mc, res.2, Mo)) := by
  refine hy_of (by decide +kernel) (Nat.le_of_ble_eq_true rfl) ?_
  intro p e s m below meth c hx hb hml hown hts hr hlocks ht hX hP hS ls hl
  have hl : lv_has ls 3 [(0, .ref (adr G 30))] := hl
  rw [Rf_digest] at h
  refine lv_aload_n hx hb dX11_digest_0 rfl (lv_at hl 0 rfl) ?_
  refine lv_iconst (v := 0) hx hb dX11_digest_1 rfl ?_
  refine hy_putI (ty := .int) (T := (Mc, M, Mo)) (T2 := (Mc, (wI M 30 0 0), Mo)) (o := 30) (k := 0) hx hb hown hts hX hP hS (by decide) rfl rfl rfl rfl inX11g tyX11_ok nmX11 (by decide) q_1192 rfl rfl rfl rfl (Nat.le_of_ble_eq_true rfl) dX11_digest_2 (fun H locs hP hS => ?_)
  obtain ⟨M1, hM1, h⟩ := hy_bind h
  rw [Option.some.inj hM1] at hP
  refine lv_aload_n hx hb dX11_digest_5 rfl (lv_at hl 0 rfl) ?_
  refine lv_ldc2 (v := 2063) hx hb hown (hts _ q_1649) dX11_digest_6 ?_
  refine hy_putL (T := (Mc, M1, Mo)) (T2 := (Mc, (wL M1 30 35 2063), Mo)) (o := 30) (k := 35) hx hb hown hts hX hP hS (by decide) rfl rfl rfl rfl inX11g tyX11_ok nmX11 (by decide) q_1227 rfl rfl (Nat.le_of_ble_eq_true rfl) dX11_digest_9 (fun H locs hP hS => ?_)
  obtain ⟨M2, hM2, h⟩ := hy_bind h
  rw [Option.some.inj hM2] at hP
  refine lv_aload_n hx hb dX11_digest_12 rfl (lv_at hl 0 rfl) ?_
  obtain ⟨M3, hM3, h⟩ := hy_bind h
  refine hy_ret (hy_rV0 (T := (Mc, M2, Mo)) (v := none) (T2 := (Mc, M3, Mo)) (As := []) (rest := []) (n := 0) hx hb hml hown hts hX hP hS hl (c_Rf_lay Mc Mo M2 hM3) m_Rf_lay q_1384 (hy_recv hX hP 30 10 (by decide) rfl rfl) rfl rfl (Nat.le_of_ble_eq_true rfl) dX11_digest_13 ⟨Nat.le_of_ble_eq_true rfl, Nat.le_of_ble_eq_true rfl⟩ ⟨Nat.zero_le _, Nat.zero_le _⟩) hS (fun H locs hP hS => ?_)
  refine lv_iconst (v := 0) hx hb dX11_digest_16 rfl ?_
  refine lv_istore_n (lv' := [(1, .int 0), (0, .ref (adr G 30))]) hx hb dX11_digest_17 rfl hl (by decide) rfl (fun ls hl => ?_)
  have L9 : ∀ (f : Nat) (x4 : Int32) (M5 : hyM) (qL : (Int32 × hyM)) (h : Rf_digest_L18  f x4 M5 = some qL) (H : Heap) (locs : List Loc) (ls : Array Slot) (hP : va_P G.1 vwCl (wld G (Mc, M5, Mo)) H) (hS : va_S (hyA G) s.heap H locs) (hl : lv_has ls 3 [(0, .ref (adr G 30)), (1, .int x4)]) (kk : ∀ (y4 : Int32) (NM5 : hyM), qL = (y4, NM5) → ∀ (H : Heap) (locs : List Loc) (ls : Array Slot), va_P G.1 vwCl (wld G (Mc, NM5, Mo)) H → va_S (hyA G) s.heap H locs → lv_has ls 3 [(0, .ref (adr G 30)), (1, .int y4)] → W p l e { frames := 8, cells := 0, slots := 6 * 0, locals := 179 } s m ([.ref (adr G 30)] : List Value).toArray below meth c H locs 0 0 (vx_MQ below (hyQ G (.inr (some (.long res.1)), (Mc, res.2, Mo))) (hyXQ G (.inr (some (.long res.1)), (Mc, res.2, Mo))) ([.ref (adr G 30)] : List Value).toArray s 0 (6 * 0) (hyA G)) (F0 m 40 ls [])), W p l e { frames := 8, cells := 0, slots := 6 * 0, locals := 179 } s m ([.ref (adr G 30)] : List Value).toArray below meth c H locs 0 0 (vx_MQ below (hyQ G (.inr (some (.long res.1)), (Mc, res.2, Mo))) (hyXQ G (.inr (some (.long res.1)), (Mc, res.2, Mo))) ([.ref (adr G 30)] : List Value).toArray s 0 (6 * 0) (hyA G)) (F0 m 18 ls []) := by
    intro f
    induction f with
    | zero =>
      intro x4 M5 qL h H locs ls hP hS hl kk
      rw [Rf_digest_L18] at h
      cases h
    | succ f ih =>
      intro x4 M5 qL h H locs ls hP hS hl kk
      rw [Rf_digest_L18] at h
      refine lv_iload_n hx hb dX11_digest_18 rfl (lv_at hl 1 rfl) ?_
      refine lv_bipush (v := 14) hx hb dX11_digest_19 rfl ?_
      refine lv_icmp_ge (tgt := 40) hx hb dX11_digest_21 (by decide) (fun c6 => ?_) (fun c6 => ?_)
      · rw [if_pos c6] at h
        exact kk x4 M5 (Option.some.inj h).symm _ _ ls hP hS (lv_sub hl [0, 1] rfl)
      · rw [if_neg c6] at h
        refine lv_aload_n hx hb dX11_digest_24 rfl (lv_at hl 0 rfl) ?_
        refine lv_aload_n hx hb dX11_digest_25 rfl (lv_at hl 0 rfl) ?_
        refine lv_iload_n hx hb dX11_digest_26 rfl (lv_at hl 1 rfl) ?_
        obtain ⟨v7, hv7, h⟩ := hy_bind h
        refine hy_ret (hy_rV0 (T := (Mc, M5, Mo)) (v := some (.int v7)) (T2 := (Mc, M5, Mo)) (As := [.int x4]) (rest := [.ref (adr G 30)]) (n := 0) hx hb hml hown hts hX hP hS hl (c_Rf_counted Mc Mo x4 M5 hv7) m_Rf_counted q_1625 (hy_recv hX hP 30 10 (by decide) rfl rfl) rfl rfl (Nat.le_of_ble_eq_true rfl) dX11_digest_27 ⟨Nat.le_of_ble_eq_true rfl, Nat.le_of_ble_eq_true rfl⟩ ⟨Nat.zero_le _, Nat.zero_le _⟩) hS (fun H locs hP hS => ?_)
        refine lv_i2l (v := v7.toInt64) hx hb dX11_digest_30 rfl ?_
        refine hy_ret (hy_rV0 (T := (Mc, M5, Mo)) (v := none) (T2 := (Mc, (Rf_mix v7.toInt64 M5), Mo)) (As := [.long v7.toInt64]) (rest := []) (n := 0) hx hb hml hown hts hX hP hS hl (c_Rf_mix Mc Mo v7.toInt64 M5 rfl) m_Rf_mix q_1650 (hy_recv hX hP 30 10 (by decide) rfl rfl) rfl rfl (Nat.le_of_ble_eq_true rfl) dX11_digest_31 ⟨Nat.le_of_ble_eq_true rfl, Nat.le_of_ble_eq_true rfl⟩ ⟨Nat.zero_le _, Nat.zero_le _⟩) hS (fun H locs hP hS => ?_)
        obtain ⟨M8, hM8, h⟩ := hy_bind h
        rw [Option.some.inj hM8] at hP
        refine lv_iinc (v := (x4 + 1)) (lv' := [(1, .int (x4 + 1)), (0, .ref (adr G 30))]) hx hb dX11_digest_34 hl (k := 1) rfl rfl (by decide) rfl (fun ls hl => ?_)
        refine lv_goto (tgt := 18) hx hb dX11_digest_37 (by decide) ?_
        exact ih (x4 + 1) M8 _ h  _ _ ls hP hS (lv_sub hl [1, 0] rfl) kk
  obtain ⟨q58, hq58, h⟩ := hy_bind h
  refine L9 hyFu 0 M3 q58 hq58 _ _ ls hP hS (lv_sub hl [1, 0] rfl) ?_
  intro y4 NM5 e9 H locs ls hP hS hl
  subst e9
  try dsimp only at h
  refine lv_iconst (v := 0) hx hb dX11_digest_40 rfl ?_
  refine lv_istore_n (lv' := [(1, .int 0), (0, .ref (adr G 30))]) hx hb dX11_digest_41 rfl hl (by decide) rfl (fun ls hl => ?_)
  have L14 : ∀ (f : Nat) (x10 : Int32) (M11 : hyM) (qL : (Int32 × hyM)) (h : Rf_digest_L42  f x10 M11 = some qL) (H : Heap) (locs : List Loc) (ls : Array Slot) (hP : va_P G.1 vwCl (wld G (Mc, M11, Mo)) H) (hS : va_S (hyA G) s.heap H locs) (hl : lv_has ls 3 [(0, .ref (adr G 30)), (1, .int x10)]) (kk : ∀ (y10 : Int32) (NM11 : hyM), qL = (y10, NM11) → ∀ (H : Heap) (locs : List Loc) (ls : Array Slot), va_P G.1 vwCl (wld G (Mc, NM11, Mo)) H → va_S (hyA G) s.heap H locs → lv_has ls 3 [(0, .ref (adr G 30)), (1, .int y10)] → W p l e { frames := 8, cells := 0, slots := 6 * 0, locals := 179 } s m ([.ref (adr G 30)] : List Value).toArray below meth c H locs 0 0 (vx_MQ below (hyQ G (.inr (some (.long res.1)), (Mc, res.2, Mo))) (hyXQ G (.inr (some (.long res.1)), (Mc, res.2, Mo))) ([.ref (adr G 30)] : List Value).toArray s 0 (6 * 0) (hyA G)) (F0 m 61 ls [])), W p l e { frames := 8, cells := 0, slots := 6 * 0, locals := 179 } s m ([.ref (adr G 30)] : List Value).toArray below meth c H locs 0 0 (vx_MQ below (hyQ G (.inr (some (.long res.1)), (Mc, res.2, Mo))) (hyXQ G (.inr (some (.long res.1)), (Mc, res.2, Mo))) ([.ref (adr G 30)] : List Value).toArray s 0 (6 * 0) (hyA G)) (F0 m 42 ls []) := by
    intro f
    induction f with
    | zero =>
      intro x10 M11 qL h H locs ls hP hS hl kk
      rw [Rf_digest_L42] at h
      cases h
    | succ f ih =>
      intro x10 M11 qL h H locs ls hP hS hl kk
      rw [Rf_digest_L42] at h
      refine lv_iload_n hx hb dX11_digest_42 rfl (lv_at hl 1 rfl) ?_
      refine lv_aload_n hx hb dX11_digest_43 rfl (lv_at hl 0 rfl) ?_
      refine hy_get (T := (Mc, M11, Mo)) (o := 30) (k := 2) (v := .int (M11.1 30 2)) hx hb hown hts hX hP (by decide) rfl rfl inX11g (by decide) q_1194 rfl dX11_digest_44 ?_
      refine lv_icmp_ge (tgt := 61) hx hb dX11_digest_47 (by decide) (fun c12 => ?_) (fun c12 => ?_)
      · rw [if_pos c12] at h
        exact kk x10 M11 (Option.some.inj h).symm _ _ ls hP hS (lv_sub hl [0, 1] rfl)
      · rw [if_neg c12] at h
        refine lv_aload_n hx hb dX11_digest_50 rfl (lv_at hl 0 rfl) ?_
        refine lv_iload_n hx hb dX11_digest_51 rfl (lv_at hl 1 rfl) ?_
        obtain ⟨M13, hM13, h⟩ := hy_bind h
        refine hy_ret (hy_rV0 (T := (Mc, M11, Mo)) (v := none) (T2 := (Mc, M13, Mo)) (As := [.int x10]) (rest := []) (n := 0) hx hb hml hown hts hX hP hS hl (c_Rf_mixNote Mc Mo x10 M11 hM13) m_Rf_mixNote q_1655 (hy_recv hX hP 30 10 (by decide) rfl rfl) rfl rfl (Nat.le_of_ble_eq_true rfl) dX11_digest_52 ⟨Nat.le_of_ble_eq_true rfl, Nat.le_of_ble_eq_true rfl⟩ ⟨Nat.zero_le _, Nat.zero_le _⟩) hS (fun H locs hP hS => ?_)
        refine lv_iinc (v := (x10 + 1)) (lv' := [(1, .int (x10 + 1)), (0, .ref (adr G 30))]) hx hb dX11_digest_55 hl (k := 1) rfl rfl (by decide) rfl (fun ls hl => ?_)
        refine lv_goto (tgt := 42) hx hb dX11_digest_58 (by decide) ?_
        exact ih (x10 + 1) M13 _ h  _ _ ls hP hS (lv_sub hl [1, 0] rfl) kk
  obtain ⟨q57, hq57, h⟩ := hy_bind h
  refine L14 hyFu 0 NM5 q57 hq57 _ _ ls hP hS (lv_sub hl [1, 0] rfl) ?_
  intro y10 NM11 e9 H locs ls hP hS hl
  subst e9
  try dsimp only at h
  refine lv_iconst (v := 0) hx hb dX11_digest_61 rfl ?_
  refine lv_istore_n (lv' := [(1, .int 0), (0, .ref (adr G 30))]) hx hb dX11_digest_62 rfl hl (by decide) rfl (fun ls hl => ?_)
  have L20 : ∀ (f : Nat) (x15 : Int32) (M16 : hyM) (qL : (Int32 × hyM)) (h : Rf_digest_L63  f x15 M16 = some qL) (H : Heap) (locs : List Loc) (ls : Array Slot) (hP : va_P G.1 vwCl (wld G (Mc, M16, Mo)) H) (hS : va_S (hyA G) s.heap H locs) (hl : lv_has ls 3 [(0, .ref (adr G 30)), (1, .int x15)]) (kk : ∀ (y15 : Int32) (NM16 : hyM), qL = (y15, NM16) → ∀ (H : Heap) (locs : List Loc) (ls : Array Slot), va_P G.1 vwCl (wld G (Mc, NM16, Mo)) H → va_S (hyA G) s.heap H locs → lv_has ls 3 [(0, .ref (adr G 30)), (1, .int y15)] → W p l e { frames := 8, cells := 0, slots := 6 * 0, locals := 179 } s m ([.ref (adr G 30)] : List Value).toArray below meth c H locs 0 0 (vx_MQ below (hyQ G (.inr (some (.long res.1)), (Mc, res.2, Mo))) (hyXQ G (.inr (some (.long res.1)), (Mc, res.2, Mo))) ([.ref (adr G 30)] : List Value).toArray s 0 (6 * 0) (hyA G)) (F0 m 97 ls [])), W p l e { frames := 8, cells := 0, slots := 6 * 0, locals := 179 } s m ([.ref (adr G 30)] : List Value).toArray below meth c H locs 0 0 (vx_MQ below (hyQ G (.inr (some (.long res.1)), (Mc, res.2, Mo))) (hyXQ G (.inr (some (.long res.1)), (Mc, res.2, Mo))) ([.ref (adr G 30)] : List Value).toArray s 0 (6 * 0) (hyA G)) (F0 m 63 ls []) := by
    intro f
    induction f with
    | zero =>
      intro x15 M16 qL h H locs ls hP hS hl kk
      rw [Rf_digest_L63] at h
      cases h
    | succ f ih =>
      intro x15 M16 qL h H locs ls hP hS hl kk
      rw [Rf_digest_L63] at h
      refine lv_iload_n hx hb dX11_digest_63 rfl (lv_at hl 1 rfl) ?_
      refine lv_bipush (v := 6) hx hb dX11_digest_64 rfl ?_
      refine lv_aload_n hx hb dX11_digest_66 rfl (lv_at hl 0 rfl) ?_
      refine hy_get (T := (Mc, M16, Mo)) (o := 30) (k := 21) (v := .int (M16.1 30 21)) hx hb hown hts hX hP (by decide) rfl rfl inX11g (by decide) q_1213 rfl dX11_digest_67 ?_
      refine lv_imul hx hb dX11_digest_70 ?_
      refine lv_icmp_ge (tgt := 97) hx hb dX11_digest_71 (by decide) (fun c17 => ?_) (fun c17 => ?_)
      · rw [if_pos c17] at h
        exact kk x15 M16 (Option.some.inj h).symm _ _ ls hP hS (lv_sub hl [0, 1] rfl)
      · rw [if_neg c17] at h
        refine lv_aload_n hx hb dX11_digest_74 rfl (lv_at hl 0 rfl) ?_
        refine lv_aload_n hx hb dX11_digest_75 rfl (lv_at hl 0 rfl) ?_
        refine lv_iload_n hx hb dX11_digest_76 rfl (lv_at hl 1 rfl) ?_
        refine lv_bipush (v := 6) hx hb dX11_digest_77 rfl ?_
        refine lv_idiv hx hb dX11_digest_79 (by decide) ?_
        refine lv_iload_n hx hb dX11_digest_80 rfl (lv_at hl 1 rfl) ?_
        refine lv_bipush (v := 6) hx hb dX11_digest_81 rfl ?_
        refine lv_irem hx hb dX11_digest_83 (by decide) ?_
        obtain ⟨v18, hv18, h⟩ := hy_bind h
        refine hy_ret (hy_rV0 (T := (Mc, M16, Mo)) (v := some (.int v18)) (T2 := (Mc, M16, Mo)) (As := [.int (x15 / 6), .int (x15 - x15 / 6 * 6)]) (rest := [.ref (adr G 30)]) (n := 0) hx hb hml hown hts hX hP hS hl (c_Rf_phraseNow Mc Mo (x15 / 6) (x15 - x15 / 6 * 6) M16 hv18) m_Rf_phraseNow q_1557 (hy_recv hX hP 30 10 (by decide) rfl rfl) rfl rfl (Nat.le_of_ble_eq_true rfl) dX11_digest_84 ⟨Nat.le_of_ble_eq_true rfl, Nat.le_of_ble_eq_true rfl⟩ ⟨Nat.zero_le _, Nat.zero_le _⟩) hS (fun H locs hP hS => ?_)
        refine lv_i2l (v := v18.toInt64) hx hb dX11_digest_87 rfl ?_
        refine hy_ret (hy_rV0 (T := (Mc, M16, Mo)) (v := none) (T2 := (Mc, (Rf_mix v18.toInt64 M16), Mo)) (As := [.long v18.toInt64]) (rest := []) (n := 0) hx hb hml hown hts hX hP hS hl (c_Rf_mix Mc Mo v18.toInt64 M16 rfl) m_Rf_mix q_1650 (hy_recv hX hP 30 10 (by decide) rfl rfl) rfl rfl (Nat.le_of_ble_eq_true rfl) dX11_digest_88 ⟨Nat.le_of_ble_eq_true rfl, Nat.le_of_ble_eq_true rfl⟩ ⟨Nat.zero_le _, Nat.zero_le _⟩) hS (fun H locs hP hS => ?_)
        obtain ⟨M19, hM19, h⟩ := hy_bind h
        rw [Option.some.inj hM19] at hP
        refine lv_iinc (v := (x15 + 1)) (lv' := [(1, .int (x15 + 1)), (0, .ref (adr G 30))]) hx hb dX11_digest_91 hl (k := 1) rfl rfl (by decide) rfl (fun ls hl => ?_)
        refine lv_goto (tgt := 63) hx hb dX11_digest_94 (by decide) ?_
        exact ih (x15 + 1) M19 _ h  _ _ ls hP hS (lv_sub hl [1, 0] rfl) kk
  obtain ⟨q56, hq56, h⟩ := hy_bind h
  refine L20 hyFu 0 NM11 q56 hq56 _ _ ls hP hS (lv_sub hl [1, 0] rfl) ?_
  intro y15 NM16 e9 H locs ls hP hS hl
  subst e9
  try dsimp only at h
  refine lv_iconst (v := 0) hx hb dX11_digest_97 rfl ?_
  refine lv_istore_n (lv' := [(1, .int 0), (0, .ref (adr G 30))]) hx hb dX11_digest_98 rfl hl (by decide) rfl (fun ls hl => ?_)
  have L26 : ∀ (f : Nat) (x21 : Int32) (M22 : hyM) (qL : (Int32 × hyM)) (h : Rf_digest_L99  f x21 M22 = some qL) (H : Heap) (locs : List Loc) (ls : Array Slot) (hP : va_P G.1 vwCl (wld G (Mc, M22, Mo)) H) (hS : va_S (hyA G) s.heap H locs) (hl : lv_has ls 3 [(0, .ref (adr G 30)), (1, .int x21)]) (kk : ∀ (y21 : Int32) (NM22 : hyM), qL = (y21, NM22) → ∀ (H : Heap) (locs : List Loc) (ls : Array Slot), va_P G.1 vwCl (wld G (Mc, NM22, Mo)) H → va_S (hyA G) s.heap H locs → lv_has ls 3 [(0, .ref (adr G 30)), (1, .int y21)] → W p l e { frames := 8, cells := 0, slots := 6 * 0, locals := 179 } s m ([.ref (adr G 30)] : List Value).toArray below meth c H locs 0 0 (vx_MQ below (hyQ G (.inr (some (.long res.1)), (Mc, res.2, Mo))) (hyXQ G (.inr (some (.long res.1)), (Mc, res.2, Mo))) ([.ref (adr G 30)] : List Value).toArray s 0 (6 * 0) (hyA G)) (F0 m 124 ls [])), W p l e { frames := 8, cells := 0, slots := 6 * 0, locals := 179 } s m ([.ref (adr G 30)] : List Value).toArray below meth c H locs 0 0 (vx_MQ below (hyQ G (.inr (some (.long res.1)), (Mc, res.2, Mo))) (hyXQ G (.inr (some (.long res.1)), (Mc, res.2, Mo))) ([.ref (adr G 30)] : List Value).toArray s 0 (6 * 0) (hyA G)) (F0 m 99 ls []) := by
    intro f
    induction f with
    | zero =>
      intro x21 M22 qL h H locs ls hP hS hl kk
      rw [Rf_digest_L99] at h
      cases h
    | succ f ih =>
      intro x21 M22 qL h H locs ls hP hS hl kk
      rw [Rf_digest_L99] at h
      refine lv_iload_n hx hb dX11_digest_99 rfl (lv_at hl 1 rfl) ?_
      refine lv_aload_n hx hb dX11_digest_100 rfl (lv_at hl 0 rfl) ?_
      refine hy_get (T := (Mc, M22, Mo)) (o := 30) (k := 25) (v := .int (M22.1 30 25)) hx hb hown hts hX hP (by decide) rfl rfl inX11g (by decide) q_1217 rfl dX11_digest_101 ?_
      refine lv_icmp_ge (tgt := 124) hx hb dX11_digest_104 (by decide) (fun c23 => ?_) (fun c23 => ?_)
      · rw [if_pos c23] at h
        exact kk x21 M22 (Option.some.inj h).symm _ _ ls hP hS (lv_sub hl [0, 1] rfl)
      · rw [if_neg c23] at h
        refine lv_aload_n hx hb dX11_digest_107 rfl (lv_at hl 0 rfl) ?_
        refine lv_aload_n hx hb dX11_digest_108 rfl (lv_at hl 0 rfl) ?_
        refine hy_get (T := (Mc, M22, Mo)) (o := 30) (k := 26) (v := .ref (adr G 46)) hx hb hown hts hX hP (by decide) rfl rfl inX11g (by decide) q_1218 rfl dX11_digest_109 ?_
        refine lv_iload_n hx hb dX11_digest_112 rfl (lv_at hl 1 rfl) ?_
        obtain ⟨v24, hv24, h⟩ := hy_bind h
        obtain ⟨nv24, hv24⟩ := ldE_some hv24
        refine hy_iald (T := (Mc, M22, Mo)) hx hb hX hP 46 80 (M22.1 46) (by decide) rfl nv24 dX11_digest_113 ?_
        rw [hv24]
        refine lv_i2l (v := v24.toInt64) hx hb dX11_digest_114 rfl ?_
        refine hy_ret (hy_rV0 (T := (Mc, M22, Mo)) (v := none) (T2 := (Mc, (Rf_mix v24.toInt64 M22), Mo)) (As := [.long v24.toInt64]) (rest := []) (n := 0) hx hb hml hown hts hX hP hS hl (c_Rf_mix Mc Mo v24.toInt64 M22 rfl) m_Rf_mix q_1650 (hy_recv hX hP 30 10 (by decide) rfl rfl) rfl rfl (Nat.le_of_ble_eq_true rfl) dX11_digest_115 ⟨Nat.le_of_ble_eq_true rfl, Nat.le_of_ble_eq_true rfl⟩ ⟨Nat.zero_le _, Nat.zero_le _⟩) hS (fun H locs hP hS => ?_)
        obtain ⟨M25, hM25, h⟩ := hy_bind h
        rw [Option.some.inj hM25] at hP
        refine lv_iinc (v := (x21 + 1)) (lv' := [(1, .int (x21 + 1)), (0, .ref (adr G 30))]) hx hb dX11_digest_118 hl (k := 1) rfl rfl (by decide) rfl (fun ls hl => ?_)
        refine lv_goto (tgt := 99) hx hb dX11_digest_121 (by decide) ?_
        exact ih (x21 + 1) M25 _ h  _ _ ls hP hS (lv_sub hl [1, 0] rfl) kk
  obtain ⟨q55, hq55, h⟩ := hy_bind h
  refine L26 hyFu 0 NM16 q55 hq55 _ _ ls hP hS (lv_sub hl [1, 0] rfl) ?_
  intro y21 NM22 e9 H locs ls hP hS hl
  subst e9
  try dsimp only at h
  refine lv_aload_n hx hb dX11_digest_124 rfl (lv_at hl 0 rfl) ?_
  obtain ⟨M27, hM27, h⟩ := hy_bind h
  refine hy_ret (hy_rV0 (T := (Mc, NM22, Mo)) (v := none) (T2 := (Mc, M27, Mo)) (As := []) (rest := []) (n := 0) hx hb hml hown hts hX hP hS hl (c_Rf_mixVerses Mc Mo NM22 hM27) m_Rf_mixVerses q_1659 (hy_recv hX hP 30 10 (by decide) rfl rfl) rfl rfl (Nat.le_of_ble_eq_true rfl) dX11_digest_125 ⟨Nat.le_of_ble_eq_true rfl, Nat.le_of_ble_eq_true rfl⟩ ⟨Nat.zero_le _, Nat.zero_le _⟩) hS (fun H locs hP hS => ?_)
  refine lv_iconst (v := 0) hx hb dX11_digest_128 rfl ?_
  refine lv_istore_n (lv' := [(1, .int 0), (0, .ref (adr G 30))]) hx hb dX11_digest_129 rfl hl (by decide) rfl (fun ls hl => ?_)
  have L41 : ∀ (f : Nat) (x28 : Int32) (M29 : hyM) (qL : (Int32 × hyM)) (h : Rf_digest_L130  f x28 M29 = some qL) (H : Heap) (locs : List Loc) (ls : Array Slot) (hP : va_P G.1 vwCl (wld G (Mc, M29, Mo)) H) (hS : va_S (hyA G) s.heap H locs) (hl : lv_has ls 3 [(0, .ref (adr G 30)), (1, .int x28)]) (kk : ∀ (y28 : Int32) (NM29 : hyM), qL = (y28, NM29) → ∀ (H : Heap) (locs : List Loc) (ls : Array Slot), va_P G.1 vwCl (wld G (Mc, NM29, Mo)) H → va_S (hyA G) s.heap H locs → lv_has ls 3 [(0, .ref (adr G 30)), (1, .int y28)] → W p l e { frames := 8, cells := 0, slots := 6 * 0, locals := 179 } s m ([.ref (adr G 30)] : List Value).toArray below meth c H locs 0 0 (vx_MQ below (hyQ G (.inr (some (.long res.1)), (Mc, res.2, Mo))) (hyXQ G (.inr (some (.long res.1)), (Mc, res.2, Mo))) ([.ref (adr G 30)] : List Value).toArray s 0 (6 * 0) (hyA G)) (F0 m 188 ls [])), W p l e { frames := 8, cells := 0, slots := 6 * 0, locals := 179 } s m ([.ref (adr G 30)] : List Value).toArray below meth c H locs 0 0 (vx_MQ below (hyQ G (.inr (some (.long res.1)), (Mc, res.2, Mo))) (hyXQ G (.inr (some (.long res.1)), (Mc, res.2, Mo))) ([.ref (adr G 30)] : List Value).toArray s 0 (6 * 0) (hyA G)) (F0 m 130 ls []) := by
    intro f
    induction f with
    | zero =>
      intro x28 M29 qL h H locs ls hP hS hl kk
      rw [Rf_digest_L130] at h
      cases h
    | succ f ih =>
      intro x28 M29 qL h H locs ls hP hS hl kk
      rw [Rf_digest_L130] at h
      refine lv_iload_n hx hb dX11_digest_130 rfl (lv_at hl 1 rfl) ?_
      refine lv_aload_n hx hb dX11_digest_131 rfl (lv_at hl 0 rfl) ?_
      refine hy_get (T := (Mc, M29, Mo)) (o := 30) (k := 16) (v := .int (M29.1 30 16)) hx hb hown hts hX hP (by decide) rfl rfl inX11g (by decide) q_1208 rfl dX11_digest_132 ?_
      refine lv_icmp_ge (tgt := 188) hx hb dX11_digest_135 (by decide) (fun c30 => ?_) (fun c30 => ?_)
      · rw [if_pos c30] at h
        exact kk x28 M29 (Option.some.inj h).symm _ _ ls hP hS (lv_sub hl [0, 1] rfl)
      · rw [if_neg c30] at h
        refine lv_aload_n hx hb dX11_digest_138 rfl (lv_at hl 0 rfl) ?_
        refine lv_aload_n hx hb dX11_digest_139 rfl (lv_at hl 0 rfl) ?_
        refine lv_iload_n hx hb dX11_digest_140 rfl (lv_at hl 1 rfl) ?_
        obtain ⟨v31, hv31, h⟩ := hy_bind h
        refine hy_ret (hy_rV0 (T := (Mc, M29, Mo)) (v := some (.int v31)) (T2 := (Mc, M29, Mo)) (As := [.int x28]) (rest := [.ref (adr G 30)]) (n := 0) hx hb hml hown hts hX hP hS hl (c_Rf_distanceNow Mc Mo x28 M29 hv31) m_Rf_distanceNow q_1605 (hy_recv hX hP 30 10 (by decide) rfl rfl) rfl rfl (Nat.le_of_ble_eq_true rfl) dX11_digest_141 ⟨Nat.le_of_ble_eq_true rfl, Nat.le_of_ble_eq_true rfl⟩ ⟨Nat.zero_le _, Nat.zero_le _⟩) hS (fun H locs hP hS => ?_)
        refine lv_i2l (v := v31.toInt64) hx hb dX11_digest_144 rfl ?_
        refine hy_ret (hy_rV0 (T := (Mc, M29, Mo)) (v := none) (T2 := (Mc, (Rf_mix v31.toInt64 M29), Mo)) (As := [.long v31.toInt64]) (rest := []) (n := 0) hx hb hml hown hts hX hP hS hl (c_Rf_mix Mc Mo v31.toInt64 M29 rfl) m_Rf_mix q_1650 (hy_recv hX hP 30 10 (by decide) rfl rfl) rfl rfl (Nat.le_of_ble_eq_true rfl) dX11_digest_145 ⟨Nat.le_of_ble_eq_true rfl, Nat.le_of_ble_eq_true rfl⟩ ⟨Nat.zero_le _, Nat.zero_le _⟩) hS (fun H locs hP hS => ?_)
        obtain ⟨M32, hM32, h⟩ := hy_bind h
        rw [Option.some.inj hM32] at hP
        refine lv_iconst (v := 0) hx hb dX11_digest_148 rfl ?_
        refine lv_istore_n (lv' := [(2, .int 0), (0, .ref (adr G 30)), (1, .int x28)]) hx hb dX11_digest_149 rfl hl (by decide) rfl (fun ls hl => ?_)
        have L39 : ∀ (f : Nat) (x33 : Int32) (M34 : hyM) (qL : (Int32 × hyM)) (h : Rf_digest_L150 x28 f x33 M34 = some qL) (H : Heap) (locs : List Loc) (ls : Array Slot) (hP : va_P G.1 vwCl (wld G (Mc, M34, Mo)) H) (hS : va_S (hyA G) s.heap H locs) (hl : lv_has ls 3 [(0, .ref (adr G 30)), (1, .int x28), (2, .int x33)]) (kk : ∀ (y33 : Int32) (NM34 : hyM), qL = (y33, NM34) → ∀ (H : Heap) (locs : List Loc) (ls : Array Slot), va_P G.1 vwCl (wld G (Mc, NM34, Mo)) H → va_S (hyA G) s.heap H locs → lv_has ls 3 [(0, .ref (adr G 30)), (1, .int x28), (2, .int y33)] → W p l e { frames := 8, cells := 0, slots := 6 * 0, locals := 179 } s m ([.ref (adr G 30)] : List Value).toArray below meth c H locs 0 0 (vx_MQ below (hyQ G (.inr (some (.long res.1)), (Mc, res.2, Mo))) (hyXQ G (.inr (some (.long res.1)), (Mc, res.2, Mo))) ([.ref (adr G 30)] : List Value).toArray s 0 (6 * 0) (hyA G)) (F0 m 182 ls [])), W p l e { frames := 8, cells := 0, slots := 6 * 0, locals := 179 } s m ([.ref (adr G 30)] : List Value).toArray below meth c H locs 0 0 (vx_MQ below (hyQ G (.inr (some (.long res.1)), (Mc, res.2, Mo))) (hyXQ G (.inr (some (.long res.1)), (Mc, res.2, Mo))) ([.ref (adr G 30)] : List Value).toArray s 0 (6 * 0) (hyA G)) (F0 m 150 ls []) := by
          intro f
          induction f with
          | zero =>
            intro x33 M34 qL h H locs ls hP hS hl kk
            rw [Rf_digest_L150] at h
            cases h
          | succ f ih =>
            intro x33 M34 qL h H locs ls hP hS hl kk
            rw [Rf_digest_L150] at h
            refine lv_iload_n hx hb dX11_digest_150 rfl (lv_at hl 2 rfl) ?_
            refine lv_aload_n hx hb dX11_digest_151 rfl (lv_at hl 0 rfl) ?_
            refine hy_get (T := (Mc, M34, Mo)) (o := 30) (k := 17) (v := .ref (adr G 40)) hx hb hown hts hX hP (by decide) rfl rfl inX11g (by decide) q_1209 rfl dX11_digest_152 ?_
            refine lv_iload_n hx hb dX11_digest_155 rfl (lv_at hl 1 rfl) ?_
            obtain ⟨v35, hv35, h⟩ := hy_bind h
            obtain ⟨nv35, hv35⟩ := ldE_some hv35
            refine hy_iald (T := (Mc, M34, Mo)) hx hb hX hP 40 8 (M34.1 40) (by decide) rfl nv35 dX11_digest_156 ?_
            rw [hv35]
            refine lv_icmp_ge (tgt := 182) hx hb dX11_digest_157 (by decide) (fun c36 => ?_) (fun c36 => ?_)
            · rw [if_pos c36] at h
              exact kk x33 M34 (Option.some.inj h).symm _ _ ls hP hS (lv_sub hl [0, 1, 2] rfl)
            · rw [if_neg c36] at h
              refine lv_aload_n hx hb dX11_digest_160 rfl (lv_at hl 0 rfl) ?_
              refine lv_aload_n hx hb dX11_digest_161 rfl (lv_at hl 0 rfl) ?_
              refine hy_get (T := (Mc, M34, Mo)) (o := 30) (k := 18) (v := .ref (adr G 41)) hx hb hown hts hX hP (by decide) rfl rfl inX11g (by decide) q_1210 rfl dX11_digest_162 ?_
              refine lv_bipush (v := 24) hx hb dX11_digest_165 rfl ?_
              refine lv_iload_n hx hb dX11_digest_167 rfl (lv_at hl 1 rfl) ?_
              refine lv_imul hx hb dX11_digest_168 ?_
              refine lv_iload_n hx hb dX11_digest_169 rfl (lv_at hl 2 rfl) ?_
              refine lv_iadd hx hb dX11_digest_170 ?_
              obtain ⟨v37, hv37, h⟩ := hy_bind h
              obtain ⟨nv37, hv37⟩ := ldE_some hv37
              refine hy_iald (T := (Mc, M34, Mo)) hx hb hX hP 41 192 (M34.1 41) (by decide) rfl nv37 dX11_digest_171 ?_
              rw [hv37]
              refine lv_i2l (v := v37.toInt64) hx hb dX11_digest_172 rfl ?_
              refine hy_ret (hy_rV0 (T := (Mc, M34, Mo)) (v := none) (T2 := (Mc, (Rf_mix v37.toInt64 M34), Mo)) (As := [.long v37.toInt64]) (rest := []) (n := 0) hx hb hml hown hts hX hP hS hl (c_Rf_mix Mc Mo v37.toInt64 M34 rfl) m_Rf_mix q_1650 (hy_recv hX hP 30 10 (by decide) rfl rfl) rfl rfl (Nat.le_of_ble_eq_true rfl) dX11_digest_173 ⟨Nat.le_of_ble_eq_true rfl, Nat.le_of_ble_eq_true rfl⟩ ⟨Nat.zero_le _, Nat.zero_le _⟩) hS (fun H locs hP hS => ?_)
              obtain ⟨M38, hM38, h⟩ := hy_bind h
              rw [Option.some.inj hM38] at hP
              refine lv_iinc (v := (x33 + 1)) (lv' := [(2, .int (x33 + 1)), (0, .ref (adr G 30)), (1, .int x28)]) hx hb dX11_digest_176 hl (k := 2) rfl rfl (by decide) rfl (fun ls hl => ?_)
              refine lv_goto (tgt := 150) hx hb dX11_digest_179 (by decide) ?_
              exact ih (x33 + 1) M38 _ h  _ _ ls hP hS (lv_sub hl [1, 2, 0] rfl) kk
        obtain ⟨q40, hq40, h⟩ := hy_bind h
        refine L39 hyFu 0 M32 q40 hq40 _ _ ls hP hS (lv_sub hl [1, 2, 0] rfl) ?_
        intro y33 NM34 e9 H locs ls hP hS hl
        subst e9
        try dsimp only at h
        refine lv_iinc (v := (x28 + 1)) (lv' := [(1, .int (x28 + 1)), (0, .ref (adr G 30)), (2, .int y33)]) hx hb dX11_digest_182 hl (k := 1) rfl rfl (by decide) rfl (fun ls hl => ?_)
        refine lv_goto (tgt := 130) hx hb dX11_digest_185 (by decide) ?_
        exact ih (x28 + 1) NM34 _ h  _ _ ls hP hS (lv_sub hl [1, 0] rfl) kk
  obtain ⟨q54, hq54, h⟩ := hy_bind h
  refine L41 hyFu 0 M27 q54 hq54 _ _ ls hP hS (lv_sub hl [1, 0] rfl) ?_
  intro y28 NM29 e9 H locs ls hP hS hl
  subst e9
  try dsimp only at h
  refine lv_aload_n hx hb dX11_digest_188 rfl (lv_at hl 0 rfl) ?_
  refine lv_aload_n hx hb dX11_digest_189 rfl (lv_at hl 0 rfl) ?_
  obtain ⟨v42, hv42, h⟩ := hy_bind h
  refine hy_ret (hy_rV0 (T := (Mc, NM29, Mo)) (v := some (.int v42)) (T2 := (Mc, NM29, Mo)) (As := []) (rest := [.ref (adr G 30)]) (n := 0) hx hb hml hown hts hX hP hS hl (c_Rf_nearestNow Mc Mo NM29 hv42) m_Rf_nearestNow q_1613 (hy_recv hX hP 30 10 (by decide) rfl rfl) rfl rfl (Nat.le_of_ble_eq_true rfl) dX11_digest_190 ⟨Nat.le_of_ble_eq_true rfl, Nat.le_of_ble_eq_true rfl⟩ ⟨Nat.zero_le _, Nat.zero_le _⟩) hS (fun H locs hP hS => ?_)
  refine lv_i2l (v := v42.toInt64) hx hb dX11_digest_193 rfl ?_
  refine hy_ret (hy_rV0 (T := (Mc, NM29, Mo)) (v := none) (T2 := (Mc, (Rf_mix v42.toInt64 NM29), Mo)) (As := [.long v42.toInt64]) (rest := []) (n := 0) hx hb hml hown hts hX hP hS hl (c_Rf_mix Mc Mo v42.toInt64 NM29 rfl) m_Rf_mix q_1650 (hy_recv hX hP 30 10 (by decide) rfl rfl) rfl rfl (Nat.le_of_ble_eq_true rfl) dX11_digest_194 ⟨Nat.le_of_ble_eq_true rfl, Nat.le_of_ble_eq_true rfl⟩ ⟨Nat.zero_le _, Nat.zero_le _⟩) hS (fun H locs hP hS => ?_)
  obtain ⟨M43, hM43, h⟩ := hy_bind h
  rw [Option.some.inj hM43] at hP
  refine lv_aload_n hx hb dX11_digest_197 rfl (lv_at hl 0 rfl) ?_
  refine lv_aload_n hx hb dX11_digest_198 rfl (lv_at hl 0 rfl) ?_
  obtain ⟨v44, hv44, h⟩ := hy_bind h
  refine hy_ret (hy_rV0 (T := (Mc, M43, Mo)) (v := some (.double v44)) (T2 := (Mc, M43, Mo)) (As := []) (rest := [.ref (adr G 30)]) (n := 0) hx hb hml hown hts hX hP hS hl (c_Rf_meanNow Mc Mo M43 hv44) m_Rf_meanNow q_1641 (hy_recv hX hP 30 10 (by decide) rfl rfl) rfl rfl (Nat.le_of_ble_eq_true rfl) dX11_digest_199 ⟨Nat.le_of_ble_eq_true rfl, Nat.le_of_ble_eq_true rfl⟩ ⟨Nat.zero_le _, Nat.zero_le _⟩) hS (fun H locs hP hS => ?_)
  refine hy_ret (hy_rS0 (T := (Mc, M43, Mo)) (v := some (.long (Jd_doubleToLongBits v44 M43))) (T2 := (Mc, M43, Mo)) (As := [.double v44]) (rest := [.ref (adr G 30)]) (n := 0) hx hb hml hown hts hX hP hS hl (c_Jd_doubleToLongBits Mc Mo v44 M43 rfl) m_Jd_doubleToLongBits q_1663 rfl rfl (Nat.le_of_ble_eq_true rfl) dX11_digest_202 ⟨Nat.le_of_ble_eq_true rfl, Nat.le_of_ble_eq_true rfl⟩ ⟨Nat.zero_le _, Nat.zero_le _⟩) hS (fun H locs hP hS => ?_)
  refine hy_ret (hy_rV0 (T := (Mc, M43, Mo)) (v := none) (T2 := (Mc, (Rf_mix (Jd_doubleToLongBits v44 M43) M43), Mo)) (As := [.long (Jd_doubleToLongBits v44 M43)]) (rest := []) (n := 0) hx hb hml hown hts hX hP hS hl (c_Rf_mix Mc Mo (Jd_doubleToLongBits v44 M43) M43 rfl) m_Rf_mix q_1650 (hy_recv hX hP 30 10 (by decide) rfl rfl) rfl rfl (Nat.le_of_ble_eq_true rfl) dX11_digest_205 ⟨Nat.le_of_ble_eq_true rfl, Nat.le_of_ble_eq_true rfl⟩ ⟨Nat.zero_le _, Nat.zero_le _⟩) hS (fun H locs hP hS => ?_)
  obtain ⟨M45, hM45, h⟩ := hy_bind h
  rw [Option.some.inj hM45] at hP
  refine lv_aload_n hx hb dX11_digest_208 rfl (lv_at hl 0 rfl) ?_
  refine lv_aload_n hx hb dX11_digest_209 rfl (lv_at hl 0 rfl) ?_
  refine hy_get (T := (Mc, M45, Mo)) (o := 30) (k := 19) (v := .int (M45.1 30 19)) hx hb hown hts hX hP (by decide) rfl rfl inX11g (by decide) q_1211 rfl dX11_digest_210 ?_
  refine lv_i2l (v := (M45.1 30 19).toInt64) hx hb dX11_digest_213 rfl ?_
  refine hy_ret (hy_rV0 (T := (Mc, M45, Mo)) (v := none) (T2 := (Mc, (Rf_mix ((M45.1 30 19).toInt64) M45), Mo)) (As := [.long ((M45.1 30 19).toInt64)]) (rest := []) (n := 0) hx hb hml hown hts hX hP hS hl (c_Rf_mix Mc Mo ((M45.1 30 19).toInt64) M45 rfl) m_Rf_mix q_1650 (hy_recv hX hP 30 10 (by decide) rfl rfl) rfl rfl (Nat.le_of_ble_eq_true rfl) dX11_digest_214 ⟨Nat.le_of_ble_eq_true rfl, Nat.le_of_ble_eq_true rfl⟩ ⟨Nat.zero_le _, Nat.zero_le _⟩) hS (fun H locs hP hS => ?_)
  obtain ⟨M46, hM46, h⟩ := hy_bind h
  rw [Option.some.inj hM46] at hP
  refine lv_iconst (v := 0) hx hb dX11_digest_217 rfl ?_
  refine lv_istore_n (lv' := [(1, .int 0), (0, .ref (adr G 30))]) hx hb dX11_digest_218 rfl hl (by decide) rfl (fun ls hl => ?_)
  have L52 : ∀ (f : Nat) (x47 : Int32) (M48 : hyM) (qL : (Int32 × hyM)) (h : Rf_digest_L219  f x47 M48 = some qL) (H : Heap) (locs : List Loc) (ls : Array Slot) (hP : va_P G.1 vwCl (wld G (Mc, M48, Mo)) H) (hS : va_S (hyA G) s.heap H locs) (hl : lv_has ls 3 [(0, .ref (adr G 30)), (1, .int x47)]) (kk : ∀ (y47 : Int32) (NM48 : hyM), qL = (y47, NM48) → ∀ (H : Heap) (locs : List Loc) (ls : Array Slot), va_P G.1 vwCl (wld G (Mc, NM48, Mo)) H → va_S (hyA G) s.heap H locs → lv_has ls 3 [(0, .ref (adr G 30)), (1, .int y47)] → W p l e { frames := 8, cells := 0, slots := 6 * 0, locals := 179 } s m ([.ref (adr G 30)] : List Value).toArray below meth c H locs 0 0 (vx_MQ below (hyQ G (.inr (some (.long res.1)), (Mc, res.2, Mo))) (hyXQ G (.inr (some (.long res.1)), (Mc, res.2, Mo))) ([.ref (adr G 30)] : List Value).toArray s 0 (6 * 0) (hyA G)) (F0 m 244 ls [])), W p l e { frames := 8, cells := 0, slots := 6 * 0, locals := 179 } s m ([.ref (adr G 30)] : List Value).toArray below meth c H locs 0 0 (vx_MQ below (hyQ G (.inr (some (.long res.1)), (Mc, res.2, Mo))) (hyXQ G (.inr (some (.long res.1)), (Mc, res.2, Mo))) ([.ref (adr G 30)] : List Value).toArray s 0 (6 * 0) (hyA G)) (F0 m 219 ls []) := by
    intro f
    induction f with
    | zero =>
      intro x47 M48 qL h H locs ls hP hS hl kk
      rw [Rf_digest_L219] at h
      cases h
    | succ f ih =>
      intro x47 M48 qL h H locs ls hP hS hl kk
      rw [Rf_digest_L219] at h
      refine lv_iload_n hx hb dX11_digest_219 rfl (lv_at hl 1 rfl) ?_
      refine lv_aload_n hx hb dX11_digest_220 rfl (lv_at hl 0 rfl) ?_
      refine hy_get (T := (Mc, M48, Mo)) (o := 30) (k := 19) (v := .int (M48.1 30 19)) hx hb hown hts hX hP (by decide) rfl rfl inX11g (by decide) q_1211 rfl dX11_digest_221 ?_
      refine lv_icmp_ge (tgt := 244) hx hb dX11_digest_224 (by decide) (fun c49 => ?_) (fun c49 => ?_)
      · rw [if_pos c49] at h
        exact kk x47 M48 (Option.some.inj h).symm _ _ ls hP hS (lv_sub hl [0, 1] rfl)
      · rw [if_neg c49] at h
        refine lv_aload_n hx hb dX11_digest_227 rfl (lv_at hl 0 rfl) ?_
        refine lv_aload_n hx hb dX11_digest_228 rfl (lv_at hl 0 rfl) ?_
        refine hy_get (T := (Mc, M48, Mo)) (o := 30) (k := 20) (v := .ref (adr G 42)) hx hb hown hts hX hP (by decide) rfl rfl inX11g (by decide) q_1212 rfl dX11_digest_229 ?_
        refine lv_iload_n hx hb dX11_digest_232 rfl (lv_at hl 1 rfl) ?_
        obtain ⟨v50, hv50, h⟩ := hy_bind h
        obtain ⟨nv50, hv50⟩ := ldE_some hv50
        refine hy_iald (T := (Mc, M48, Mo)) hx hb hX hP 42 60 (M48.1 42) (by decide) rfl nv50 dX11_digest_233 ?_
        rw [hv50]
        refine lv_i2l (v := v50.toInt64) hx hb dX11_digest_234 rfl ?_
        refine hy_ret (hy_rV0 (T := (Mc, M48, Mo)) (v := none) (T2 := (Mc, (Rf_mix v50.toInt64 M48), Mo)) (As := [.long v50.toInt64]) (rest := []) (n := 0) hx hb hml hown hts hX hP hS hl (c_Rf_mix Mc Mo v50.toInt64 M48 rfl) m_Rf_mix q_1650 (hy_recv hX hP 30 10 (by decide) rfl rfl) rfl rfl (Nat.le_of_ble_eq_true rfl) dX11_digest_235 ⟨Nat.le_of_ble_eq_true rfl, Nat.le_of_ble_eq_true rfl⟩ ⟨Nat.zero_le _, Nat.zero_le _⟩) hS (fun H locs hP hS => ?_)
        obtain ⟨M51, hM51, h⟩ := hy_bind h
        rw [Option.some.inj hM51] at hP
        refine lv_iinc (v := (x47 + 1)) (lv' := [(1, .int (x47 + 1)), (0, .ref (adr G 30))]) hx hb dX11_digest_238 hl (k := 1) rfl rfl (by decide) rfl (fun ls hl => ?_)
        refine lv_goto (tgt := 219) hx hb dX11_digest_241 (by decide) ?_
        exact ih (x47 + 1) M51 _ h  _ _ ls hP hS (lv_sub hl [1, 0] rfl) kk
  obtain ⟨q53, hq53, h⟩ := hy_bind h
  refine L52 hyFu 0 M46 q53 hq53 _ _ ls hP hS (lv_sub hl [1, 0] rfl) ?_
  intro y47 NM48 e9 H locs ls hP hS hl
  subst e9
  try dsimp only at h
  refine lv_aload_n hx hb dX11_digest_244 rfl (lv_at hl 0 rfl) ?_
  refine hy_get (T := (Mc, NM48, Mo)) (o := 30) (k := 35) (v := .long (NM48.2 30 35)) hx hb hown hts hX hP (by decide) rfl rfl inX11g (by decide) q_1227 rfl dX11_digest_245 ?_
  exact hy_lret (T := (Mc, NM48, Mo)) hx hb hr hlocks hP hS (Nat.zero_le _) (Nat.zero_le _) (by rw [← (Option.some.inj h)] <;> rfl) dX11_digest_248
set_option maxHeartbeats 1000000 in
set_option maxRecDepth 100000 in
theorem c_La_begin {l : Launch} {G : hyG} (hlt : l.stackTraces = false) (a1 : Int32) (T : hyT) {res : (Int32 × hyT)} (h : La_begin a1 T = some res) : hyC2 l yL_begin (.codeWith yL_begin cL_begin 4 (some .int) [(0, 9, 12, 13)]) 8 161 (1) G [.ref (adr G 0), .int a1, .ref (adr G 51)] T (.inr (some (.int res.1)), res.2) := by
  refine hy_ofH2 (by decide +kernel) (Nat.le_of_ble_eq_true rfl) ?_
  intro p e s m below meth c hx hb hml hown hts hr hlocks ht hX hP hS hN ls hl
  have hl : lv_has ls 4 [(0, .ref (adr G 0)), (1, .int a1), (2, .ref (adr G 51))] := hl
  rw [La_begin] at h
  refine lv_aload_n hx hb dL_begin_0 rfl (lv_at hl 2 rfl) ?_
  refine lv_iconst (v := 0) hx hb dL_begin_1 rfl ?_
  refine lv_aload_n hx hb dL_begin_2 rfl (lv_at hl 0 rfl) ?_
  refine lv_iload_n hx hb dL_begin_3 rfl (lv_at hl 1 rfl) ?_
  obtain ⟨u1, hu1, h⟩ := hy_bind h
  obtain ⟨u1, Zu1⟩ := u1
  rcases u1 with k2 | r3
  all_goals try dsimp only at h
  · refine hy_retX (ou := (.inl k2, (Zu1, T.2))) (n := 1) (k := 0) (hy_rV (T := T) (ou := (.inl k2, (Zu1, T.2))) (As := [.int a1]) (rest := [.int 0, .ref (adr G 51)]) (n := 1) hx hb hml hown hts hX hP hS hl (c_Hp_begin hlt T.2.1 T.2.2 a1 T.1 (res := (.inl k2, Zu1)) hu1) m_Hp_begin q_804 (hy_recv hX hP 0 9 (by decide) rfl rfl) rfl rfl (Nat.le_of_ble_eq_true rfl) dL_begin_4 ⟨Nat.le_of_ble_eq_true rfl, Nat.le_of_ble_eq_true rfl⟩ ⟨by decide, by decide⟩) hS (fun k hk q ce H locs hP hS hce hcv hcl => ?_) (fun v hv => by cases hv)
    cases hk
    by_cases hk0 : k2 = 1
    · subst hk0
      rw [if_pos rfl] at h
      refine vx_catch (name := "java/lang/IllegalArgumentException") hown [] ⟨0, 9, 12, 13⟩ [] ht (fun z hz => by cases hz) (by decide) (by decide) (hts _ q_803) (hX.2.2.2.1.use q_813 _) hce hcv hcl ?_
      refine lv_astore_n (lv' := [(3, .ref q), (0, .ref (adr G 0)), (1, .int a1), (2, .ref (adr G 51))]) hx hb dL_begin_12 rfl hl (by decide) rfl (fun ls hl => ?_)
      refine lv_iconst (v := 1) hx hb dL_begin_13 rfl ?_
      exact hy_iret (T := (Zu1, T.2)) hx hb hr hlocks hP hS (by decide) (by decide) (by rw [← (Option.some.inj h)] <;> rfl) dL_begin_14
    · rw [if_neg hk0] at h
      cases h
  · refine hy_retX (ou := (.inr (some (.int r3)), (Zu1, T.2))) (n := 0) (k := 0) (hy_rV (T := T) (ou := (.inr (some (.int r3)), (Zu1, T.2))) (As := [.int a1]) (rest := [.int 0, .ref (adr G 51)]) (n := 0) hx hb hml hown hts hX hP hS hl (c_Hp_begin hlt T.2.1 T.2.2 a1 T.1 (res := (.inr r3, Zu1)) hu1) m_Hp_begin q_804 (hy_recv hX hP 0 9 (by decide) rfl rfl) rfl rfl (Nat.le_of_ble_eq_true rfl) dL_begin_4 ⟨Nat.le_of_ble_eq_true rfl, Nat.le_of_ble_eq_true rfl⟩ ⟨Nat.zero_le _, Nat.zero_le _⟩) hS (fun k hk => by cases hk) (fun v hv H locs hP hS => ?_)
    cases hv
    refine lv_i2l (v := r3.toInt64) hx hb dL_begin_7 rfl ?_
    refine hy_last (T := (Zu1, T.2)) (T2 := (wTL (Zu1, T.2) 51 0 r3.toInt64)) hx hb hX hP hS (by decide) rfl dL_begin_8 (fun H locs hP hS => ?_)
    obtain ⟨T4, hT4, h⟩ := hy_bind h
    rw [Option.some.inj hT4] at hP
    refine lv_goto (tgt := 15) hx hb dL_begin_9 (by decide) ?_
    refine lv_iconst (v := 0) hx hb dL_begin_15 rfl ?_
    exact hy_iret (T := T4) hx hb hr hlocks hP hS (by decide) (by decide) (by rw [← (Option.some.inj h)] <;> rfl) dL_begin_16
set_option maxHeartbeats 1000000 in
set_option maxRecDepth 100000 in
theorem c_La_addNote {l : Launch} {G : hyG} (hlt : l.stackTraces = false) (a1 : Int32) (a2 : Int32) (a3 : Int32) (a4 : Int32) (a5 : Int32) (T : hyT) {res : (Int32 × hyT)} (h : La_addNote a1 a2 a3 a4 a5 T = some res) : hyC2 l yL_addNote (.codeWith yL_addNote cL_addNote 8 (some .int) [(0, 16, 19, 13), (0, 16, 23, 19)]) 9 163 (1) G [.ref (adr G 0), .int a1, .int a2, .int a3, .int a4, .int a5, .ref (adr G 51)] T (.inr (some (.int res.1)), res.2) := by
  refine hy_ofH2 (by decide +kernel) (Nat.le_of_ble_eq_true rfl) ?_
  intro p e s m below meth c hx hb hml hown hts hr hlocks ht hX hP hS hN ls hl
  have hl : lv_has ls 8 [(0, .ref (adr G 0)), (1, .int a1), (2, .int a2), (3, .int a3), (4, .int a4), (5, .int a5), (6, .ref (adr G 51))] := hl
  rw [La_addNote] at h
  refine lv_aload hx hb dL_addNote_0 (lv_at hl 6 rfl) ?_
  refine lv_iconst (v := 0) hx hb dL_addNote_2 rfl ?_
  refine lv_aload_n hx hb dL_addNote_3 rfl (lv_at hl 0 rfl) ?_
  refine lv_iload_n hx hb dL_addNote_4 rfl (lv_at hl 1 rfl) ?_
  refine lv_iload_n hx hb dL_addNote_5 rfl (lv_at hl 2 rfl) ?_
  refine lv_iload_n hx hb dL_addNote_6 rfl (lv_at hl 3 rfl) ?_
  refine lv_iload hx hb dL_addNote_7 (lv_at hl 4 rfl) ?_
  refine lv_iload hx hb dL_addNote_9 (lv_at hl 5 rfl) ?_
  obtain ⟨u1, hu1, h⟩ := hy_bind h
  obtain ⟨u1, Zu1⟩ := u1
  rcases u1 with k2 | r3
  all_goals try dsimp only at h
  · refine hy_retX (ou := (.inl k2, (Zu1, T.2))) (n := 1) (k := 0) (hy_rV (T := T) (ou := (.inl k2, (Zu1, T.2))) (As := [.int a1, .int a2, .int a3, .int a4, .int a5]) (rest := [.int 0, .ref (adr G 51)]) (n := 1) hx hb hml hown hts hX hP hS hl (c_Hp_addNote hlt T.2.1 T.2.2 a1 a2 a3 a4 a5 T.1 (res := (.inl k2, Zu1)) hu1) m_Hp_addNote q_896 (hy_recv hX hP 0 9 (by decide) rfl rfl) rfl rfl (Nat.le_of_ble_eq_true rfl) dL_addNote_11 ⟨Nat.le_of_ble_eq_true rfl, Nat.le_of_ble_eq_true rfl⟩ ⟨by decide, by decide⟩) hS (fun k hk q ce H locs hP hS hce hcv hcl => ?_) (fun v hv => by cases hv)
    cases hk
    by_cases hk0 : k2 = 1
    · subst hk0
      rw [if_pos rfl] at h
      refine vx_catch (name := "java/lang/IllegalArgumentException") hown [] ⟨0, 16, 19, 13⟩ [⟨0, 16, 23, 19⟩] ht (fun z hz => by cases hz) (by decide) (by decide) (hts _ q_803) (hX.2.2.2.1.use q_813 _) hce hcv hcl ?_
      refine lv_astore (lv' := [(7, .ref q), (0, .ref (adr G 0)), (1, .int a1), (2, .int a2), (3, .int a3), (4, .int a4), (5, .int a5), (6, .ref (adr G 51))]) hx hb dL_addNote_19 hl (by decide) rfl (fun ls hl => ?_)
      refine lv_iconst (v := 1) hx hb dL_addNote_21 rfl ?_
      exact hy_iret (T := (Zu1, T.2)) hx hb hr hlocks hP hS (by decide) (by decide) (by rw [← (Option.some.inj h)] <;> rfl) dL_addNote_22
    · rw [if_neg hk0] at h
      by_cases hk1 : k2 = 2
      · subst hk1
        rw [if_pos rfl] at h
        refine vx_catch (name := "java/lang/IllegalStateException") hown [⟨0, 16, 19, 13⟩] ⟨0, 16, 23, 19⟩ [] ht (fun z hz => by
      rcases List.mem_cons.mp hz with rfl | hz
      · exact Or.inr ⟨by decide, _, hts _ q_803, hN 2 1 (by decide) (by decide) (by decide)⟩
      · cases hz) (by decide) (by decide) (hts _ q_895) (hX.2.2.2.1.use q_905 _) hce hcv hcl ?_
        refine lv_astore (lv' := [(7, .ref q), (0, .ref (adr G 0)), (1, .int a1), (2, .int a2), (3, .int a3), (4, .int a4), (5, .int a5), (6, .ref (adr G 51))]) hx hb dL_addNote_23 hl (by decide) rfl (fun ls hl => ?_)
        refine lv_iconst (v := 2) hx hb dL_addNote_25 rfl ?_
        exact hy_iret (T := (Zu1, T.2)) hx hb hr hlocks hP hS (by decide) (by decide) (by rw [← (Option.some.inj h)] <;> rfl) dL_addNote_26
      · rw [if_neg hk1] at h
        cases h
  · refine hy_retX (ou := (.inr (some (.int r3)), (Zu1, T.2))) (n := 0) (k := 0) (hy_rV (T := T) (ou := (.inr (some (.int r3)), (Zu1, T.2))) (As := [.int a1, .int a2, .int a3, .int a4, .int a5]) (rest := [.int 0, .ref (adr G 51)]) (n := 0) hx hb hml hown hts hX hP hS hl (c_Hp_addNote hlt T.2.1 T.2.2 a1 a2 a3 a4 a5 T.1 (res := (.inr r3, Zu1)) hu1) m_Hp_addNote q_896 (hy_recv hX hP 0 9 (by decide) rfl rfl) rfl rfl (Nat.le_of_ble_eq_true rfl) dL_addNote_11 ⟨Nat.le_of_ble_eq_true rfl, Nat.le_of_ble_eq_true rfl⟩ ⟨Nat.zero_le _, Nat.zero_le _⟩) hS (fun k hk => by cases hk) (fun v hv H locs hP hS => ?_)
    cases hv
    refine lv_i2l (v := r3.toInt64) hx hb dL_addNote_14 rfl ?_
    refine hy_last (T := (Zu1, T.2)) (T2 := (wTL (Zu1, T.2) 51 0 r3.toInt64)) hx hb hX hP hS (by decide) rfl dL_addNote_15 (fun H locs hP hS => ?_)
    obtain ⟨T4, hT4, h⟩ := hy_bind h
    rw [Option.some.inj hT4] at hP
    refine lv_goto (tgt := 27) hx hb dL_addNote_16 (by decide) ?_
    refine lv_iconst (v := 0) hx hb dL_addNote_27 rfl ?_
    exact hy_iret (T := T4) hx hb hr hlocks hP hS (by decide) (by decide) (by rw [← (Option.some.inj h)] <;> rfl) dL_addNote_28
set_option maxHeartbeats 1000000 in
set_option maxRecDepth 100000 in
theorem c_La_dropNote {l : Launch} {G : hyG} (hlt : l.stackTraces = false) (T : hyT) {res : (Int32 × hyT)} (h : La_dropNote T = some res) : hyC2 l yL_dropNote (.codeWith yL_dropNote cL_dropNote 3 (some .int) [(0, 8, 11, 19)]) 7 158 (1) G [.ref (adr G 0), .ref (adr G 51)] T (.inr (some (.int res.1)), res.2) := by
  refine hy_ofH2 (by decide +kernel) (Nat.le_of_ble_eq_true rfl) ?_
  intro p e s m below meth c hx hb hml hown hts hr hlocks ht hX hP hS hN ls hl
  have hl : lv_has ls 3 [(0, .ref (adr G 0)), (1, .ref (adr G 51))] := hl
  rw [La_dropNote] at h
  refine lv_aload_n hx hb dL_dropNote_0 rfl (lv_at hl 1 rfl) ?_
  refine lv_iconst (v := 0) hx hb dL_dropNote_1 rfl ?_
  refine lv_aload_n hx hb dL_dropNote_2 rfl (lv_at hl 0 rfl) ?_
  obtain ⟨u1, hu1, h⟩ := hy_bind h
  obtain ⟨u1, Zu1⟩ := u1
  rcases u1 with k2 | r3
  all_goals try dsimp only at h
  · refine hy_retX (ou := (.inl k2, (Zu1, T.2))) (n := 1) (k := 0) (hy_rV (T := T) (ou := (.inl k2, (Zu1, T.2))) (As := []) (rest := [.int 0, .ref (adr G 51)]) (n := 1) hx hb hml hown hts hX hP hS hl (c_Hp_dropNote hlt T.2.1 T.2.2 T.1 (res := (.inl k2, Zu1)) hu1) m_Hp_dropNote q_931 (hy_recv hX hP 0 9 (by decide) rfl rfl) rfl rfl (Nat.le_of_ble_eq_true rfl) dL_dropNote_3 ⟨Nat.le_of_ble_eq_true rfl, Nat.le_of_ble_eq_true rfl⟩ ⟨by decide, by decide⟩) hS (fun k hk q ce H locs hP hS hce hcv hcl => ?_) (fun v hv => by cases hv)
    cases hk
    by_cases hk0 : k2 = 2
    · subst hk0
      rw [if_pos rfl] at h
      refine vx_catch (name := "java/lang/IllegalStateException") hown [] ⟨0, 8, 11, 19⟩ [] ht (fun z hz => by cases hz) (by decide) (by decide) (hts _ q_895) (hX.2.2.2.1.use q_905 _) hce hcv hcl ?_
      refine lv_astore_n (lv' := [(2, .ref q), (0, .ref (adr G 0)), (1, .ref (adr G 51))]) hx hb dL_dropNote_11 rfl hl (by decide) rfl (fun ls hl => ?_)
      refine lv_iconst (v := 1) hx hb dL_dropNote_12 rfl ?_
      exact hy_iret (T := (Zu1, T.2)) hx hb hr hlocks hP hS (by decide) (by decide) (by rw [← (Option.some.inj h)] <;> rfl) dL_dropNote_13
    · rw [if_neg hk0] at h
      cases h
  · refine hy_retX (ou := (.inr (some (.int r3)), (Zu1, T.2))) (n := 0) (k := 0) (hy_rV (T := T) (ou := (.inr (some (.int r3)), (Zu1, T.2))) (As := []) (rest := [.int 0, .ref (adr G 51)]) (n := 0) hx hb hml hown hts hX hP hS hl (c_Hp_dropNote hlt T.2.1 T.2.2 T.1 (res := (.inr r3, Zu1)) hu1) m_Hp_dropNote q_931 (hy_recv hX hP 0 9 (by decide) rfl rfl) rfl rfl (Nat.le_of_ble_eq_true rfl) dL_dropNote_3 ⟨Nat.le_of_ble_eq_true rfl, Nat.le_of_ble_eq_true rfl⟩ ⟨Nat.zero_le _, Nat.zero_le _⟩) hS (fun k hk => by cases hk) (fun v hv H locs hP hS => ?_)
    cases hv
    refine lv_i2l (v := r3.toInt64) hx hb dL_dropNote_6 rfl ?_
    refine hy_last (T := (Zu1, T.2)) (T2 := (wTL (Zu1, T.2) 51 0 r3.toInt64)) hx hb hX hP hS (by decide) rfl dL_dropNote_7 (fun H locs hP hS => ?_)
    obtain ⟨T4, hT4, h⟩ := hy_bind h
    rw [Option.some.inj hT4] at hP
    refine lv_goto (tgt := 14) hx hb dL_dropNote_8 (by decide) ?_
    refine lv_iconst (v := 0) hx hb dL_dropNote_14 rfl ?_
    exact hy_iret (T := T4) hx hb hr hlocks hP hS (by decide) (by decide) (by rw [← (Option.some.inj h)] <;> rfl) dL_dropNote_15
set_option maxHeartbeats 1000000 in
set_option maxRecDepth 100000 in
theorem c_La_setPitch {l : Launch} {G : hyG} (hlt : l.stackTraces = false) (a1 : Int32) (a2 : Int32) (a3 : Int32) (T : hyT) {res : (Int32 × hyT)} (h : La_setPitch a1 a2 a3 T = some res) : hyC2 l yL_setPitch (.codeWith yL_setPitch cL_setPitch 6 (some .int) [(0, 12, 15, 29), (0, 12, 19, 13)]) 9 156 (1) G [.ref (adr G 0), .int a1, .int a2, .int a3, .ref (adr G 51)] T (.inr (some (.int res.1)), res.2) := by
  refine hy_ofH2 (by decide +kernel) (Nat.le_of_ble_eq_true rfl) ?_
  intro p e s m below meth c hx hb hml hown hts hr hlocks ht hX hP hS hN ls hl
  have hl : lv_has ls 6 [(0, .ref (adr G 0)), (1, .int a1), (2, .int a2), (3, .int a3), (4, .ref (adr G 51))] := hl
  rw [La_setPitch] at h
  refine lv_aload hx hb dL_setPitch_0 (lv_at hl 4 rfl) ?_
  refine lv_iconst (v := 0) hx hb dL_setPitch_2 rfl ?_
  refine lv_aload_n hx hb dL_setPitch_3 rfl (lv_at hl 0 rfl) ?_
  refine lv_iload_n hx hb dL_setPitch_4 rfl (lv_at hl 1 rfl) ?_
  refine lv_iload_n hx hb dL_setPitch_5 rfl (lv_at hl 2 rfl) ?_
  refine lv_iload_n hx hb dL_setPitch_6 rfl (lv_at hl 3 rfl) ?_
  obtain ⟨u1, hu1⟩ : ∃ z, Hp_setPitch a1 a2 a3 T.1 = z := ⟨_, rfl⟩
  rw [hu1] at h
  obtain ⟨u1, Zu1⟩ := u1
  rcases u1 with k2 | r3
  all_goals try dsimp only at h
  · refine hy_retX (ou := (.inl k2, (Zu1, T.2))) (n := 1) (k := 0) (hy_rV (T := T) (ou := (.inl k2, (Zu1, T.2))) (As := [.int a1, .int a2, .int a3]) (rest := [.int 0, .ref (adr G 51)]) (n := 1) hx hb hml hown hts hX hP hS hl (c_Hp_setPitch hlt T.2.1 T.2.2 a1 a2 a3 T.1 (res := (.inl k2, Zu1)) hu1) m_Hp_setPitch q_948 (hy_recv hX hP 0 9 (by decide) rfl rfl) rfl rfl (Nat.le_of_ble_eq_true rfl) dL_setPitch_7 ⟨Nat.le_of_ble_eq_true rfl, Nat.le_of_ble_eq_true rfl⟩ ⟨by decide, by decide⟩) hS (fun k hk q ce H locs hP hS hce hcv hcl => ?_) (fun v hv => by cases hv)
    cases hk
    by_cases hk0 : k2 = 3
    · subst hk0
      rw [if_pos rfl] at h
      refine vx_catch (name := "java/lang/IndexOutOfBoundsException") hown [] ⟨0, 12, 15, 29⟩ [⟨0, 12, 19, 13⟩] ht (fun z hz => by cases hz) (by decide) (by decide) (hts _ q_947) (hX.2.2.2.1.use q_957 _) hce hcv hcl ?_
      refine lv_astore (lv' := [(5, .ref q), (0, .ref (adr G 0)), (1, .int a1), (2, .int a2), (3, .int a3), (4, .ref (adr G 51))]) hx hb dL_setPitch_15 hl (by decide) rfl (fun ls hl => ?_)
      refine lv_iconst (v := 1) hx hb dL_setPitch_17 rfl ?_
      exact hy_iret (T := (Zu1, T.2)) hx hb hr hlocks hP hS (by decide) (by decide) (by rw [← (Option.some.inj h)] <;> rfl) dL_setPitch_18
    · rw [if_neg hk0] at h
      by_cases hk1 : k2 = 1
      · subst hk1
        rw [if_pos rfl] at h
        refine vx_catch (name := "java/lang/IllegalArgumentException") hown [⟨0, 12, 15, 29⟩] ⟨0, 12, 19, 13⟩ [] ht (fun z hz => by
      rcases List.mem_cons.mp hz with rfl | hz
      · exact Or.inr ⟨by decide, _, hts _ q_947, hN 1 3 (by decide) (by decide) (by decide)⟩
      · cases hz) (by decide) (by decide) (hts _ q_803) (hX.2.2.2.1.use q_813 _) hce hcv hcl ?_
        refine lv_astore (lv' := [(5, .ref q), (0, .ref (adr G 0)), (1, .int a1), (2, .int a2), (3, .int a3), (4, .ref (adr G 51))]) hx hb dL_setPitch_19 hl (by decide) rfl (fun ls hl => ?_)
        refine lv_iconst (v := 2) hx hb dL_setPitch_21 rfl ?_
        exact hy_iret (T := (Zu1, T.2)) hx hb hr hlocks hP hS (by decide) (by decide) (by rw [← (Option.some.inj h)] <;> rfl) dL_setPitch_22
      · rw [if_neg hk1] at h
        cases h
  · refine hy_retX (ou := (.inr (some (.int r3)), (Zu1, T.2))) (n := 0) (k := 0) (hy_rV (T := T) (ou := (.inr (some (.int r3)), (Zu1, T.2))) (As := [.int a1, .int a2, .int a3]) (rest := [.int 0, .ref (adr G 51)]) (n := 0) hx hb hml hown hts hX hP hS hl (c_Hp_setPitch hlt T.2.1 T.2.2 a1 a2 a3 T.1 (res := (.inr r3, Zu1)) hu1) m_Hp_setPitch q_948 (hy_recv hX hP 0 9 (by decide) rfl rfl) rfl rfl (Nat.le_of_ble_eq_true rfl) dL_setPitch_7 ⟨Nat.le_of_ble_eq_true rfl, Nat.le_of_ble_eq_true rfl⟩ ⟨Nat.zero_le _, Nat.zero_le _⟩) hS (fun k hk => by cases hk) (fun v hv H locs hP hS => ?_)
    cases hv
    refine lv_i2l (v := r3.toInt64) hx hb dL_setPitch_10 rfl ?_
    refine hy_last (T := (Zu1, T.2)) (T2 := (wTL (Zu1, T.2) 51 0 r3.toInt64)) hx hb hX hP hS (by decide) rfl dL_setPitch_11 (fun H locs hP hS => ?_)
    obtain ⟨T4, hT4, h⟩ := hy_bind h
    rw [Option.some.inj hT4] at hP
    refine lv_goto (tgt := 23) hx hb dL_setPitch_12 (by decide) ?_
    refine lv_iconst (v := 0) hx hb dL_setPitch_23 rfl ?_
    exact hy_iret (T := T4) hx hb hr hlocks hP hS (by decide) (by decide) (by rw [← (Option.some.inj h)] <;> rfl) dL_setPitch_24
set_option maxHeartbeats 1000000 in
set_option maxRecDepth 100000 in
theorem c_La_mark {l : Launch} {G : hyG} (hlt : l.stackTraces = false) (a1 : Int32) (a2 : Bool) (a3 : Bool) (T : hyT) {res : (Int32 × hyT)} (h : La_mark a1 a2 a3 T = some res) : hyC2 l yL_mark (.codeWith yL_mark cL_mark 6 (some .int) [(0, 12, 15, 29)]) 8 161 (1) G [.ref (adr G 0), .int a1, .int (bI a2), .int (bI a3), .ref (adr G 51)] T (.inr (some (.int res.1)), res.2) := by
  refine hy_ofH2 (by decide +kernel) (Nat.le_of_ble_eq_true rfl) ?_
  intro p e s m below meth c hx hb hml hown hts hr hlocks ht hX hP hS hN ls hl
  have hl : lv_has ls 6 [(0, .ref (adr G 0)), (1, .int a1), (2, .int (bI a2)), (3, .int (bI a3)), (4, .ref (adr G 51))] := hl
  rw [La_mark] at h
  refine lv_aload hx hb dL_mark_0 (lv_at hl 4 rfl) ?_
  refine lv_iconst (v := 0) hx hb dL_mark_2 rfl ?_
  refine lv_aload_n hx hb dL_mark_3 rfl (lv_at hl 0 rfl) ?_
  refine lv_iload_n hx hb dL_mark_4 rfl (lv_at hl 1 rfl) ?_
  refine lv_iload_n hx hb dL_mark_5 rfl (lv_at hl 2 rfl) ?_
  refine lv_iload_n hx hb dL_mark_6 rfl (lv_at hl 3 rfl) ?_
  obtain ⟨u1, hu1, h⟩ := hy_bind h
  obtain ⟨u1, Zu1⟩ := u1
  rcases u1 with k2 | r3
  all_goals try dsimp only at h
  · refine hy_retX (ou := (.inl k2, (Zu1, T.2))) (n := 1) (k := 0) (hy_rV (T := T) (ou := (.inl k2, (Zu1, T.2))) (As := [.int a1, .int (bI a2), .int (bI a3)]) (rest := [.int 0, .ref (adr G 51)]) (n := 1) hx hb hml hown hts hX hP hS hl (c_Hp_mark hlt T.2.1 T.2.2 a1 a2 a3 T.1 (res := (.inl k2, Zu1)) hu1) m_Hp_mark q_975 (hy_recv hX hP 0 9 (by decide) rfl rfl) rfl rfl (Nat.le_of_ble_eq_true rfl) dL_mark_7 ⟨Nat.le_of_ble_eq_true rfl, Nat.le_of_ble_eq_true rfl⟩ ⟨by decide, by decide⟩) hS (fun k hk q ce H locs hP hS hce hcv hcl => ?_) (fun v hv => by cases hv)
    cases hk
    by_cases hk0 : k2 = 3
    · subst hk0
      rw [if_pos rfl] at h
      refine vx_catch (name := "java/lang/IndexOutOfBoundsException") hown [] ⟨0, 12, 15, 29⟩ [] ht (fun z hz => by cases hz) (by decide) (by decide) (hts _ q_947) (hX.2.2.2.1.use q_957 _) hce hcv hcl ?_
      refine lv_astore (lv' := [(5, .ref q), (0, .ref (adr G 0)), (1, .int a1), (2, .int (bI a2)), (3, .int (bI a3)), (4, .ref (adr G 51))]) hx hb dL_mark_15 hl (by decide) rfl (fun ls hl => ?_)
      refine lv_iconst (v := 1) hx hb dL_mark_17 rfl ?_
      exact hy_iret (T := (Zu1, T.2)) hx hb hr hlocks hP hS (by decide) (by decide) (by rw [← (Option.some.inj h)] <;> rfl) dL_mark_18
    · rw [if_neg hk0] at h
      cases h
  · refine hy_retX (ou := (.inr (some (.int r3)), (Zu1, T.2))) (n := 0) (k := 0) (hy_rV (T := T) (ou := (.inr (some (.int r3)), (Zu1, T.2))) (As := [.int a1, .int (bI a2), .int (bI a3)]) (rest := [.int 0, .ref (adr G 51)]) (n := 0) hx hb hml hown hts hX hP hS hl (c_Hp_mark hlt T.2.1 T.2.2 a1 a2 a3 T.1 (res := (.inr r3, Zu1)) hu1) m_Hp_mark q_975 (hy_recv hX hP 0 9 (by decide) rfl rfl) rfl rfl (Nat.le_of_ble_eq_true rfl) dL_mark_7 ⟨Nat.le_of_ble_eq_true rfl, Nat.le_of_ble_eq_true rfl⟩ ⟨Nat.zero_le _, Nat.zero_le _⟩) hS (fun k hk => by cases hk) (fun v hv H locs hP hS => ?_)
    cases hv
    refine lv_i2l (v := r3.toInt64) hx hb dL_mark_10 rfl ?_
    refine hy_last (T := (Zu1, T.2)) (T2 := (wTL (Zu1, T.2) 51 0 r3.toInt64)) hx hb hX hP hS (by decide) rfl dL_mark_11 (fun H locs hP hS => ?_)
    obtain ⟨T4, hT4, h⟩ := hy_bind h
    rw [Option.some.inj hT4] at hP
    refine lv_goto (tgt := 19) hx hb dL_mark_12 (by decide) ?_
    refine lv_iconst (v := 0) hx hb dL_mark_19 rfl ?_
    exact hy_iret (T := T4) hx hb hr hlocks hP hS (by decide) (by decide) (by rw [← (Option.some.inj h)] <;> rfl) dL_mark_20
set_option maxHeartbeats 1000000 in
set_option maxRecDepth 100000 in
theorem c_La_setBars {l : Launch} {G : hyG} (hlt : l.stackTraces = false) (a1 : Int32) (a2 : Int32) (T : hyT) {res : (Int32 × hyT)} (h : La_setBars a1 a2 T = some res) : hyC2 l yL_setBars (.codeWith yL_setBars cL_setBars 5 (some .int) [(0, 10, 13, 13)]) 8 135 (1) G [.ref (adr G 0), .int a1, .int a2, .ref (adr G 51)] T (.inr (some (.int res.1)), res.2) := by
  refine hy_ofH2 (by decide +kernel) (Nat.le_of_ble_eq_true rfl) ?_
  intro p e s m below meth c hx hb hml hown hts hr hlocks ht hX hP hS hN ls hl
  have hl : lv_has ls 5 [(0, .ref (adr G 0)), (1, .int a1), (2, .int a2), (3, .ref (adr G 51))] := hl
  rw [La_setBars] at h
  refine lv_aload_n hx hb dL_setBars_0 rfl (lv_at hl 3 rfl) ?_
  refine lv_iconst (v := 0) hx hb dL_setBars_1 rfl ?_
  refine lv_aload_n hx hb dL_setBars_2 rfl (lv_at hl 0 rfl) ?_
  refine lv_iload_n hx hb dL_setBars_3 rfl (lv_at hl 1 rfl) ?_
  refine lv_iload_n hx hb dL_setBars_4 rfl (lv_at hl 2 rfl) ?_
  obtain ⟨u1, hu1⟩ : ∃ z, Hp_setBars a1 a2 T.1 = z := ⟨_, rfl⟩
  rw [hu1] at h
  obtain ⟨u1, Zu1⟩ := u1
  rcases u1 with k2 | r3
  all_goals try dsimp only at h
  · refine hy_retX (ou := (.inl k2, (Zu1, T.2))) (n := 1) (k := 0) (hy_rV (T := T) (ou := (.inl k2, (Zu1, T.2))) (As := [.int a1, .int a2]) (rest := [.int 0, .ref (adr G 51)]) (n := 1) hx hb hml hown hts hX hP hS hl (c_Hp_setBars hlt T.2.1 T.2.2 a1 a2 T.1 (res := (.inl k2, Zu1)) hu1) m_Hp_setBars q_983 (hy_recv hX hP 0 9 (by decide) rfl rfl) rfl rfl (Nat.le_of_ble_eq_true rfl) dL_setBars_5 ⟨Nat.le_of_ble_eq_true rfl, Nat.le_of_ble_eq_true rfl⟩ ⟨by decide, by decide⟩) hS (fun k hk q ce H locs hP hS hce hcv hcl => ?_) (fun v hv => by cases hv)
    cases hk
    by_cases hk0 : k2 = 1
    · subst hk0
      rw [if_pos rfl] at h
      refine vx_catch (name := "java/lang/IllegalArgumentException") hown [] ⟨0, 10, 13, 13⟩ [] ht (fun z hz => by cases hz) (by decide) (by decide) (hts _ q_803) (hX.2.2.2.1.use q_813 _) hce hcv hcl ?_
      refine lv_astore (lv' := [(4, .ref q), (0, .ref (adr G 0)), (1, .int a1), (2, .int a2), (3, .ref (adr G 51))]) hx hb dL_setBars_13 hl (by decide) rfl (fun ls hl => ?_)
      refine lv_iconst (v := 1) hx hb dL_setBars_15 rfl ?_
      exact hy_iret (T := (Zu1, T.2)) hx hb hr hlocks hP hS (by decide) (by decide) (by rw [← (Option.some.inj h)] <;> rfl) dL_setBars_16
    · rw [if_neg hk0] at h
      cases h
  · refine hy_retX (ou := (.inr (some (.int r3)), (Zu1, T.2))) (n := 0) (k := 0) (hy_rV (T := T) (ou := (.inr (some (.int r3)), (Zu1, T.2))) (As := [.int a1, .int a2]) (rest := [.int 0, .ref (adr G 51)]) (n := 0) hx hb hml hown hts hX hP hS hl (c_Hp_setBars hlt T.2.1 T.2.2 a1 a2 T.1 (res := (.inr r3, Zu1)) hu1) m_Hp_setBars q_983 (hy_recv hX hP 0 9 (by decide) rfl rfl) rfl rfl (Nat.le_of_ble_eq_true rfl) dL_setBars_5 ⟨Nat.le_of_ble_eq_true rfl, Nat.le_of_ble_eq_true rfl⟩ ⟨Nat.zero_le _, Nat.zero_le _⟩) hS (fun k hk => by cases hk) (fun v hv H locs hP hS => ?_)
    cases hv
    refine lv_i2l (v := r3.toInt64) hx hb dL_setBars_8 rfl ?_
    refine hy_last (T := (Zu1, T.2)) (T2 := (wTL (Zu1, T.2) 51 0 r3.toInt64)) hx hb hX hP hS (by decide) rfl dL_setBars_9 (fun H locs hP hS => ?_)
    obtain ⟨T4, hT4, h⟩ := hy_bind h
    rw [Option.some.inj hT4] at hP
    refine lv_goto (tgt := 17) hx hb dL_setBars_10 (by decide) ?_
    refine lv_iconst (v := 0) hx hb dL_setBars_17 rfl ?_
    exact hy_iret (T := T4) hx hb hr hlocks hP hS (by decide) (by decide) (by rw [← (Option.some.inj h)] <;> rfl) dL_setBars_18
set_option maxHeartbeats 1000000 in
set_option maxRecDepth 100000 in
theorem c_La_repeat {l : Launch} {G : hyG} (hlt : l.stackTraces = false) (a1 : Int32) (a2 : Int32) (a3 : Int32) (T : hyT) {res : (Int32 × hyT)} (h : La_repeat a1 a2 a3 T = some res) : hyC2 l yL_repeat (.codeWith yL_repeat cL_repeat 6 (some .int) [(0, 12, 15, 29), (0, 12, 19, 13), (0, 12, 23, 19)]) 8 161 (1) G [.ref (adr G 0), .int a1, .int a2, .int a3, .ref (adr G 51)] T (.inr (some (.int res.1)), res.2) := by
  refine hy_ofH2 (by decide +kernel) (Nat.le_of_ble_eq_true rfl) ?_
  intro p e s m below meth c hx hb hml hown hts hr hlocks ht hX hP hS hN ls hl
  have hl : lv_has ls 6 [(0, .ref (adr G 0)), (1, .int a1), (2, .int a2), (3, .int a3), (4, .ref (adr G 51))] := hl
  rw [La_repeat] at h
  refine lv_aload hx hb dL_repeat_0 (lv_at hl 4 rfl) ?_
  refine lv_iconst (v := 0) hx hb dL_repeat_2 rfl ?_
  refine lv_aload_n hx hb dL_repeat_3 rfl (lv_at hl 0 rfl) ?_
  refine lv_iload_n hx hb dL_repeat_4 rfl (lv_at hl 1 rfl) ?_
  refine lv_iload_n hx hb dL_repeat_5 rfl (lv_at hl 2 rfl) ?_
  refine lv_iload_n hx hb dL_repeat_6 rfl (lv_at hl 3 rfl) ?_
  obtain ⟨u1, hu1, h⟩ := hy_bind h
  obtain ⟨u1, Zu1⟩ := u1
  rcases u1 with k2 | r3
  all_goals try dsimp only at h
  · refine hy_retX (ou := (.inl k2, (Zu1, T.2))) (n := 1) (k := 0) (hy_rV (T := T) (ou := (.inl k2, (Zu1, T.2))) (As := [.int a1, .int a2, .int a3]) (rest := [.int 0, .ref (adr G 51)]) (n := 1) hx hb hml hown hts hX hP hS hl (c_Hp_repeat hlt T.2.1 T.2.2 a1 a2 a3 T.1 (res := (.inl k2, Zu1)) hu1) m_Hp_repeat q_990 (hy_recv hX hP 0 9 (by decide) rfl rfl) rfl rfl (Nat.le_of_ble_eq_true rfl) dL_repeat_7 ⟨Nat.le_of_ble_eq_true rfl, Nat.le_of_ble_eq_true rfl⟩ ⟨by decide, by decide⟩) hS (fun k hk q ce H locs hP hS hce hcv hcl => ?_) (fun v hv => by cases hv)
    cases hk
    by_cases hk0 : k2 = 3
    · subst hk0
      rw [if_pos rfl] at h
      refine vx_catch (name := "java/lang/IndexOutOfBoundsException") hown [] ⟨0, 12, 15, 29⟩ [⟨0, 12, 19, 13⟩, ⟨0, 12, 23, 19⟩] ht (fun z hz => by cases hz) (by decide) (by decide) (hts _ q_947) (hX.2.2.2.1.use q_957 _) hce hcv hcl ?_
      refine lv_astore (lv' := [(5, .ref q), (0, .ref (adr G 0)), (1, .int a1), (2, .int a2), (3, .int a3), (4, .ref (adr G 51))]) hx hb dL_repeat_15 hl (by decide) rfl (fun ls hl => ?_)
      refine lv_iconst (v := 1) hx hb dL_repeat_17 rfl ?_
      exact hy_iret (T := (Zu1, T.2)) hx hb hr hlocks hP hS (by decide) (by decide) (by rw [← (Option.some.inj h)] <;> rfl) dL_repeat_18
    · rw [if_neg hk0] at h
      by_cases hk1 : k2 = 1
      · subst hk1
        rw [if_pos rfl] at h
        refine vx_catch (name := "java/lang/IllegalArgumentException") hown [⟨0, 12, 15, 29⟩] ⟨0, 12, 19, 13⟩ [⟨0, 12, 23, 19⟩] ht (fun z hz => by
      rcases List.mem_cons.mp hz with rfl | hz
      · exact Or.inr ⟨by decide, _, hts _ q_947, hN 1 3 (by decide) (by decide) (by decide)⟩
      · cases hz) (by decide) (by decide) (hts _ q_803) (hX.2.2.2.1.use q_813 _) hce hcv hcl ?_
        refine lv_astore (lv' := [(5, .ref q), (0, .ref (adr G 0)), (1, .int a1), (2, .int a2), (3, .int a3), (4, .ref (adr G 51))]) hx hb dL_repeat_19 hl (by decide) rfl (fun ls hl => ?_)
        refine lv_iconst (v := 2) hx hb dL_repeat_21 rfl ?_
        exact hy_iret (T := (Zu1, T.2)) hx hb hr hlocks hP hS (by decide) (by decide) (by rw [← (Option.some.inj h)] <;> rfl) dL_repeat_22
      · rw [if_neg hk1] at h
        by_cases hk2 : k2 = 2
        · subst hk2
          rw [if_pos rfl] at h
          refine vx_catch (name := "java/lang/IllegalStateException") hown [⟨0, 12, 15, 29⟩, ⟨0, 12, 19, 13⟩] ⟨0, 12, 23, 19⟩ [] ht (fun z hz => by
      rcases List.mem_cons.mp hz with rfl | hz
      · exact Or.inr ⟨by decide, _, hts _ q_947, hN 2 3 (by decide) (by decide) (by decide)⟩
      · rcases List.mem_cons.mp hz with rfl | hz
        · exact Or.inr ⟨by decide, _, hts _ q_803, hN 2 1 (by decide) (by decide) (by decide)⟩
        · cases hz) (by decide) (by decide) (hts _ q_895) (hX.2.2.2.1.use q_905 _) hce hcv hcl ?_
          refine lv_astore (lv' := [(5, .ref q), (0, .ref (adr G 0)), (1, .int a1), (2, .int a2), (3, .int a3), (4, .ref (adr G 51))]) hx hb dL_repeat_23 hl (by decide) rfl (fun ls hl => ?_)
          refine lv_iconst (v := 3) hx hb dL_repeat_25 rfl ?_
          exact hy_iret (T := (Zu1, T.2)) hx hb hr hlocks hP hS (by decide) (by decide) (by rw [← (Option.some.inj h)] <;> rfl) dL_repeat_26
        · rw [if_neg hk2] at h
          cases h
  · refine hy_retX (ou := (.inr (some (.int r3)), (Zu1, T.2))) (n := 0) (k := 0) (hy_rV (T := T) (ou := (.inr (some (.int r3)), (Zu1, T.2))) (As := [.int a1, .int a2, .int a3]) (rest := [.int 0, .ref (adr G 51)]) (n := 0) hx hb hml hown hts hX hP hS hl (c_Hp_repeat hlt T.2.1 T.2.2 a1 a2 a3 T.1 (res := (.inr r3, Zu1)) hu1) m_Hp_repeat q_990 (hy_recv hX hP 0 9 (by decide) rfl rfl) rfl rfl (Nat.le_of_ble_eq_true rfl) dL_repeat_7 ⟨Nat.le_of_ble_eq_true rfl, Nat.le_of_ble_eq_true rfl⟩ ⟨Nat.zero_le _, Nat.zero_le _⟩) hS (fun k hk => by cases hk) (fun v hv H locs hP hS => ?_)
    cases hv
    refine lv_i2l (v := r3.toInt64) hx hb dL_repeat_10 rfl ?_
    refine hy_last (T := (Zu1, T.2)) (T2 := (wTL (Zu1, T.2) 51 0 r3.toInt64)) hx hb hX hP hS (by decide) rfl dL_repeat_11 (fun H locs hP hS => ?_)
    obtain ⟨T4, hT4, h⟩ := hy_bind h
    rw [Option.some.inj hT4] at hP
    refine lv_goto (tgt := 27) hx hb dL_repeat_12 (by decide) ?_
    refine lv_iconst (v := 0) hx hb dL_repeat_27 rfl ?_
    exact hy_iret (T := T4) hx hb hr hlocks hP hS (by decide) (by decide) (by rw [← (Option.some.inj h)] <;> rfl) dL_repeat_28
set_option maxHeartbeats 1000000 in
set_option maxRecDepth 100000 in
theorem c_La_transpose {l : Launch} {G : hyG} (hlt : l.stackTraces = false) (a1 : Int32) (T : hyT) {res : (Int32 × hyT)} (h : La_transpose a1 T = some res) : hyC2 l yL_transpose (.codeWith yL_transpose cL_transpose 4 (some .int) [(0, 9, 12, 13), (0, 9, 15, 19)]) 8 133 (1) G [.ref (adr G 0), .int a1, .ref (adr G 51)] T (.inr (some (.int res.1)), res.2) := by
  refine hy_ofH2 (by decide +kernel) (Nat.le_of_ble_eq_true rfl) ?_
  intro p e s m below meth c hx hb hml hown hts hr hlocks ht hX hP hS hN ls hl
  have hl : lv_has ls 4 [(0, .ref (adr G 0)), (1, .int a1), (2, .ref (adr G 51))] := hl
  rw [La_transpose] at h
  refine lv_aload_n hx hb dL_transpose_0 rfl (lv_at hl 2 rfl) ?_
  refine lv_iconst (v := 0) hx hb dL_transpose_1 rfl ?_
  refine lv_aload_n hx hb dL_transpose_2 rfl (lv_at hl 0 rfl) ?_
  refine lv_iload_n hx hb dL_transpose_3 rfl (lv_at hl 1 rfl) ?_
  obtain ⟨u1, hu1, h⟩ := hy_bind h
  obtain ⟨u1, Zu1⟩ := u1
  rcases u1 with k2 | r3
  all_goals try dsimp only at h
  · refine hy_retX (ou := (.inl k2, (Zu1, T.2))) (n := 1) (k := 0) (hy_rV (T := T) (ou := (.inl k2, (Zu1, T.2))) (As := [.int a1]) (rest := [.int 0, .ref (adr G 51)]) (n := 1) hx hb hml hown hts hX hP hS hl (c_Hp_transpose hlt T.2.1 T.2.2 a1 T.1 (res := (.inl k2, Zu1)) hu1) m_Hp_transpose q_1004 (hy_recv hX hP 0 9 (by decide) rfl rfl) rfl rfl (Nat.le_of_ble_eq_true rfl) dL_transpose_4 ⟨Nat.le_of_ble_eq_true rfl, Nat.le_of_ble_eq_true rfl⟩ ⟨by decide, by decide⟩) hS (fun k hk q ce H locs hP hS hce hcv hcl => ?_) (fun v hv => by cases hv)
    cases hk
    by_cases hk0 : k2 = 1
    · subst hk0
      rw [if_pos rfl] at h
      refine vx_catch (name := "java/lang/IllegalArgumentException") hown [] ⟨0, 9, 12, 13⟩ [⟨0, 9, 15, 19⟩] ht (fun z hz => by cases hz) (by decide) (by decide) (hts _ q_803) (hX.2.2.2.1.use q_813 _) hce hcv hcl ?_
      refine lv_astore_n (lv' := [(3, .ref q), (0, .ref (adr G 0)), (1, .int a1), (2, .ref (adr G 51))]) hx hb dL_transpose_12 rfl hl (by decide) rfl (fun ls hl => ?_)
      refine lv_iconst (v := 1) hx hb dL_transpose_13 rfl ?_
      exact hy_iret (T := (Zu1, T.2)) hx hb hr hlocks hP hS (by decide) (by decide) (by rw [← (Option.some.inj h)] <;> rfl) dL_transpose_14
    · rw [if_neg hk0] at h
      by_cases hk1 : k2 = 2
      · subst hk1
        rw [if_pos rfl] at h
        refine vx_catch (name := "java/lang/IllegalStateException") hown [⟨0, 9, 12, 13⟩] ⟨0, 9, 15, 19⟩ [] ht (fun z hz => by
      rcases List.mem_cons.mp hz with rfl | hz
      · exact Or.inr ⟨by decide, _, hts _ q_803, hN 2 1 (by decide) (by decide) (by decide)⟩
      · cases hz) (by decide) (by decide) (hts _ q_895) (hX.2.2.2.1.use q_905 _) hce hcv hcl ?_
        refine lv_astore_n (lv' := [(3, .ref q), (0, .ref (adr G 0)), (1, .int a1), (2, .ref (adr G 51))]) hx hb dL_transpose_15 rfl hl (by decide) rfl (fun ls hl => ?_)
        refine lv_iconst (v := 2) hx hb dL_transpose_16 rfl ?_
        exact hy_iret (T := (Zu1, T.2)) hx hb hr hlocks hP hS (by decide) (by decide) (by rw [← (Option.some.inj h)] <;> rfl) dL_transpose_17
      · rw [if_neg hk1] at h
        cases h
  · refine hy_retX (ou := (.inr (some (.int r3)), (Zu1, T.2))) (n := 0) (k := 0) (hy_rV (T := T) (ou := (.inr (some (.int r3)), (Zu1, T.2))) (As := [.int a1]) (rest := [.int 0, .ref (adr G 51)]) (n := 0) hx hb hml hown hts hX hP hS hl (c_Hp_transpose hlt T.2.1 T.2.2 a1 T.1 (res := (.inr r3, Zu1)) hu1) m_Hp_transpose q_1004 (hy_recv hX hP 0 9 (by decide) rfl rfl) rfl rfl (Nat.le_of_ble_eq_true rfl) dL_transpose_4 ⟨Nat.le_of_ble_eq_true rfl, Nat.le_of_ble_eq_true rfl⟩ ⟨Nat.zero_le _, Nat.zero_le _⟩) hS (fun k hk => by cases hk) (fun v hv H locs hP hS => ?_)
    cases hv
    refine lv_i2l (v := r3.toInt64) hx hb dL_transpose_7 rfl ?_
    refine hy_last (T := (Zu1, T.2)) (T2 := (wTL (Zu1, T.2) 51 0 r3.toInt64)) hx hb hX hP hS (by decide) rfl dL_transpose_8 (fun H locs hP hS => ?_)
    obtain ⟨T4, hT4, h⟩ := hy_bind h
    rw [Option.some.inj hT4] at hP
    refine lv_goto (tgt := 18) hx hb dL_transpose_9 (by decide) ?_
    refine lv_iconst (v := 0) hx hb dL_transpose_18 rfl ?_
    exact hy_iret (T := T4) hx hb hr hlocks hP hS (by decide) (by decide) (by rw [← (Option.some.inj h)] <;> rfl) dL_transpose_19
set_option maxHeartbeats 1000000 in
set_option maxRecDepth 100000 in
theorem c_La_setWidth {l : Launch} {G : hyG} (hlt : l.stackTraces = false) (a1 : Int32) (T : hyT) {res : (Int32 × hyT)} (h : La_setWidth a1 T = some res) : hyC2 l yL_setWidth (.codeWith yL_setWidth cL_setWidth 4 (some .int) [(0, 9, 12, 13)]) 8 159 (1) G [.ref (adr G 0), .int a1, .ref (adr G 51)] T (.inr (some (.int res.1)), res.2) := by
  refine hy_ofH2 (by decide +kernel) (Nat.le_of_ble_eq_true rfl) ?_
  intro p e s m below meth c hx hb hml hown hts hr hlocks ht hX hP hS hN ls hl
  have hl : lv_has ls 4 [(0, .ref (adr G 0)), (1, .int a1), (2, .ref (adr G 51))] := hl
  rw [La_setWidth] at h
  refine lv_aload_n hx hb dL_setWidth_0 rfl (lv_at hl 2 rfl) ?_
  refine lv_iconst (v := 0) hx hb dL_setWidth_1 rfl ?_
  refine lv_aload_n hx hb dL_setWidth_2 rfl (lv_at hl 0 rfl) ?_
  refine lv_iload_n hx hb dL_setWidth_3 rfl (lv_at hl 1 rfl) ?_
  obtain ⟨u1, hu1, h⟩ := hy_bind h
  obtain ⟨u1, Zu1⟩ := u1
  rcases u1 with k2 | r3
  all_goals try dsimp only at h
  · refine hy_retX (ou := (.inl k2, (Zu1, T.2))) (n := 1) (k := 0) (hy_rV (T := T) (ou := (.inl k2, (Zu1, T.2))) (As := [.int a1]) (rest := [.int 0, .ref (adr G 51)]) (n := 1) hx hb hml hown hts hX hP hS hl (c_Hp_setWidth hlt T.2.1 T.2.2 a1 T.1 (res := (.inl k2, Zu1)) hu1) m_Hp_setWidth q_1020 (hy_recv hX hP 0 9 (by decide) rfl rfl) rfl rfl (Nat.le_of_ble_eq_true rfl) dL_setWidth_4 ⟨Nat.le_of_ble_eq_true rfl, Nat.le_of_ble_eq_true rfl⟩ ⟨by decide, by decide⟩) hS (fun k hk q ce H locs hP hS hce hcv hcl => ?_) (fun v hv => by cases hv)
    cases hk
    by_cases hk0 : k2 = 1
    · subst hk0
      rw [if_pos rfl] at h
      refine vx_catch (name := "java/lang/IllegalArgumentException") hown [] ⟨0, 9, 12, 13⟩ [] ht (fun z hz => by cases hz) (by decide) (by decide) (hts _ q_803) (hX.2.2.2.1.use q_813 _) hce hcv hcl ?_
      refine lv_astore_n (lv' := [(3, .ref q), (0, .ref (adr G 0)), (1, .int a1), (2, .ref (adr G 51))]) hx hb dL_setWidth_12 rfl hl (by decide) rfl (fun ls hl => ?_)
      refine lv_iconst (v := 1) hx hb dL_setWidth_13 rfl ?_
      exact hy_iret (T := (Zu1, T.2)) hx hb hr hlocks hP hS (by decide) (by decide) (by rw [← (Option.some.inj h)] <;> rfl) dL_setWidth_14
    · rw [if_neg hk0] at h
      cases h
  · refine hy_retX (ou := (.inr (some (.int r3)), (Zu1, T.2))) (n := 0) (k := 0) (hy_rV (T := T) (ou := (.inr (some (.int r3)), (Zu1, T.2))) (As := [.int a1]) (rest := [.int 0, .ref (adr G 51)]) (n := 0) hx hb hml hown hts hX hP hS hl (c_Hp_setWidth hlt T.2.1 T.2.2 a1 T.1 (res := (.inr r3, Zu1)) hu1) m_Hp_setWidth q_1020 (hy_recv hX hP 0 9 (by decide) rfl rfl) rfl rfl (Nat.le_of_ble_eq_true rfl) dL_setWidth_4 ⟨Nat.le_of_ble_eq_true rfl, Nat.le_of_ble_eq_true rfl⟩ ⟨Nat.zero_le _, Nat.zero_le _⟩) hS (fun k hk => by cases hk) (fun v hv H locs hP hS => ?_)
    cases hv
    refine lv_i2l (v := r3.toInt64) hx hb dL_setWidth_7 rfl ?_
    refine hy_last (T := (Zu1, T.2)) (T2 := (wTL (Zu1, T.2) 51 0 r3.toInt64)) hx hb hX hP hS (by decide) rfl dL_setWidth_8 (fun H locs hP hS => ?_)
    obtain ⟨T4, hT4, h⟩ := hy_bind h
    rw [Option.some.inj hT4] at hP
    refine lv_goto (tgt := 15) hx hb dL_setWidth_9 (by decide) ?_
    refine lv_iconst (v := 0) hx hb dL_setWidth_15 rfl ?_
    exact hy_iret (T := T4) hx hb hr hlocks hP hS (by decide) (by decide) (by rw [← (Option.some.inj h)] <;> rfl) dL_setWidth_16
