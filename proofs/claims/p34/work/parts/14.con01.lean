set_option maxHeartbeats 1000000 in
set_option maxRecDepth 100000 in
theorem c_Co_widen {l : Launch} {G : hyG} (Mr Mo : hyM) (a1 : Int32) (a2 : Int32) (M : hyM) {res : hyM} (h : Co_widen a1 a2 M = res) : hyC l yX2_widen (.code yX2_widen cX2_widen 3 none) 2 42 (0) G [.ref (adr G 21), .int a1, .int a2] (M, Mr, Mo) (.inr none, (res, Mr, Mo)) := by
  refine hy_of (by decide +kernel) (Nat.le_of_ble_eq_true rfl) ?_
  intro p e s m below meth c hx hb hml hown hts hr hlocks ht hX hP hS ls hl
  have hl : lv_has ls 3 [(0, .ref (adr G 21)), (1, .int a1), (2, .int a2)] := hl
  rw [Co_widen] at h
  refine lv_aload_n hx hb dX2_widen_0 rfl (lv_at hl 0 rfl) ?_
  refine hy_get (T := (M, Mr, Mo)) (o := 21) (k := 0) (v := .ref (adr G 22)) hx hb hown hts hX hP (by decide) rfl rfl inX2g (by decide) q_242 rfl dX2_widen_1 ?_
  refine lv_iload_n hx hb dX2_widen_4 rfl (lv_at hl 1 rfl) ?_
  refine lv_aload_n hx hb dX2_widen_5 rfl (lv_at hl 0 rfl) ?_
  refine lv_iload_n hx hb dX2_widen_6 rfl (lv_at hl 1 rfl) ?_
  refine hy_ret (hy_rV0 (T := (M, Mr, Mo)) (v := some (.int (Co_widthOf a1 M))) (T2 := (M, Mr, Mo)) (As := [.int a1]) (rest := [.int a1, .ref (adr G 22)]) (n := 0) hx hb hml hown hts hX hP hS hl (c_Co_widthOf Mr Mo a1 M rfl) m_Co_widthOf q_538 (hy_recv hX hP 21 2 (by decide) rfl rfl) rfl rfl (Nat.le_of_ble_eq_true rfl) dX2_widen_7 ⟨Nat.le_of_ble_eq_true rfl, Nat.le_of_ble_eq_true rfl⟩ ⟨Nat.zero_le _, Nat.zero_le _⟩) hS (fun H locs hP hS => ?_)
  refine lv_iload_n hx hb dX2_widen_10 rfl (lv_at hl 2 rfl) ?_
  refine va_mmax hx hb (hml.trans hl.1.symm) hown (hts _ q_543) (hts _ q_532) (hts _ q_98) (hts _ q_533) (by decide) (Nat.le_of_ble_eq_true rfl) (Nat.zero_le _) (Nat.zero_le _) dX2_widen_11 ?_
  refine W.eq (g2 := F0 m 14 ls (.int (jmax (Co_widthOf a1 M) a2) :: _)) rfl ?_
  refine hy_ret (hy_rSN (T := (M, Mr, Mo)) (v := none) (T2 := ((putf M 22 40 a1 (jmax (Co_widthOf a1 M) a2)), Mr, Mo)) (As := [.ref (adr G 22), .int a1, .int (jmax (Co_widthOf a1 M) a2)]) (rest := []) (n := 0) hx hb hml hown hts hX hP hS hl (c_put Mr Mo 22 40 (by decide) (by decide) (fun _ _ => rfl) a1 (jmax (Co_widthOf a1 M) a2) M) m_Hp_put q_498 rfl rfl (Nat.le_of_ble_eq_true rfl) dX2_widen_14 ⟨Nat.le_of_ble_eq_true rfl, Nat.le_of_ble_eq_true rfl⟩ ⟨Nat.zero_le _, Nat.zero_le _⟩) hS (fun H locs hP hS => ?_)
  exact hy_vret (T := ((putf M 22 40 a1 (jmax (Co_widthOf a1 M) a2)), Mr, Mo)) hx hb hr hlocks hP hS (Nat.zero_le _) (Nat.zero_le _) (by rw [← h] <;> rfl) dX2_widen_17
set_option maxHeartbeats 1000000 in
set_option maxRecDepth 100000 in
theorem c_Co_findWidths {l : Launch} {G : hyG} (Mr Mo : hyM) (M : hyM) {res : hyM} (h : Co_findWidths M = some res) : hyC l yX2_findWidths (.code yX2_findWidths cX2_findWidths 7 none) 4 92 (0) G [.ref (adr G 21), .ref (adr G 12), .ref (adr G 18), .ref (adr G 9)] (M, Mr, Mo) (.inr none, (res, Mr, Mo)) := by
  refine hy_of (by decide +kernel) (Nat.le_of_ble_eq_true rfl) ?_
  intro p e s m below meth c hx hb hml hown hts hr hlocks ht hX hP hS ls hl
  have hl : lv_has ls 7 [(0, .ref (adr G 21)), (1, .ref (adr G 12)), (2, .ref (adr G 18)), (3, .ref (adr G 9))] := hl
  rw [Co_findWidths] at h
  refine lv_iconst (v := 0) hx hb dX2_findWidths_0 rfl ?_
  refine lv_istore (lv' := [(4, .int 0), (0, .ref (adr G 21)), (1, .ref (adr G 12)), (2, .ref (adr G 18)), (3, .ref (adr G 9))]) hx hb dX2_findWidths_1 hl (by decide) rfl (fun ls hl => ?_)
  have L5 : ∀ (f : Nat) (x1 : Int32) (M2 : hyM) (qL : (Int32 × hyM)) (h : Co_findWidths_L3  f x1 M2 = some qL) (H : Heap) (locs : List Loc) (ls : Array Slot) (hP : va_P G.1 vwCl (wld G (M2, Mr, Mo)) H) (hS : va_S (hyA G) s.heap H locs) (hl : lv_has ls 7 [(0, .ref (adr G 21)), (1, .ref (adr G 12)), (2, .ref (adr G 18)), (3, .ref (adr G 9)), (4, .int x1)]) (kk : ∀ (y1 : Int32) (NM2 : hyM), qL = (y1, NM2) → ∀ (H : Heap) (locs : List Loc) (ls : Array Slot), va_P G.1 vwCl (wld G (NM2, Mr, Mo)) H → va_S (hyA G) s.heap H locs → lv_has ls 7 [(0, .ref (adr G 21)), (1, .ref (adr G 12)), (2, .ref (adr G 18)), (3, .ref (adr G 9)), (4, .int y1)] → W p l e { frames := 4, cells := 0, slots := 6 * 0, locals := 92 } s m ([.ref (adr G 21), .ref (adr G 12), .ref (adr G 18), .ref (adr G 9)] : List Value).toArray below meth c H locs 0 0 (vx_MQ below (hyQ G (.inr none, (res, Mr, Mo))) (hyXQ G (.inr none, (res, Mr, Mo))) ([.ref (adr G 21), .ref (adr G 12), .ref (adr G 18), .ref (adr G 9)] : List Value).toArray s 0 (6 * 0) (hyA G)) (F0 m 26 ls [])), W p l e { frames := 4, cells := 0, slots := 6 * 0, locals := 92 } s m ([.ref (adr G 21), .ref (adr G 12), .ref (adr G 18), .ref (adr G 9)] : List Value).toArray below meth c H locs 0 0 (vx_MQ below (hyQ G (.inr none, (res, Mr, Mo))) (hyXQ G (.inr none, (res, Mr, Mo))) ([.ref (adr G 21), .ref (adr G 12), .ref (adr G 18), .ref (adr G 9)] : List Value).toArray s 0 (6 * 0) (hyA G)) (F0 m 3 ls []) := by
    intro f
    induction f with
    | zero =>
      intro x1 M2 qL h H locs ls hP hS hl kk
      rw [Co_findWidths_L3] at h
      cases h
    | succ f ih =>
      intro x1 M2 qL h H locs ls hP hS hl kk
      rw [Co_findWidths_L3] at h
      refine lv_iload hx hb dX2_findWidths_3 (lv_at hl 4 rfl) ?_
      refine lv_bipush (v := 40) hx hb dX2_findWidths_5 rfl ?_
      refine lv_icmp_ge (tgt := 26) hx hb dX2_findWidths_7 (by decide) (fun c3 => ?_) (fun c3 => ?_)
      · rw [if_pos c3] at h
        exact kk x1 M2 (Option.some.inj h).symm _ _ ls hP hS (lv_sub hl [0, 1, 2, 3, 4] rfl)
      · rw [if_neg c3] at h
        refine lv_aload_n hx hb dX2_findWidths_10 rfl (lv_at hl 0 rfl) ?_
        refine hy_get (T := (M2, Mr, Mo)) (o := 21) (k := 0) (v := .ref (adr G 22)) hx hb hown hts hX hP (by decide) rfl rfl inX2g (by decide) q_242 rfl dX2_findWidths_11 ?_
        refine lv_iload hx hb dX2_findWidths_14 (lv_at hl 4 rfl) ?_
        refine lv_iconst (v := 3) hx hb dX2_findWidths_16 rfl ?_
        refine hy_ret (hy_rSN (T := (M2, Mr, Mo)) (v := none) (T2 := ((putf M2 22 40 x1 3), Mr, Mo)) (As := [.ref (adr G 22), .int x1, .int 3]) (rest := []) (n := 0) hx hb hml hown hts hX hP hS hl (c_put Mr Mo 22 40 (by decide) (by decide) (fun _ _ => rfl) x1 3 M2) m_Hp_put q_498 rfl rfl (Nat.le_of_ble_eq_true rfl) dX2_findWidths_17 ⟨Nat.le_of_ble_eq_true rfl, Nat.le_of_ble_eq_true rfl⟩ ⟨Nat.zero_le _, Nat.zero_le _⟩) hS (fun H locs hP hS => ?_)
        obtain ⟨M4, hM4, h⟩ := hy_bind h
        rw [Option.some.inj hM4] at hP
        refine lv_iinc (v := (x1 + 1)) (lv' := [(4, .int (x1 + 1)), (0, .ref (adr G 21)), (1, .ref (adr G 12)), (2, .ref (adr G 18)), (3, .ref (adr G 9))]) hx hb dX2_findWidths_20 hl (k := 4) rfl rfl (by decide) rfl (fun ls hl => ?_)
        refine lv_goto (tgt := 3) hx hb dX2_findWidths_23 (by decide) ?_
        exact ih (x1 + 1) M4 _ h  _ _ ls hP hS (lv_sub hl [1, 2, 3, 4, 0] rfl) kk
  obtain ⟨q21, hq21, h⟩ := hy_bind h
  refine L5 hyFu 0 M q21 hq21 _ _ ls hP hS (lv_sub hl [1, 2, 3, 4, 0] rfl) ?_
  intro y1 NM2 e9 H locs ls hP hS hl
  subst e9
  try dsimp only at h
  refine lv_iconst (v := 0) hx hb dX2_findWidths_26 rfl ?_
  refine lv_istore (lv' := [(4, .int 0), (0, .ref (adr G 21)), (1, .ref (adr G 12)), (2, .ref (adr G 18)), (3, .ref (adr G 9))]) hx hb dX2_findWidths_27 hl (by decide) rfl (fun ls hl => ?_)
  have L19 : ∀ (f : Nat) (x6 : Int32) (M7 : hyM) (qL : (Int32 × hyM)) (h : Co_findWidths_L29  f x6 M7 = some qL) (H : Heap) (locs : List Loc) (ls : Array Slot) (hP : va_P G.1 vwCl (wld G (M7, Mr, Mo)) H) (hS : va_S (hyA G) s.heap H locs) (hl : lv_has ls 7 [(0, .ref (adr G 21)), (1, .ref (adr G 12)), (2, .ref (adr G 18)), (3, .ref (adr G 9)), (4, .int x6)]) (kk : ∀ (y6 : Int32) (NM7 : hyM), qL = (y6, NM7) → ∀ (H : Heap) (locs : List Loc) (ls : Array Slot), va_P G.1 vwCl (wld G (NM7, Mr, Mo)) H → va_S (hyA G) s.heap H locs → lv_has ls 7 [(0, .ref (adr G 21)), (1, .ref (adr G 12)), (2, .ref (adr G 18)), (3, .ref (adr G 9)), (4, .int y6)] → W p l e { frames := 4, cells := 0, slots := 6 * 0, locals := 92 } s m ([.ref (adr G 21), .ref (adr G 12), .ref (adr G 18), .ref (adr G 9)] : List Value).toArray below meth c H locs 0 0 (vx_MQ below (hyQ G (.inr none, (res, Mr, Mo))) (hyXQ G (.inr none, (res, Mr, Mo))) ([.ref (adr G 21), .ref (adr G 12), .ref (adr G 18), .ref (adr G 9)] : List Value).toArray s 0 (6 * 0) (hyA G)) (F0 m 104 ls [])), W p l e { frames := 4, cells := 0, slots := 6 * 0, locals := 92 } s m ([.ref (adr G 21), .ref (adr G 12), .ref (adr G 18), .ref (adr G 9)] : List Value).toArray below meth c H locs 0 0 (vx_MQ below (hyQ G (.inr none, (res, Mr, Mo))) (hyXQ G (.inr none, (res, Mr, Mo))) ([.ref (adr G 21), .ref (adr G 12), .ref (adr G 18), .ref (adr G 9)] : List Value).toArray s 0 (6 * 0) (hyA G)) (F0 m 29 ls []) := by
    intro f
    induction f with
    | zero =>
      intro x6 M7 qL h H locs ls hP hS hl kk
      rw [Co_findWidths_L29] at h
      cases h
    | succ f ih =>
      intro x6 M7 qL h H locs ls hP hS hl kk
      rw [Co_findWidths_L29] at h
      refine lv_iload hx hb dX2_findWidths_29 (lv_at hl 4 rfl) ?_
      refine lv_aload_n hx hb dX2_findWidths_31 rfl (lv_at hl 2 rfl) ?_
      refine hy_getN (T := (M7, Mr, Mo)) (o := 18) (k := 2) (v := .int (M7.1 18 2)) hx hb hown hts hX hP (by decide) rfl rfl inX5g (by decide) q_227 rfl dX2_findWidths_32 ?_
      have K17 : ∀ (H : Heap) (locs : List Loc), (if (M7.1 18 2) ≤ x6 then false else (!decide (24 ≤ x6))) = true → va_P G.1 vwCl (wld G (M7, Mr, Mo)) H → va_S (hyA G) s.heap H locs → W p l e { frames := 4, cells := 0, slots := 6 * 0, locals := 92 } s m ([.ref (adr G 21), .ref (adr G 12), .ref (adr G 18), .ref (adr G 9)] : List Value).toArray below meth c H locs 0 0 (vx_MQ below (hyQ G (.inr none, (res, Mr, Mo))) (hyXQ G (.inr none, (res, Mr, Mo))) ([.ref (adr G 21), .ref (adr G 12), .ref (adr G 18), .ref (adr G 9)] : List Value).toArray s 0 (6 * 0) (hyA G)) (F0 m 45 ls []) := by
        intro H locs cb hP hS
        rw [if_pos cb] at h
        refine lv_aload_n hx hb dX2_findWidths_45 rfl (lv_at hl 2 rfl) ?_
        refine lv_iload hx hb dX2_findWidths_46 (lv_at hl 4 rfl) ?_
        refine hy_ret (hy_rVN (T := (M7, Mr, Mo)) (v := some (.int (Or_phraseAt x6 M7))) (T2 := (M7, Mr, Mo)) (As := [.int x6]) (rest := []) (n := 0) hx hb hml hown hts hX hP hS hl (c_Or_phraseAt Mr Mo x6 M7 rfl) m_Or_phraseAt q_499 (hy_recv hX hP 18 4 (by decide) rfl rfl) rfl rfl (Nat.le_of_ble_eq_true rfl) dX2_findWidths_48 ⟨Nat.le_of_ble_eq_true rfl, Nat.le_of_ble_eq_true rfl⟩ ⟨Nat.zero_le _, Nat.zero_le _⟩) hS (fun H locs hP hS => ?_)
        refine lv_istore (lv' := [(5, .int (Or_phraseAt x6 M7)), (0, .ref (adr G 21)), (1, .ref (adr G 12)), (2, .ref (adr G 18)), (3, .ref (adr G 9)), (4, .int x6)]) hx hb dX2_findWidths_51 hl (by decide) rfl (fun ls hl => ?_)
        refine lv_aload_n hx hb dX2_findWidths_53 rfl (lv_at hl 2 rfl) ?_
        refine lv_iload hx hb dX2_findWidths_54 (lv_at hl 0 rfl) ?_
        refine hy_ret (hy_rVN (T := (M7, Mr, Mo)) (v := some (.int (Ph_firstOf (Or_phraseAt x6 M7) M7))) (T2 := (M7, Mr, Mo)) (As := [.int (Or_phraseAt x6 M7)]) (rest := []) (n := 0) hx hb hml hown hts hX hP hS hl (c_Ph_firstOf Mr Mo (Or_phraseAt x6 M7) M7 rfl) m_Ph_firstOf q_503 (hy_recv hX hP 12 5 (by decide) rfl rfl) rfl rfl (Nat.le_of_ble_eq_true rfl) dX2_findWidths_56 ⟨Nat.le_of_ble_eq_true rfl, Nat.le_of_ble_eq_true rfl⟩ ⟨Nat.zero_le _, Nat.zero_le _⟩) hS (fun H locs hP hS => ?_)
        refine lv_istore (lv' := [(6, .int (Ph_firstOf (Or_phraseAt x6 M7) M7)), (5, .int (Or_phraseAt x6 M7)), (0, .ref (adr G 21)), (1, .ref (adr G 12)), (2, .ref (adr G 18)), (3, .ref (adr G 9)), (4, .int x6)]) hx hb dX2_findWidths_59 hl (by decide) rfl (fun ls hl => ?_)
        have L15 : ∀ (f : Nat) (x10 : Int32) (M11 : hyM) (qL : (Int32 × hyM)) (h : Co_findWidths_L61 x6 M7 f x10 M11 = some qL) (H : Heap) (locs : List Loc) (ls : Array Slot) (hP : va_P G.1 vwCl (wld G (M11, Mr, Mo)) H) (hS : va_S (hyA G) s.heap H locs) (hl : lv_has ls 7 [(0, .ref (adr G 21)), (1, .ref (adr G 12)), (2, .ref (adr G 18)), (3, .ref (adr G 9)), (4, .int x6), (5, .int (Or_phraseAt x6 M7)), (6, .int x10)]) (kk : ∀ (y10 : Int32) (NM11 : hyM), qL = (y10, NM11) → ∀ (H : Heap) (locs : List Loc) (ls : Array Slot), va_P G.1 vwCl (wld G (NM11, Mr, Mo)) H → va_S (hyA G) s.heap H locs → lv_has ls 7 [(0, .ref (adr G 21)), (1, .ref (adr G 12)), (2, .ref (adr G 18)), (3, .ref (adr G 9)), (4, .int x6), (5, .int (Or_phraseAt x6 M7)), (6, .int y10)] → W p l e { frames := 4, cells := 0, slots := 6 * 0, locals := 92 } s m ([.ref (adr G 21), .ref (adr G 12), .ref (adr G 18), .ref (adr G 9)] : List Value).toArray below meth c H locs 0 0 (vx_MQ below (hyQ G (.inr none, (res, Mr, Mo))) (hyXQ G (.inr none, (res, Mr, Mo))) ([.ref (adr G 21), .ref (adr G 12), .ref (adr G 18), .ref (adr G 9)] : List Value).toArray s 0 (6 * 0) (hyA G)) (F0 m 98 ls [])), W p l e { frames := 4, cells := 0, slots := 6 * 0, locals := 92 } s m ([.ref (adr G 21), .ref (adr G 12), .ref (adr G 18), .ref (adr G 9)] : List Value).toArray below meth c H locs 0 0 (vx_MQ below (hyQ G (.inr none, (res, Mr, Mo))) (hyXQ G (.inr none, (res, Mr, Mo))) ([.ref (adr G 21), .ref (adr G 12), .ref (adr G 18), .ref (adr G 9)] : List Value).toArray s 0 (6 * 0) (hyA G)) (F0 m 61 ls []) := by
          intro f
          induction f with
          | zero =>
            intro x10 M11 qL h H locs ls hP hS hl kk
            rw [Co_findWidths_L61] at h
            cases h
          | succ f ih =>
            intro x10 M11 qL h H locs ls hP hS hl kk
            rw [Co_findWidths_L61] at h
            refine lv_iload hx hb dX2_findWidths_61 (lv_at hl 6 rfl) ?_
            refine lv_aload_n hx hb dX2_findWidths_63 rfl (lv_at hl 1 rfl) ?_
            refine lv_iload hx hb dX2_findWidths_64 (lv_at hl 5 rfl) ?_
            refine hy_ret (hy_rVN (T := (M11, Mr, Mo)) (v := some (.int (Ph_lastOf (Or_phraseAt x6 M7) M11))) (T2 := (M11, Mr, Mo)) (As := [.int (Or_phraseAt x6 M7)]) (rest := [.int x10]) (n := 0) hx hb hml hown hts hX hP hS hl (c_Ph_lastOf Mr Mo (Or_phraseAt x6 M7) M11 rfl) m_Ph_lastOf q_507 (hy_recv hX hP 12 5 (by decide) rfl rfl) rfl rfl (Nat.le_of_ble_eq_true rfl) dX2_findWidths_66 ⟨Nat.le_of_ble_eq_true rfl, Nat.le_of_ble_eq_true rfl⟩ ⟨Nat.zero_le _, Nat.zero_le _⟩) hS (fun H locs hP hS => ?_)
            refine lv_icmp_gt (tgt := 98) hx hb dX2_findWidths_69 (by decide) (fun c12 => ?_) (fun c12 => ?_)
            · rw [if_pos c12] at h
              exact kk x10 M11 (Option.some.inj h).symm _ _ ls hP hS (lv_sub hl [0, 1, 2, 3, 4, 5, 6] rfl)
            · rw [if_neg c12] at h
              refine lv_aload_n hx hb dX2_findWidths_72 rfl (lv_at hl 0 rfl) ?_
              refine lv_iload hx hb dX2_findWidths_73 (lv_at hl 6 rfl) ?_
              refine lv_aload_n hx hb dX2_findWidths_75 rfl (lv_at hl 3 rfl) ?_
              refine lv_iload hx hb dX2_findWidths_76 (lv_at hl 4 rfl) ?_
              refine lv_aload_n hx hb dX2_findWidths_78 rfl (lv_at hl 1 rfl) ?_
              refine lv_iload hx hb dX2_findWidths_79 (lv_at hl 6 rfl) ?_
              refine hy_ret (hy_rVN (T := (M11, Mr, Mo)) (v := some (.int (Ph_syllableOf x10 M11))) (T2 := (M11, Mr, Mo)) (As := [.int x10]) (rest := [.int x6, .ref (adr G 9), .int x10, .ref (adr G 21)]) (n := 0) hx hb hml hown hts hX hP hS hl (c_Ph_syllableOf Mr Mo x10 M11 rfl) m_Ph_syllableOf q_511 (hy_recv hX hP 12 5 (by decide) rfl rfl) rfl rfl (Nat.le_of_ble_eq_true rfl) dX2_findWidths_81 ⟨Nat.le_of_ble_eq_true rfl, Nat.le_of_ble_eq_true rfl⟩ ⟨Nat.zero_le _, Nat.zero_le _⟩) hS (fun H locs hP hS => ?_)
              obtain ⟨v13, hv13, h⟩ := hy_bind h
              refine hy_ret (hy_rVN (T := (M11, Mr, Mo)) (v := some (.int v13)) (T2 := (M11, Mr, Mo)) (As := [.int x6, .int (Ph_syllableOf x10 M11)]) (rest := [.int x10, .ref (adr G 21)]) (n := 0) hx hb hml hown hts hX hP hS hl (c_Ve_widestBelow Mr Mo x6 (Ph_syllableOf x10 M11) M11 hv13) m_Ve_widestBelow q_515 (hy_recv hX hP 9 8 (by decide) rfl rfl) rfl rfl (Nat.le_of_ble_eq_true rfl) dX2_findWidths_84 ⟨Nat.le_of_ble_eq_true rfl, Nat.le_of_ble_eq_true rfl⟩ ⟨Nat.zero_le _, Nat.zero_le _⟩) hS (fun H locs hP hS => ?_)
              refine lv_iconst (v := 1) hx hb dX2_findWidths_87 rfl ?_
              refine lv_iadd hx hb dX2_findWidths_88 ?_
              refine hy_ret (hy_rV0 (T := (M11, Mr, Mo)) (v := none) (T2 := ((Co_widen x10 (v13 + 1) M11), Mr, Mo)) (As := [.int x10, .int (v13 + 1)]) (rest := []) (n := 0) hx hb hml hown hts hX hP hS hl (c_Co_widen Mr Mo x10 (v13 + 1) M11 rfl) m_Co_widen q_534 (hy_recv hX hP 21 2 (by decide) rfl rfl) rfl rfl (Nat.le_of_ble_eq_true rfl) dX2_findWidths_89 ⟨Nat.le_of_ble_eq_true rfl, Nat.le_of_ble_eq_true rfl⟩ ⟨Nat.zero_le _, Nat.zero_le _⟩) hS (fun H locs hP hS => ?_)
              obtain ⟨M14, hM14, h⟩ := hy_bind h
              rw [Option.some.inj hM14] at hP
              refine lv_iinc (v := (x10 + 1)) (lv' := [(6, .int (x10 + 1)), (0, .ref (adr G 21)), (1, .ref (adr G 12)), (2, .ref (adr G 18)), (3, .ref (adr G 9)), (4, .int x6), (5, .int (Or_phraseAt x6 M7))]) hx hb dX2_findWidths_92 hl (k := 6) rfl rfl (by decide) rfl (fun ls hl => ?_)
              refine lv_goto (tgt := 61) hx hb dX2_findWidths_95 (by decide) ?_
              exact ih (x10 + 1) M14 _ h  _ _ ls hP hS (lv_sub hl [1, 2, 3, 4, 5, 6, 0] rfl) kk
        obtain ⟨q16, hq16, h⟩ := hy_bind h
        refine L15 hyFu (Ph_firstOf (Or_phraseAt x6 M7) M7) M7 q16 hq16 _ _ ls hP hS (lv_sub hl [2, 3, 4, 5, 6, 1, 0] rfl) ?_
        intro y10 NM11 e9 H locs ls hP hS hl
        subst e9
        try dsimp only at h
        refine lv_iinc (v := (x6 + 1)) (lv' := [(4, .int (x6 + 1)), (0, .ref (adr G 21)), (1, .ref (adr G 12)), (2, .ref (adr G 18)), (3, .ref (adr G 9)), (5, .int (Or_phraseAt x6 M7)), (6, .int y10)]) hx hb dX2_findWidths_98 hl (k := 4) rfl rfl (by decide) rfl (fun ls hl => ?_)
        refine lv_goto (tgt := 29) hx hb dX2_findWidths_101 (by decide) ?_
        exact ih (x6 + 1) NM11 _ h  _ _ ls hP hS (lv_sub hl [1, 2, 3, 4, 0] rfl) kk
      have K18 : ∀ (H : Heap) (locs : List Loc), ¬ (if (M7.1 18 2) ≤ x6 then false else (!decide (24 ≤ x6))) = true → va_P G.1 vwCl (wld G (M7, Mr, Mo)) H → va_S (hyA G) s.heap H locs → W p l e { frames := 4, cells := 0, slots := 6 * 0, locals := 92 } s m ([.ref (adr G 21), .ref (adr G 12), .ref (adr G 18), .ref (adr G 9)] : List Value).toArray below meth c H locs 0 0 (vx_MQ below (hyQ G (.inr none, (res, Mr, Mo))) (hyXQ G (.inr none, (res, Mr, Mo))) ([.ref (adr G 21), .ref (adr G 12), .ref (adr G 18), .ref (adr G 9)] : List Value).toArray s 0 (6 * 0) (hyA G)) (F0 m 104 ls []) := by
        intro H locs cb hP hS
        rw [if_neg cb] at h
        exact kk x6 M7 (Option.some.inj h).symm _ _ ls hP hS (lv_sub hl [0, 1, 2, 3, 4] rfl)
      refine lv_icmp_ge (tgt := 104) hx hb dX2_findWidths_35 (by decide) (fun c8 => ?_) (fun c8 => ?_)
      · exact K18 _ _ (by rw [if_pos c8] <;> first | rfl | decide) hP hS
      · refine lv_iload hx hb dX2_findWidths_38 (lv_at hl 4 rfl) ?_
        refine lv_bipush (v := 24) hx hb dX2_findWidths_40 rfl ?_
        refine lv_icmp_ge (tgt := 104) hx hb dX2_findWidths_42 (by decide) (fun c9 => ?_) (fun c9 => ?_)
        · exact K18 _ _ (by rw [if_neg c8, decide_eq_true c9] <;> first | rfl | decide) hP hS
        · exact K17 _ _ (by rw [if_neg c8, decide_eq_false c9] <;> first | rfl | decide) hP hS
  obtain ⟨q20, hq20, h⟩ := hy_bind h
  refine L19 hyFu 0 NM2 q20 hq20 _ _ ls hP hS (lv_sub hl [1, 2, 3, 4, 0] rfl) ?_
  intro y6 NM7 e9 H locs ls hP hS hl
  subst e9
  try dsimp only at h
  exact hy_vret (T := (NM7, Mr, Mo)) hx hb hr hlocks hP hS (Nat.zero_le _) (Nat.zero_le _) (by rw [← (Option.some.inj h)] <;> rfl) dX2_findWidths_104
set_option maxHeartbeats 1000000 in
set_option maxRecDepth 100000 in
theorem c_Co_sumOf {l : Launch} {G : hyG} (Mr Mo : hyM) (a1 : Int32) (a2 : Int32) (M : hyM) {res : Int32} (h : Co_sumOf a1 a2 M = some res) : hyC l yX2_sumOf (.code yX2_sumOf cX2_sumOf 5 (some .int)) 2 42 (0) G [.ref (adr G 21), .int a1, .int a2] (M, Mr, Mo) (.inr (some (.int res)), (M, Mr, Mo)) := by
  refine hy_of (by decide +kernel) (Nat.le_of_ble_eq_true rfl) ?_
  intro p e s m below meth c hx hb hml hown hts hr hlocks ht hX hP hS ls hl
  have hl : lv_has ls 5 [(0, .ref (adr G 21)), (1, .int a1), (2, .int a2)] := hl
  rw [Co_sumOf] at h
  refine lv_iconst (v := 0) hx hb dX2_sumOf_0 rfl ?_
  refine lv_istore_n (lv' := [(3, .int 0), (0, .ref (adr G 21)), (1, .int a1), (2, .int a2)]) hx hb dX2_sumOf_1 rfl hl (by decide) rfl (fun ls hl => ?_)
  refine lv_iload_n hx hb dX2_sumOf_2 rfl (lv_at hl 2 rfl) ?_
  refine lv_istore (lv' := [(4, .int a1), (3, .int 0), (0, .ref (adr G 21)), (1, .int a1), (2, .int a2)]) hx hb dX2_sumOf_3 hl (by decide) rfl (fun ls hl => ?_)
  have L4 : ∀ (f : Nat) (x1 : Int32) (x2 : Int32) (qL : (Int32 × Int32)) (h : Co_sumOf_L5 a2 M f x1 x2 = some qL) (H : Heap) (locs : List Loc) (ls : Array Slot) (hP : va_P G.1 vwCl (wld G (M, Mr, Mo)) H) (hS : va_S (hyA G) s.heap H locs) (hl : lv_has ls 5 [(0, .ref (adr G 21)), (1, .int a1), (2, .int a2), (3, .int x1), (4, .int x2)]) (kk : ∀ (y1 : Int32) (y2 : Int32), qL = (y1, y2) → ∀ (H : Heap) (locs : List Loc) (ls : Array Slot), va_P G.1 vwCl (wld G (M, Mr, Mo)) H → va_S (hyA G) s.heap H locs → lv_has ls 5 [(0, .ref (adr G 21)), (1, .int a1), (2, .int a2), (3, .int y1), (4, .int y2)] → W p l e { frames := 2, cells := 0, slots := 6 * 0, locals := 42 } s m ([.ref (adr G 21), .int a1, .int a2] : List Value).toArray below meth c H locs 0 0 (vx_MQ below (hyQ G (.inr (some (.int res)), (M, Mr, Mo))) (hyXQ G (.inr (some (.int res)), (M, Mr, Mo))) ([.ref (adr G 21), .int a1, .int a2] : List Value).toArray s 0 (6 * 0) (hyA G)) (F0 m 26 ls [])), W p l e { frames := 2, cells := 0, slots := 6 * 0, locals := 42 } s m ([.ref (adr G 21), .int a1, .int a2] : List Value).toArray below meth c H locs 0 0 (vx_MQ below (hyQ G (.inr (some (.int res)), (M, Mr, Mo))) (hyXQ G (.inr (some (.int res)), (M, Mr, Mo))) ([.ref (adr G 21), .int a1, .int a2] : List Value).toArray s 0 (6 * 0) (hyA G)) (F0 m 5 ls []) := by
    intro f
    induction f with
    | zero =>
      intro x1 x2 qL h H locs ls hP hS hl kk
      rw [Co_sumOf_L5] at h
      cases h
    | succ f ih =>
      intro x1 x2 qL h H locs ls hP hS hl kk
      rw [Co_sumOf_L5] at h
      refine lv_iload hx hb dX2_sumOf_5 (lv_at hl 4 rfl) ?_
      refine lv_iload_n hx hb dX2_sumOf_7 rfl (lv_at hl 2 rfl) ?_
      refine lv_icmp_gt (tgt := 26) hx hb dX2_sumOf_8 (by decide) (fun c3 => ?_) (fun c3 => ?_)
      · rw [if_pos c3] at h
        exact kk x1 x2 (Option.some.inj h).symm _ _ ls hP hS (lv_sub hl [0, 1, 2, 3, 4] rfl)
      · rw [if_neg c3] at h
        refine lv_iload_n hx hb dX2_sumOf_11 rfl (lv_at hl 3 rfl) ?_
        refine lv_aload_n hx hb dX2_sumOf_12 rfl (lv_at hl 0 rfl) ?_
        refine lv_iload hx hb dX2_sumOf_13 (lv_at hl 4 rfl) ?_
        refine hy_ret (hy_rV0 (T := (M, Mr, Mo)) (v := some (.int (Co_widthOf x2 M))) (T2 := (M, Mr, Mo)) (As := [.int x2]) (rest := [.int x1]) (n := 0) hx hb hml hown hts hX hP hS hl (c_Co_widthOf Mr Mo x2 M rfl) m_Co_widthOf q_538 (hy_recv hX hP 21 2 (by decide) rfl rfl) rfl rfl (Nat.le_of_ble_eq_true rfl) dX2_sumOf_15 ⟨Nat.le_of_ble_eq_true rfl, Nat.le_of_ble_eq_true rfl⟩ ⟨Nat.zero_le _, Nat.zero_le _⟩) hS (fun H locs hP hS => ?_)
        refine lv_iadd hx hb dX2_sumOf_18 ?_
        refine lv_istore_n (lv' := [(3, .int (x1 + (Co_widthOf x2 M))), (0, .ref (adr G 21)), (1, .int a1), (2, .int a2), (4, .int x2)]) hx hb dX2_sumOf_19 rfl hl (by decide) rfl (fun ls hl => ?_)
        refine lv_iinc (v := (x2 + 1)) (lv' := [(4, .int (x2 + 1)), (3, .int (x1 + (Co_widthOf x2 M))), (0, .ref (adr G 21)), (1, .int a1), (2, .int a2)]) hx hb dX2_sumOf_20 hl (k := 4) rfl rfl (by decide) rfl (fun ls hl => ?_)
        refine lv_goto (tgt := 5) hx hb dX2_sumOf_23 (by decide) ?_
        exact ih (x1 + (Co_widthOf x2 M)) (x2 + 1) _ h  _ _ ls hP hS (lv_sub hl [2, 3, 4, 1, 0] rfl) kk
  obtain ⟨q5, hq5, h⟩ := hy_bind h
  refine L4 hyFu 0 a1 q5 hq5 _ _ ls hP hS (lv_sub hl [2, 3, 4, 1, 0] rfl) ?_
  intro y1 y2 e9 H locs ls hP hS hl
  subst e9
  try dsimp only at h
  refine lv_iload_n hx hb dX2_sumOf_26 rfl (lv_at hl 3 rfl) ?_
  exact hy_iret (T := (M, Mr, Mo)) hx hb hr hlocks hP hS (Nat.zero_le _) (Nat.zero_le _) (by rw [← (Option.some.inj h)] <;> rfl) dX2_sumOf_27
set_option maxHeartbeats 1000000 in
set_option maxRecDepth 100000 in
theorem c_Co_findSystems {l : Launch} {G : hyG} (Mr Mo : hyM) (a1 : Int32) (M : hyM) {res : hyM} (h : Co_findSystems a1 M = some res) : hyC l yX2_findSystems (.code yX2_findSystems cX2_findSystems 7 none) 3 66 (0) G [.ref (adr G 21), .ref (adr G 12), .int a1] (M, Mr, Mo) (.inr none, (res, Mr, Mo)) := by
  refine hy_of (by decide +kernel) (Nat.le_of_ble_eq_true rfl) ?_
  intro p e s m below meth c hx hb hml hown hts hr hlocks ht hX hP hS ls hl
  have hl : lv_has ls 7 [(0, .ref (adr G 21)), (1, .ref (adr G 12)), (2, .int a1)] := hl
  rw [Co_findSystems] at h
  refine lv_iconst (v := 0) hx hb dX2_findSystems_0 rfl ?_
  refine lv_istore_n (lv' := [(3, .int 0), (0, .ref (adr G 21)), (1, .ref (adr G 12)), (2, .int a1)]) hx hb dX2_findSystems_1 rfl hl (by decide) rfl (fun ls hl => ?_)
  refine lv_iconst (v := 0) hx hb dX2_findSystems_2 rfl ?_
  refine lv_istore (lv' := [(4, .int 0), (3, .int 0), (0, .ref (adr G 21)), (1, .ref (adr G 12)), (2, .int a1)]) hx hb dX2_findSystems_3 hl (by decide) rfl (fun ls hl => ?_)
  refine lv_aload_n hx hb dX2_findSystems_5 rfl (lv_at hl 2 rfl) ?_
  refine lv_iconst (v := 0) hx hb dX2_findSystems_6 rfl ?_
  refine hy_putI (ty := .int) (T := (M, Mr, Mo)) (T2 := ((wI M 21 4 0), Mr, Mo)) (o := 21) (k := 4) hx hb hown hts hX hP hS (by decide) rfl rfl rfl rfl inX2g tyX2_ok nmX2 (by decide) q_247 rfl rfl rfl rfl (Nat.le_of_ble_eq_true rfl) dX2_findSystems_7 (fun H locs hP hS => ?_)
  obtain ⟨M1, hM1, h⟩ := hy_bind h
  rw [Option.some.inj hM1] at hP
  refine lv_iconst (v := 0) hx hb dX2_findSystems_10 rfl ?_
  refine lv_istore (lv' := [(5, .int 0), (4, .int 0), (3, .int 0), (0, .ref (adr G 21)), (1, .ref (adr G 12)), (2, .int a1)]) hx hb dX2_findSystems_11 hl (by decide) rfl (fun ls hl => ?_)
  have L14 : ∀ (f : Nat) (x2 : Int32) (x3 : Int32) (x4 : Int32) (M5 : hyM) (qL : (Int32 × Int32 × Int32 × hyM)) (h : Co_findSystems_L13 a1 f x2 x3 x4 M5 = some qL) (H : Heap) (locs : List Loc) (ls : Array Slot) (hP : va_P G.1 vwCl (wld G (M5, Mr, Mo)) H) (hS : va_S (hyA G) s.heap H locs) (hl : lv_has ls 7 [(0, .ref (adr G 21)), (1, .ref (adr G 12)), (2, .int a1), (3, .int x2), (4, .int x3), (5, .int x4)]) (kk : ∀ (y2 : Int32) (y3 : Int32) (y4 : Int32) (NM5 : hyM), qL = (y2, y3, y4, NM5) → ∀ (H : Heap) (locs : List Loc) (ls : Array Slot), va_P G.1 vwCl (wld G (NM5, Mr, Mo)) H → va_S (hyA G) s.heap H locs → lv_has ls 7 [(0, .ref (adr G 21)), (1, .ref (adr G 12)), (2, .int a1), (3, .int y2), (4, .int y3), (5, .int y4)] → W p l e { frames := 3, cells := 0, slots := 6 * 0, locals := 66 } s m ([.ref (adr G 21), .ref (adr G 12), .int a1] : List Value).toArray below meth c H locs 0 0 (vx_MQ below (hyQ G (.inr none, (res, Mr, Mo))) (hyXQ G (.inr none, (res, Mr, Mo))) ([.ref (adr G 21), .ref (adr G 12), .int a1] : List Value).toArray s 0 (6 * 0) (hyA G)) (F0 m 105 ls [])), W p l e { frames := 3, cells := 0, slots := 6 * 0, locals := 66 } s m ([.ref (adr G 21), .ref (adr G 12), .int a1] : List Value).toArray below meth c H locs 0 0 (vx_MQ below (hyQ G (.inr none, (res, Mr, Mo))) (hyXQ G (.inr none, (res, Mr, Mo))) ([.ref (adr G 21), .ref (adr G 12), .int a1] : List Value).toArray s 0 (6 * 0) (hyA G)) (F0 m 13 ls []) := by
    intro f
    induction f with
    | zero =>
      intro x2 x3 x4 M5 qL h H locs ls hP hS hl kk
      rw [Co_findSystems_L13] at h
      cases h
    | succ f ih =>
      intro x2 x3 x4 M5 qL h H locs ls hP hS hl kk
      rw [Co_findSystems_L13] at h
      refine lv_iload hx hb dX2_findSystems_13 (lv_at hl 5 rfl) ?_
      refine lv_aload_n hx hb dX2_findSystems_15 rfl (lv_at hl 1 rfl) ?_
      refine hy_getN (T := (M5, Mr, Mo)) (o := 12) (k := 5) (v := .int (M5.1 12 5)) hx hb hown hts hX hP (by decide) rfl rfl inX6g (by decide) q_203 rfl dX2_findSystems_16 ?_
      refine lv_icmp_ge (tgt := 105) hx hb dX2_findSystems_19 (by decide) (fun c6 => ?_) (fun c6 => ?_)
      · rw [if_pos c6] at h
        exact kk x2 x3 x4 M5 (Option.some.inj h).symm _ _ ls hP hS (lv_sub hl [0, 1, 2, 3, 4, 5] rfl)
      · rw [if_neg c6] at h
        refine lv_aload_n hx hb dX2_findSystems_22 rfl (lv_at hl 0 rfl) ?_
        refine lv_aload_n hx hb dX2_findSystems_23 rfl (lv_at hl 1 rfl) ?_
        refine lv_iload hx hb dX2_findSystems_24 (lv_at hl 5 rfl) ?_
        refine hy_ret (hy_rVN (T := (M5, Mr, Mo)) (v := some (.int (Ph_firstOf x4 M5))) (T2 := (M5, Mr, Mo)) (As := [.int x4]) (rest := [.ref (adr G 21)]) (n := 0) hx hb hml hown hts hX hP hS hl (c_Ph_firstOf Mr Mo x4 M5 rfl) m_Ph_firstOf q_503 (hy_recv hX hP 12 5 (by decide) rfl rfl) rfl rfl (Nat.le_of_ble_eq_true rfl) dX2_findSystems_26 ⟨Nat.le_of_ble_eq_true rfl, Nat.le_of_ble_eq_true rfl⟩ ⟨Nat.zero_le _, Nat.zero_le _⟩) hS (fun H locs hP hS => ?_)
        refine lv_aload_n hx hb dX2_findSystems_29 rfl (lv_at hl 1 rfl) ?_
        refine lv_iload hx hb dX2_findSystems_30 (lv_at hl 5 rfl) ?_
        refine hy_ret (hy_rVN (T := (M5, Mr, Mo)) (v := some (.int (Ph_lastOf x4 M5))) (T2 := (M5, Mr, Mo)) (As := [.int x4]) (rest := [.int (Ph_firstOf x4 M5), .ref (adr G 21)]) (n := 0) hx hb hml hown hts hX hP hS hl (c_Ph_lastOf Mr Mo x4 M5 rfl) m_Ph_lastOf q_507 (hy_recv hX hP 12 5 (by decide) rfl rfl) rfl rfl (Nat.le_of_ble_eq_true rfl) dX2_findSystems_32 ⟨Nat.le_of_ble_eq_true rfl, Nat.le_of_ble_eq_true rfl⟩ ⟨Nat.zero_le _, Nat.zero_le _⟩) hS (fun H locs hP hS => ?_)
        obtain ⟨v7, hv7, h⟩ := hy_bind h
        refine hy_ret (hy_rV0 (T := (M5, Mr, Mo)) (v := some (.int v7)) (T2 := (M5, Mr, Mo)) (As := [.int (Ph_firstOf x4 M5), .int (Ph_lastOf x4 M5)]) (rest := []) (n := 0) hx hb hml hown hts hX hP hS hl (c_Co_sumOf Mr Mo (Ph_firstOf x4 M5) (Ph_lastOf x4 M5) M5 hv7) m_Co_sumOf q_548 (hy_recv hX hP 21 2 (by decide) rfl rfl) rfl rfl (Nat.le_of_ble_eq_true rfl) dX2_findSystems_35 ⟨Nat.le_of_ble_eq_true rfl, Nat.le_of_ble_eq_true rfl⟩ ⟨Nat.zero_le _, Nat.zero_le _⟩) hS (fun H locs hP hS => ?_)
        refine lv_istore (lv' := [(6, .int v7), (0, .ref (adr G 21)), (1, .ref (adr G 12)), (2, .int a1), (3, .int x2), (4, .int x3), (5, .int x4)]) hx hb dX2_findSystems_38 hl (by decide) rfl (fun ls hl => ?_)
        refine lv_iload hx hb dX2_findSystems_40 (lv_at hl 6 rfl) ?_
        have J13 : ∀ (H : Heap) (locs : List Loc) (ls : Array Slot) (u1 : Int32) (u2 : Int32), u1 = (if x4 ≤ 0 then x2 else (if (x3 + v7) ≤ a1 then x2 else (x2 + 1))) → u2 = (if x4 ≤ 0 then x3 else (if (x3 + v7) ≤ a1 then x3 else 0)) → va_P G.1 vwCl (wld G (M5, Mr, Mo)) H → va_S (hyA G) s.heap H locs → lv_has ls 7 [(0, .ref (adr G 21)), (1, .ref (adr G 12)), (2, .int a1), (3, .int u1), (4, .int u2), (5, .int x4), (6, .int v7)] → W p l e { frames := 3, cells := 0, slots := 6 * 0, locals := 66 } s m ([.ref (adr G 21), .ref (adr G 12), .int a1] : List Value).toArray below meth c H locs 0 0 (vx_MQ below (hyQ G (.inr none, (res, Mr, Mo))) (hyXQ G (.inr none, (res, Mr, Mo))) ([.ref (adr G 21), .ref (adr G 12), .int a1] : List Value).toArray s 0 (6 * 0) (hyA G)) (F0 m 60 ls []) := by
          intro H locs ls u1 u2 eu1 eu2 hP hS hl
          subst eu1
          subst eu2
          refine lv_iload hx hb dX2_findSystems_60 (lv_at hl 4 rfl) ?_
          refine lv_iload hx hb dX2_findSystems_62 (lv_at hl 6 rfl) ?_
          refine lv_iadd hx hb dX2_findSystems_64 ?_
          refine lv_istore (lv' := [(4, .int ((if x4 ≤ 0 then x3 else (if (x3 + v7) ≤ a1 then x3 else 0)) + v7)), (0, .ref (adr G 21)), (1, .ref (adr G 12)), (2, .int a1), (3, .int (if x4 ≤ 0 then x2 else (if (x3 + v7) ≤ a1 then x2 else (x2 + 1)))), (5, .int x4), (6, .int v7)]) hx hb dX2_findSystems_65 hl (by decide) rfl (fun ls hl => ?_)
          refine lv_aload_n hx hb dX2_findSystems_67 rfl (lv_at hl 1 rfl) ?_
          refine lv_dup hx hb dX2_findSystems_68 rfl ?_
          refine hy_get (T := (M5, Mr, Mo)) (o := 21) (k := 4) (v := .int (M5.1 21 4)) hx hb hown hts hX hP (by decide) rfl rfl inX2g (by decide) q_247 rfl dX2_findSystems_69 ?_
          refine lv_iload hx hb dX2_findSystems_72 (lv_at hl 6 rfl) ?_
          refine lv_iadd hx hb dX2_findSystems_74 ?_
          refine hy_putI (ty := .int) (T := (M5, Mr, Mo)) (T2 := ((wI M5 21 4 ((M5.1 21 4) + v7)), Mr, Mo)) (o := 21) (k := 4) hx hb hown hts hX hP hS (by decide) rfl rfl rfl rfl inX2g tyX2_ok nmX2 (by decide) q_247 rfl rfl rfl rfl (Nat.le_of_ble_eq_true rfl) dX2_findSystems_75 (fun H locs hP hS => ?_)
          obtain ⟨M10, hM10, h⟩ := hy_bind h
          rw [Option.some.inj hM10] at hP
          refine lv_aload_n hx hb dX2_findSystems_78 rfl (lv_at hl 1 rfl) ?_
          refine hy_get (T := (M10, Mr, Mo)) (o := 21) (k := 1) (v := .ref (adr G 23)) hx hb hown hts hX hP (by decide) rfl rfl inX2g (by decide) q_243 rfl dX2_findSystems_79 ?_
          refine lv_iload hx hb dX2_findSystems_82 (lv_at hl 5 rfl) ?_
          refine lv_iload hx hb dX2_findSystems_84 (lv_at hl 6 rfl) ?_
          refine hy_ret (hy_rSN (T := (M10, Mr, Mo)) (v := none) (T2 := ((putf M10 23 40 x4 v7), Mr, Mo)) (As := [.ref (adr G 23), .int x4, .int v7]) (rest := []) (n := 0) hx hb hml hown hts hX hP hS hl (c_put Mr Mo 23 40 (by decide) (by decide) (fun _ _ => rfl) x4 v7 M10) m_Hp_put q_498 rfl rfl (Nat.le_of_ble_eq_true rfl) dX2_findSystems_86 ⟨Nat.le_of_ble_eq_true rfl, Nat.le_of_ble_eq_true rfl⟩ ⟨Nat.zero_le _, Nat.zero_le _⟩) hS (fun H locs hP hS => ?_)
          obtain ⟨M11, hM11, h⟩ := hy_bind h
          rw [Option.some.inj hM11] at hP
          refine lv_aload_n hx hb dX2_findSystems_89 rfl (lv_at hl 1 rfl) ?_
          refine hy_get (T := (M11, Mr, Mo)) (o := 21) (k := 2) (v := .ref (adr G 24)) hx hb hown hts hX hP (by decide) rfl rfl inX2g (by decide) q_244 rfl dX2_findSystems_90 ?_
          refine lv_iload hx hb dX2_findSystems_93 (lv_at hl 5 rfl) ?_
          refine lv_iload_n hx hb dX2_findSystems_95 rfl (lv_at hl 4 rfl) ?_
          refine hy_ret (hy_rSN (T := (M11, Mr, Mo)) (v := none) (T2 := ((putf M11 24 40 x4 (if x4 ≤ 0 then x2 else (if (x3 + v7) ≤ a1 then x2 else (x2 + 1)))), Mr, Mo)) (As := [.ref (adr G 24), .int x4, .int (if x4 ≤ 0 then x2 else (if (x3 + v7) ≤ a1 then x2 else (x2 + 1)))]) (rest := []) (n := 0) hx hb hml hown hts hX hP hS hl (c_put Mr Mo 24 40 (by decide) (by decide) (fun _ _ => rfl) x4 (if x4 ≤ 0 then x2 else (if (x3 + v7) ≤ a1 then x2 else (x2 + 1))) M11) m_Hp_put q_498 rfl rfl (Nat.le_of_ble_eq_true rfl) dX2_findSystems_96 ⟨Nat.le_of_ble_eq_true rfl, Nat.le_of_ble_eq_true rfl⟩ ⟨Nat.zero_le _, Nat.zero_le _⟩) hS (fun H locs hP hS => ?_)
          obtain ⟨M12, hM12, h⟩ := hy_bind h
          rw [Option.some.inj hM12] at hP
          refine lv_iinc (v := (x4 + 1)) (lv' := [(5, .int (x4 + 1)), (4, .int ((if x4 ≤ 0 then x3 else (if (x3 + v7) ≤ a1 then x3 else 0)) + v7)), (0, .ref (adr G 21)), (1, .ref (adr G 12)), (2, .int a1), (3, .int (if x4 ≤ 0 then x2 else (if (x3 + v7) ≤ a1 then x2 else (x2 + 1)))), (6, .int v7)]) hx hb dX2_findSystems_99 hl (k := 5) rfl rfl (by decide) rfl (fun ls hl => ?_)
          refine lv_goto (tgt := 13) hx hb dX2_findSystems_102 (by decide) ?_
          exact ih (if x4 ≤ 0 then x2 else (if (x3 + v7) ≤ a1 then x2 else (x2 + 1))) ((if x4 ≤ 0 then x3 else (if (x3 + v7) ≤ a1 then x3 else 0)) + v7) (x4 + 1) M12 _ h  _ _ ls hP hS (lv_sub hl [2, 3, 4, 5, 1, 0] rfl) kk
        refine lv_if_le (tgt := 60) hx hb dX2_findSystems_42 (by decide) (fun c8 => ?_) (fun c8 => ?_)
        · exact J13 _ _ ls x2 x3 (by rw [if_pos c8] <;> rfl) (by rw [if_pos c8] <;> rfl) hP hS (lv_sub hl [1, 2, 3, 4, 5, 6, 0] rfl)
        · refine lv_iload hx hb dX2_findSystems_45 (lv_at hl 5 rfl) ?_
          refine lv_iload hx hb dX2_findSystems_47 (lv_at hl 0 rfl) ?_
          refine lv_iadd hx hb dX2_findSystems_49 ?_
          refine lv_iload_n hx hb dX2_findSystems_50 rfl (lv_at hl 3 rfl) ?_
          refine lv_icmp_le (tgt := 60) hx hb dX2_findSystems_51 (by decide) (fun c9 => ?_) (fun c9 => ?_)
          · exact J13 _ _ ls x2 x3 (by rw [if_neg c8, if_pos c9] <;> rfl) (by rw [if_neg c8, if_pos c9] <;> rfl) hP hS (lv_sub hl [1, 2, 3, 4, 5, 6, 0] rfl)
          · refine lv_iinc (v := (x2 + 1)) (lv' := [(3, .int (x2 + 1)), (6, .int v7), (0, .ref (adr G 21)), (1, .ref (adr G 12)), (2, .int a1), (4, .int x3), (5, .int x4)]) hx hb dX2_findSystems_54 hl (k := 4) rfl rfl (by decide) rfl (fun ls hl => ?_)
            refine lv_iconst (v := 0) hx hb dX2_findSystems_57 rfl ?_
            refine lv_istore (lv' := [(4, .int 0), (3, .int (x2 + 1)), (6, .int v7), (0, .ref (adr G 21)), (1, .ref (adr G 12)), (2, .int a1), (5, .int x4)]) hx hb dX2_findSystems_58 hl (by decide) rfl (fun ls hl => ?_)
            exact J13 _ _ ls (x2 + 1) 0 (by rw [if_neg c8, if_neg c9] <;> rfl) (by rw [if_neg c8, if_neg c9] <;> rfl) hP hS (lv_sub hl [3, 4, 5, 1, 0, 6, 2] rfl)
  obtain ⟨q18, hq18, h⟩ := hy_bind h
  refine L14 hyFu 0 0 0 M1 q18 hq18 _ _ ls hP hS (lv_sub hl [3, 4, 5, 2, 1, 0] rfl) ?_
  intro y2 y3 y4 NM5 e9 H locs ls hP hS hl
  subst e9
  try dsimp only at h
  refine lv_aload_n hx hb dX2_findSystems_105 rfl (lv_at hl 0 rfl) ?_
  refine lv_aload_n hx hb dX2_findSystems_106 rfl (lv_at hl 1 rfl) ?_
  refine hy_getN (T := (NM5, Mr, Mo)) (o := 12) (k := 5) (v := .int (NM5.1 12 5)) hx hb hown hts hX hP (by decide) rfl rfl inX6g (by decide) q_203 rfl dX2_findSystems_107 ?_
  have J17 : ∀ (H : Heap) (locs : List Loc) (ls : Array Slot) (u1 : Int32), u1 = (if (NM5.1 12 5) ≤ 0 then 0 else (y2 + 1)) → va_P G.1 vwCl (wld G (NM5, Mr, Mo)) H → va_S (hyA G) s.heap H locs → lv_has ls 7 [(0, .ref (adr G 21)), (1, .ref (adr G 12)), (2, .int a1), (3, .int y2), (4, .int y3), (5, .int y4)] → W p l e { frames := 3, cells := 0, slots := 6 * 0, locals := 66 } s m ([.ref (adr G 21), .ref (adr G 12), .int a1] : List Value).toArray below meth c H locs 0 0 (vx_MQ below (hyQ G (.inr none, (res, Mr, Mo))) (hyXQ G (.inr none, (res, Mr, Mo))) ([.ref (adr G 21), .ref (adr G 12), .int a1] : List Value).toArray s 0 (6 * 0) (hyA G)) (F0 m 120 ls [.int u1, .ref (adr G 21)]) := by
    intro H locs ls u1 eu1 hP hS hl
    subst eu1
    refine hy_putI (ty := .int) (T := (NM5, Mr, Mo)) (T2 := ((wI NM5 21 3 (if (NM5.1 12 5) ≤ 0 then 0 else (y2 + 1))), Mr, Mo)) (o := 21) (k := 3) hx hb hown hts hX hP hS (by decide) rfl rfl rfl rfl inX2g tyX2_ok nmX2 (by decide) q_245 rfl rfl rfl rfl (Nat.le_of_ble_eq_true rfl) dX2_findSystems_120 (fun H locs hP hS => ?_)
    obtain ⟨M16, hM16, h⟩ := hy_bind h
    rw [Option.some.inj hM16] at hP
    exact hy_vret (T := (M16, Mr, Mo)) hx hb hr hlocks hP hS (Nat.zero_le _) (Nat.zero_le _) (by rw [← (Option.some.inj h)] <;> rfl) dX2_findSystems_123
  refine lv_if_le (tgt := 119) hx hb dX2_findSystems_110 (by decide) (fun c15 => ?_) (fun c15 => ?_)
  · refine lv_iconst (v := 0) hx hb dX2_findSystems_119 rfl ?_
    exact J17 _ _ ls 0 (by rw [if_pos c15] <;> rfl) hP hS (lv_sub hl [0, 1, 2, 3, 4, 5] rfl)
  · refine lv_iload_n hx hb dX2_findSystems_113 rfl (lv_at hl 3 rfl) ?_
    refine lv_iconst (v := 1) hx hb dX2_findSystems_114 rfl ?_
    refine lv_iadd hx hb dX2_findSystems_115 ?_
    refine lv_goto (tgt := 120) hx hb dX2_findSystems_116 (by decide) ?_
    exact J17 _ _ ls (y2 + 1) (by rw [if_neg c15] <;> rfl) hP hS (lv_sub hl [0, 1, 2, 3, 4, 5] rfl)
set_option maxHeartbeats 1000000 in
set_option maxRecDepth 100000 in
theorem c_Co_widthOfPhrase {l : Launch} {G : hyG} (Mr Mo : hyM) (a1 : Int32) (M : hyM) {res : Int32} (h : Co_widthOfPhrase a1 M = res) : hyC l yX2_widthOfPhrase (.code yX2_widthOfPhrase cX2_widthOfPhrase 2 (some .int)) 1 21 (0) G [.ref (adr G 21), .int a1] (M, Mr, Mo) (.inr (some (.int res)), (M, Mr, Mo)) := by
  refine hy_of (by decide +kernel) (Nat.le_of_ble_eq_true rfl) ?_
  intro p e s m below meth c hx hb hml hown hts hr hlocks ht hX hP hS ls hl
  have hl : lv_has ls 2 [(0, .ref (adr G 21)), (1, .int a1)] := hl
  rw [Co_widthOfPhrase] at h
  refine lv_aload_n hx hb dX2_widthOfPhrase_0 rfl (lv_at hl 0 rfl) ?_
  refine hy_get (T := (M, Mr, Mo)) (o := 21) (k := 1) (v := .ref (adr G 23)) hx hb hown hts hX hP (by decide) rfl rfl inX2g (by decide) q_243 rfl dX2_widthOfPhrase_1 ?_
  refine lv_iload_n hx hb dX2_widthOfPhrase_4 rfl (lv_at hl 1 rfl) ?_
  refine hy_ret (hy_rSN (T := (M, Mr, Mo)) (v := some (.int (atf 40 (M.1 23) a1))) (T2 := (M, Mr, Mo)) (As := [.ref (adr G 23), .int a1]) (rest := []) (n := 0) hx hb hml hown hts hX hP hS hl (c_at 23 40 (hy34 G (by decide)) (by decide) (fun _ _ => rfl) a1 (M, Mr, Mo)) m_Hp_at q_542 rfl rfl (Nat.le_of_ble_eq_true rfl) dX2_widthOfPhrase_5 ⟨Nat.le_of_ble_eq_true rfl, Nat.le_of_ble_eq_true rfl⟩ ⟨Nat.zero_le _, Nat.zero_le _⟩) hS (fun H locs hP hS => ?_)
  exact hy_iret (T := (M, Mr, Mo)) hx hb hr hlocks hP hS (Nat.zero_le _) (Nat.zero_le _) (by rw [← h] <;> rfl) dX2_widthOfPhrase_8
set_option maxHeartbeats 1000000 in
set_option maxRecDepth 100000 in
theorem c_Co_systemOf {l : Launch} {G : hyG} (Mr Mo : hyM) (a1 : Int32) (M : hyM) {res : Int32} (h : Co_systemOf a1 M = res) : hyC l yX2_systemOf (.code yX2_systemOf cX2_systemOf 2 (some .int)) 1 21 (0) G [.ref (adr G 21), .int a1] (M, Mr, Mo) (.inr (some (.int res)), (M, Mr, Mo)) := by
  refine hy_of (by decide +kernel) (Nat.le_of_ble_eq_true rfl) ?_
  intro p e s m below meth c hx hb hml hown hts hr hlocks ht hX hP hS ls hl
  have hl : lv_has ls 2 [(0, .ref (adr G 21)), (1, .int a1)] := hl
  rw [Co_systemOf] at h
  refine lv_aload_n hx hb dX2_systemOf_0 rfl (lv_at hl 0 rfl) ?_
  refine hy_get (T := (M, Mr, Mo)) (o := 21) (k := 2) (v := .ref (adr G 24)) hx hb hown hts hX hP (by decide) rfl rfl inX2g (by decide) q_244 rfl dX2_systemOf_1 ?_
  refine lv_iload_n hx hb dX2_systemOf_4 rfl (lv_at hl 1 rfl) ?_
  refine hy_ret (hy_rSN (T := (M, Mr, Mo)) (v := some (.int (atf 40 (M.1 24) a1))) (T2 := (M, Mr, Mo)) (As := [.ref (adr G 24), .int a1]) (rest := []) (n := 0) hx hb hml hown hts hX hP hS hl (c_at 24 40 (hy34 G (by decide)) (by decide) (fun _ _ => rfl) a1 (M, Mr, Mo)) m_Hp_at q_542 rfl rfl (Nat.le_of_ble_eq_true rfl) dX2_systemOf_5 ⟨Nat.le_of_ble_eq_true rfl, Nat.le_of_ble_eq_true rfl⟩ ⟨Nat.zero_le _, Nat.zero_le _⟩) hS (fun H locs hP hS => ?_)
  exact hy_iret (T := (M, Mr, Mo)) hx hb hr hlocks hP hS (Nat.zero_le _) (Nat.zero_le _) (by rw [← h] <;> rfl) dX2_systemOf_8
set_option maxHeartbeats 1000000 in
set_option maxRecDepth 100000 in
theorem c_In_push {l : Launch} {G : hyG} (Mr Mo : hyM) (a1 : Int32) (M : hyM) {res : hyM} (h : In_push a1 M = res) : hyC l yX3_push (.code yX3_push cX3_push 2 none) 1 22 (0) G [.ref (adr G 28), .int a1] (M, Mr, Mo) (.inr none, (res, Mr, Mo)) := by
  refine hy_of (by decide +kernel) (Nat.le_of_ble_eq_true rfl) ?_
  intro p e s m below meth c hx hb hml hown hts hr hlocks ht hX hP hS ls hl
  have hl : lv_has ls 2 [(0, .ref (adr G 28)), (1, .int a1)] := hl
  rw [In_push] at h
  refine lv_aload_n hx hb dX3_push_0 rfl (lv_at hl 0 rfl) ?_
  refine hy_get (T := (M, Mr, Mo)) (o := 28) (k := 0) (v := .ref (adr G 29)) hx hb hown hts hX hP (by decide) rfl rfl inX3g (by decide) q_283 rfl dX3_push_1 ?_
  refine lv_aload_n hx hb dX3_push_4 rfl (lv_at hl 0 rfl) ?_
  refine hy_get (T := (M, Mr, Mo)) (o := 28) (k := 1) (v := .int (M.1 28 1)) hx hb hown hts hX hP (by decide) rfl rfl inX3g (by decide) q_284 rfl dX3_push_5 ?_
  refine lv_iload_n hx hb dX3_push_8 rfl (lv_at hl 1 rfl) ?_
  refine hy_ret (hy_rSN (T := (M, Mr, Mo)) (v := none) (T2 := ((putf M 29 60 (M.1 28 1) a1), Mr, Mo)) (As := [.ref (adr G 29), .int (M.1 28 1), .int a1]) (rest := []) (n := 0) hx hb hml hown hts hX hP hS hl (c_put Mr Mo 29 60 (by decide) (by decide) (fun _ _ => rfl) (M.1 28 1) a1 M) m_Hp_put q_903 rfl rfl (Nat.le_of_ble_eq_true rfl) dX3_push_9 ⟨Nat.le_of_ble_eq_true rfl, Nat.le_of_ble_eq_true rfl⟩ ⟨Nat.zero_le _, Nat.zero_le _⟩) hS (fun H locs hP hS => ?_)
  refine lv_aload_n hx hb dX3_push_12 rfl (lv_at hl 0 rfl) ?_
  refine lv_dup hx hb dX3_push_13 rfl ?_
  refine hy_get (T := ((putf M 29 60 (M.1 28 1) a1), Mr, Mo)) (o := 28) (k := 1) (v := .int ((putf M 29 60 (M.1 28 1) a1).1 28 1)) hx hb hown hts hX hP (by decide) rfl rfl inX3g (by decide) q_284 rfl dX3_push_14 ?_
  refine lv_iconst (v := 1) hx hb dX3_push_17 rfl ?_
  refine lv_iadd hx hb dX3_push_18 ?_
  refine hy_putI (ty := .int) (T := ((putf M 29 60 (M.1 28 1) a1), Mr, Mo)) (T2 := ((wI (putf M 29 60 (M.1 28 1) a1) 28 1 (((putf M 29 60 (M.1 28 1) a1).1 28 1) + 1)), Mr, Mo)) (o := 28) (k := 1) hx hb hown hts hX hP hS (by decide) rfl rfl rfl rfl inX3g tyX3_ok nmX3 (by decide) q_284 rfl rfl rfl rfl (Nat.le_of_ble_eq_true rfl) dX3_push_19 (fun H locs hP hS => ?_)
  exact hy_vret (T := ((wI (putf M 29 60 (M.1 28 1) a1) 28 1 (((putf M 29 60 (M.1 28 1) a1).1 28 1) + 1)), Mr, Mo)) hx hb hr hlocks hP hS (Nat.zero_le _) (Nat.zero_le _) (by rw [← h] <;> rfl) dX3_push_22
set_option maxHeartbeats 1000000 in
set_option maxRecDepth 100000 in
theorem c_In_isOfSyllable {l : Launch} {G : hyG} (Mr Mo : hyM) (a1 : Int32) (M : hyM) {res : Bool} (h : In_isOfSyllable a1 M = res) : hyC l yX3_isOfSyllable (.code yX3_isOfSyllable cX3_isOfSyllable 1 (some .boolean)) 0 0 (0) G [.int a1] (M, Mr, Mo) (.inr (some (.int (bI res))), (M, Mr, Mo)) := by
  refine hy_of (by decide +kernel) (Nat.le_of_ble_eq_true rfl) ?_
  intro p e s m below meth c hx hb hml hown hts hr hlocks ht hX hP hS ls hl
  have hl : lv_has ls 1 [(0, .int a1)] := hl
  rw [In_isOfSyllable] at h
  refine lv_iload_n hx hb dX3_isOfSyllable_0 rfl (lv_at hl 0 rfl) ?_
  refine lv_bipush (v := 97) hx hb dX3_isOfSyllable_1 rfl ?_
  have J11 : ∀ (H : Heap) (locs : List Loc) (ls : Array Slot) (u1 : Int32), u1 = (bI (if a1 < 97 then (if a1 < 65 then (decide (a1 = 39)) else (if a1 ≤ 90 then true else (decide (a1 = 39)))) else (if a1 ≤ 122 then true else (if a1 < 65 then (decide (a1 = 39)) else (if a1 ≤ 90 then true else (decide (a1 = 39))))))) → va_P G.1 vwCl (wld G (M, Mr, Mo)) H → va_S (hyA G) s.heap H locs → lv_has ls 1 [(0, .int a1)] → W p l e { frames := 0, cells := 0, slots := 6 * 0, locals := 0 } s m ([.int a1] : List Value).toArray below meth c H locs 0 0 (vx_MQ below (hyQ G (.inr (some (.int (bI res))), (M, Mr, Mo))) (hyXQ G (.inr (some (.int (bI res))), (M, Mr, Mo))) ([.int a1] : List Value).toArray s 0 (6 * 0) (hyA G)) (F0 m 35 ls [.int u1]) := by
    intro H locs ls u1 eu1 hP hS hl
    subst eu1
    exact hy_zret (T := (M, Mr, Mo)) hx hb hr hlocks hP hS (Nat.zero_le _) (Nat.zero_le _) (bI_nar (if a1 < 97 then (if a1 < 65 then (decide (a1 = 39)) else (if a1 ≤ 90 then true else (decide (a1 = 39)))) else (if a1 ≤ 122 then true else (if a1 < 65 then (decide (a1 = 39)) else (if a1 ≤ 90 then true else (decide (a1 = 39))))))) (by rw [← h] <;> rfl) dX3_isOfSyllable_35
  refine lv_icmp_lt (tgt := 12) hx hb dX3_isOfSyllable_3 (by decide) (fun c1 => ?_) (fun c1 => ?_)
  · refine lv_iload_n hx hb dX3_isOfSyllable_12 rfl (lv_at hl 0 rfl) ?_
    refine lv_bipush (v := 65) hx hb dX3_isOfSyllable_13 rfl ?_
    refine lv_icmp_lt (tgt := 24) hx hb dX3_isOfSyllable_15 (by decide) (fun c2 => ?_) (fun c2 => ?_)
    · refine lv_iload_n hx hb dX3_isOfSyllable_24 rfl (lv_at hl 0 rfl) ?_
      refine lv_bipush (v := 39) hx hb dX3_isOfSyllable_25 rfl ?_
      refine lv_icmp_ne (tgt := 34) hx hb dX3_isOfSyllable_27 (by decide) (fun c3 => ?_) (fun c3 => ?_)
      · refine lv_iconst (v := 0) hx hb dX3_isOfSyllable_34 rfl ?_
        exact J11 _ _ ls 0 (by rw [if_pos c1, if_pos c2, decide_eq_false c3] <;> rfl) hP hS (lv_sub hl [0] rfl)
      · refine lv_iconst (v := 1) hx hb dX3_isOfSyllable_30 rfl ?_
        refine lv_goto (tgt := 35) hx hb dX3_isOfSyllable_31 (by decide) ?_
        exact J11 _ _ ls 1 (by rw [if_pos c1, if_pos c2, decide_eq_true c3] <;> rfl) hP hS (lv_sub hl [0] rfl)
    · refine lv_iload_n hx hb dX3_isOfSyllable_18 rfl (lv_at hl 0 rfl) ?_
      refine lv_bipush (v := 90) hx hb dX3_isOfSyllable_19 rfl ?_
      refine lv_icmp_le (tgt := 30) hx hb dX3_isOfSyllable_21 (by decide) (fun c4 => ?_) (fun c4 => ?_)
      · refine lv_iconst (v := 1) hx hb dX3_isOfSyllable_30 rfl ?_
        refine lv_goto (tgt := 35) hx hb dX3_isOfSyllable_31 (by decide) ?_
        exact J11 _ _ ls 1 (by rw [if_pos c1, if_neg c2, if_pos c4] <;> rfl) hP hS (lv_sub hl [0] rfl)
      · refine lv_iload_n hx hb dX3_isOfSyllable_24 rfl (lv_at hl 0 rfl) ?_
        refine lv_bipush (v := 39) hx hb dX3_isOfSyllable_25 rfl ?_
        refine lv_icmp_ne (tgt := 34) hx hb dX3_isOfSyllable_27 (by decide) (fun c5 => ?_) (fun c5 => ?_)
        · refine lv_iconst (v := 0) hx hb dX3_isOfSyllable_34 rfl ?_
          exact J11 _ _ ls 0 (by rw [if_pos c1, if_neg c2, if_neg c4, decide_eq_false c5] <;> rfl) hP hS (lv_sub hl [0] rfl)
        · refine lv_iconst (v := 1) hx hb dX3_isOfSyllable_30 rfl ?_
          refine lv_goto (tgt := 35) hx hb dX3_isOfSyllable_31 (by decide) ?_
          exact J11 _ _ ls 1 (by rw [if_pos c1, if_neg c2, if_neg c4, decide_eq_true c5] <;> rfl) hP hS (lv_sub hl [0] rfl)
  · refine lv_iload_n hx hb dX3_isOfSyllable_6 rfl (lv_at hl 0 rfl) ?_
    refine lv_bipush (v := 122) hx hb dX3_isOfSyllable_7 rfl ?_
    refine lv_icmp_le (tgt := 30) hx hb dX3_isOfSyllable_9 (by decide) (fun c6 => ?_) (fun c6 => ?_)
    · refine lv_iconst (v := 1) hx hb dX3_isOfSyllable_30 rfl ?_
      refine lv_goto (tgt := 35) hx hb dX3_isOfSyllable_31 (by decide) ?_
      exact J11 _ _ ls 1 (by rw [if_neg c1, if_pos c6] <;> rfl) hP hS (lv_sub hl [0] rfl)
    · refine lv_iload_n hx hb dX3_isOfSyllable_12 rfl (lv_at hl 0 rfl) ?_
      refine lv_bipush (v := 65) hx hb dX3_isOfSyllable_13 rfl ?_
      refine lv_icmp_lt (tgt := 24) hx hb dX3_isOfSyllable_15 (by decide) (fun c7 => ?_) (fun c7 => ?_)
      · refine lv_iload_n hx hb dX3_isOfSyllable_24 rfl (lv_at hl 0 rfl) ?_
        refine lv_bipush (v := 39) hx hb dX3_isOfSyllable_25 rfl ?_
        refine lv_icmp_ne (tgt := 34) hx hb dX3_isOfSyllable_27 (by decide) (fun c8 => ?_) (fun c8 => ?_)
        · refine lv_iconst (v := 0) hx hb dX3_isOfSyllable_34 rfl ?_
          exact J11 _ _ ls 0 (by rw [if_neg c1, if_neg c6, if_pos c7, decide_eq_false c8] <;> rfl) hP hS (lv_sub hl [0] rfl)
        · refine lv_iconst (v := 1) hx hb dX3_isOfSyllable_30 rfl ?_
          refine lv_goto (tgt := 35) hx hb dX3_isOfSyllable_31 (by decide) ?_
          exact J11 _ _ ls 1 (by rw [if_neg c1, if_neg c6, if_pos c7, decide_eq_true c8] <;> rfl) hP hS (lv_sub hl [0] rfl)
      · refine lv_iload_n hx hb dX3_isOfSyllable_18 rfl (lv_at hl 0 rfl) ?_
        refine lv_bipush (v := 90) hx hb dX3_isOfSyllable_19 rfl ?_
        refine lv_icmp_le (tgt := 30) hx hb dX3_isOfSyllable_21 (by decide) (fun c9 => ?_) (fun c9 => ?_)
        · refine lv_iconst (v := 1) hx hb dX3_isOfSyllable_30 rfl ?_
          refine lv_goto (tgt := 35) hx hb dX3_isOfSyllable_31 (by decide) ?_
          exact J11 _ _ ls 1 (by rw [if_neg c1, if_neg c6, if_neg c7, if_pos c9] <;> rfl) hP hS (lv_sub hl [0] rfl)
        · refine lv_iload_n hx hb dX3_isOfSyllable_24 rfl (lv_at hl 0 rfl) ?_
          refine lv_bipush (v := 39) hx hb dX3_isOfSyllable_25 rfl ?_
          refine lv_icmp_ne (tgt := 34) hx hb dX3_isOfSyllable_27 (by decide) (fun c10 => ?_) (fun c10 => ?_)
          · refine lv_iconst (v := 0) hx hb dX3_isOfSyllable_34 rfl ?_
            exact J11 _ _ ls 0 (by rw [if_neg c1, if_neg c6, if_neg c7, if_neg c9, decide_eq_false c10] <;> rfl) hP hS (lv_sub hl [0] rfl)
          · refine lv_iconst (v := 1) hx hb dX3_isOfSyllable_30 rfl ?_
            refine lv_goto (tgt := 35) hx hb dX3_isOfSyllable_31 (by decide) ?_
            exact J11 _ _ ls 1 (by rw [if_neg c1, if_neg c6, if_neg c7, if_neg c9, decide_eq_true c10] <;> rfl) hP hS (lv_sub hl [0] rfl)
set_option maxHeartbeats 1000000 in
set_option maxRecDepth 100000 in
theorem c_In_errorAsLine {l : Launch} {G : hyG} (Mr Mo : hyM) (M : hyM) {res : Int32} (h : In_errorAsLine M = some res) : hyC l yX3_errorAsLine (.code yX3_errorAsLine cX3_errorAsLine 4 (some .int)) 2 42 (0) G [.ref (adr G 28)] (M, Mr, Mo) (.inr (some (.int res)), (M, Mr, Mo)) := by
  refine hy_of (by decide +kernel) (Nat.le_of_ble_eq_true rfl) ?_
  intro p e s m below meth c hx hb hml hown hts hr hlocks ht hX hP hS ls hl
  have hl : lv_has ls 4 [(0, .ref (adr G 28))] := hl
  rw [In_errorAsLine] at h
  refine lv_iconst (v := 0) hx hb dX3_errorAsLine_0 rfl ?_
  refine lv_istore_n (lv' := [(1, .int 0), (0, .ref (adr G 28))]) hx hb dX3_errorAsLine_1 rfl hl (by decide) rfl (fun ls hl => ?_)
  refine lv_iconst (v := 0) hx hb dX3_errorAsLine_2 rfl ?_
  refine lv_istore_n (lv' := [(2, .int 0), (1, .int 0), (0, .ref (adr G 28))]) hx hb dX3_errorAsLine_3 rfl hl (by decide) rfl (fun ls hl => ?_)
  have L14 : ∀ (f : Nat) (x1 : Int32) (x2 : Int32) (qL : (Int32 ⊕ (Int32 × Int32))) (h : In_errorAsLine_L4 M f x1 x2 = some qL) (hq : ∀ r9, qL = .inl r9 → res = r9) (H : Heap) (locs : List Loc) (ls : Array Slot) (hP : va_P G.1 vwCl (wld G (M, Mr, Mo)) H) (hS : va_S (hyA G) s.heap H locs) (hl : lv_has ls 4 [(0, .ref (adr G 28)), (1, .int x1), (2, .int x2)]) (kk : ∀ (y1 : Int32) (y2 : Int32), qL = .inr (y1, y2) → ∀ (H : Heap) (locs : List Loc) (ls : Array Slot), va_P G.1 vwCl (wld G (M, Mr, Mo)) H → va_S (hyA G) s.heap H locs → lv_has ls 4 [(0, .ref (adr G 28)), (1, .int y1), (2, .int y2)] → W p l e { frames := 2, cells := 0, slots := 6 * 0, locals := 42 } s m ([.ref (adr G 28)] : List Value).toArray below meth c H locs 0 0 (vx_MQ below (hyQ G (.inr (some (.int res)), (M, Mr, Mo))) (hyXQ G (.inr (some (.int res)), (M, Mr, Mo))) ([.ref (adr G 28)] : List Value).toArray s 0 (6 * 0) (hyA G)) (F0 m 66 ls [])), W p l e { frames := 2, cells := 0, slots := 6 * 0, locals := 42 } s m ([.ref (adr G 28)] : List Value).toArray below meth c H locs 0 0 (vx_MQ below (hyQ G (.inr (some (.int res)), (M, Mr, Mo))) (hyXQ G (.inr (some (.int res)), (M, Mr, Mo))) ([.ref (adr G 28)] : List Value).toArray s 0 (6 * 0) (hyA G)) (F0 m 4 ls []) := by
    intro f
    induction f with
    | zero =>
      intro x1 x2 qL h hq H locs ls hP hS hl kk
      rw [In_errorAsLine_L4] at h
      cases h
    | succ f ih =>
      intro x1 x2 qL h hq H locs ls hP hS hl kk
      rw [In_errorAsLine_L4] at h
      refine lv_iload_n hx hb dX3_errorAsLine_4 rfl (lv_at hl 2 rfl) ?_
      refine lv_aload_n hx hb dX3_errorAsLine_5 rfl (lv_at hl 0 rfl) ?_
      refine hy_get (T := (M, Mr, Mo)) (o := 28) (k := 1) (v := .int (M.1 28 1)) hx hb hown hts hX hP (by decide) rfl rfl inX3g (by decide) q_284 rfl dX3_errorAsLine_6 ?_
      refine lv_icmp_ge (tgt := 66) hx hb dX3_errorAsLine_9 (by decide) (fun c3 => ?_) (fun c3 => ?_)
      · rw [if_pos c3] at h
        exact kk x1 x2 (Option.some.inj h).symm _ _ ls hP hS (lv_sub hl [0, 1, 2] rfl)
      · rw [if_neg c3] at h
        refine lv_aload_n hx hb dX3_errorAsLine_12 rfl (lv_at hl 0 rfl) ?_
        refine lv_iload_n hx hb dX3_errorAsLine_13 rfl (lv_at hl 2 rfl) ?_
        refine hy_ret (hy_rV0 (T := (M, Mr, Mo)) (v := some (.int (In_codeAt x2 M))) (T2 := (M, Mr, Mo)) (As := [.int x2]) (rest := []) (n := 0) hx hb hml hown hts hX hP hS hl (c_In_codeAt Mr Mo x2 M rfl) m_In_codeAt q_912 (hy_recv hX hP 28 3 (by decide) rfl rfl) rfl rfl (Nat.le_of_ble_eq_true rfl) dX3_errorAsLine_14 ⟨Nat.le_of_ble_eq_true rfl, Nat.le_of_ble_eq_true rfl⟩ ⟨Nat.zero_le _, Nat.zero_le _⟩) hS (fun H locs hP hS => ?_)
        refine lv_istore_n (lv' := [(3, .int (In_codeAt x2 M)), (0, .ref (adr G 28)), (1, .int x1), (2, .int x2)]) hx hb dX3_errorAsLine_17 rfl hl (by decide) rfl (fun ls hl => ?_)
        refine lv_iload_n hx hb dX3_errorAsLine_18 rfl (lv_at hl 0 rfl) ?_
        refine hy_ret (hy_rS0 (T := (M, Mr, Mo)) (v := some (.int (bI (In_isOfSyllable (In_codeAt x2 M) M)))) (T2 := (M, Mr, Mo)) (As := [.int (In_codeAt x2 M)]) (rest := []) (n := 0) hx hb hml hown hts hX hP hS hl (c_In_isOfSyllable Mr Mo (In_codeAt x2 M) M rfl) m_In_isOfSyllable q_931 rfl rfl (Nat.le_of_ble_eq_true rfl) dX3_errorAsLine_19 ⟨Nat.le_of_ble_eq_true rfl, Nat.le_of_ble_eq_true rfl⟩ ⟨Nat.zero_le _, Nat.zero_le _⟩) hS (fun H locs hP hS => ?_)
        have K12 : ∀ (H : Heap) (locs : List Loc), (if (In_isOfSyllable (In_codeAt x2 M) M) then (!decide (12 ≤ x1)) else false) = true → va_P G.1 vwCl (wld G (M, Mr, Mo)) H → va_S (hyA G) s.heap H locs → W p l e { frames := 2, cells := 0, slots := 6 * 0, locals := 42 } s m ([.ref (adr G 28)] : List Value).toArray below meth c H locs 0 0 (vx_MQ below (hyQ G (.inr (some (.int res)), (M, Mr, Mo))) (hyXQ G (.inr (some (.int res)), (M, Mr, Mo))) ([.ref (adr G 28)] : List Value).toArray s 0 (6 * 0) (hyA G)) (F0 m 31 ls []) := by
          intro H locs cb hP hS
          rw [if_pos cb] at h
          refine lv_iinc (v := (x1 + 1)) (lv' := [(1, .int (x1 + 1)), (3, .int (In_codeAt x2 M)), (0, .ref (adr G 28)), (2, .int x2)]) hx hb dX3_errorAsLine_31 hl (k := 2) rfl rfl (by decide) rfl (fun ls hl => ?_)
          refine lv_goto (tgt := 60) hx hb dX3_errorAsLine_34 (by decide) ?_
          refine lv_iinc (v := (x2 + 1)) (lv' := [(2, .int (x2 + 1)), (1, .int (x1 + 1)), (3, .int (In_codeAt x2 M)), (0, .ref (adr G 28))]) hx hb dX3_errorAsLine_60 hl (k := 3) rfl rfl (by decide) rfl (fun ls hl => ?_)
          refine lv_goto (tgt := 4) hx hb dX3_errorAsLine_63 (by decide) ?_
          exact ih (x1 + 1) (x2 + 1) _ h hq _ _ ls hP hS (lv_sub hl [3, 1, 0] rfl) kk
        have K13 : ∀ (H : Heap) (locs : List Loc), ¬ (if (In_isOfSyllable (In_codeAt x2 M) M) then (!decide (12 ≤ x1)) else false) = true → va_P G.1 vwCl (wld G (M, Mr, Mo)) H → va_S (hyA G) s.heap H locs → W p l e { frames := 2, cells := 0, slots := 6 * 0, locals := 42 } s m ([.ref (adr G 28)] : List Value).toArray below meth c H locs 0 0 (vx_MQ below (hyQ G (.inr (some (.int res)), (M, Mr, Mo))) (hyXQ G (.inr (some (.int res)), (M, Mr, Mo))) ([.ref (adr G 28)] : List Value).toArray s 0 (6 * 0) (hyA G)) (F0 m 37 ls []) := by
          intro H locs cb hP hS
          rw [if_neg cb] at h
          refine lv_iload_n hx hb dX3_errorAsLine_37 rfl (lv_at hl 0 rfl) ?_
          refine lv_bipush (v := 45) hx hb dX3_errorAsLine_38 rfl ?_
          have K10 : ∀ (H : Heap) (locs : List Loc), (if (In_codeAt x2 M) = 45 then (!decide (x1 ≤ 0)) else (if (In_codeAt x2 M) = 32 then (!decide (x1 ≤ 0)) else false)) = true → va_P G.1 vwCl (wld G (M, Mr, Mo)) H → va_S (hyA G) s.heap H locs → W p l e { frames := 2, cells := 0, slots := 6 * 0, locals := 42 } s m ([.ref (adr G 28)] : List Value).toArray below meth c H locs 0 0 (vx_MQ below (hyQ G (.inr (some (.int res)), (M, Mr, Mo))) (hyXQ G (.inr (some (.int res)), (M, Mr, Mo))) ([.ref (adr G 28)] : List Value).toArray s 0 (6 * 0) (hyA G)) (F0 m 53 ls []) := by
            intro H locs cb hP hS
            rw [if_pos cb] at h
            refine lv_iconst (v := 0) hx hb dX3_errorAsLine_53 rfl ?_
            refine lv_istore_n (lv' := [(1, .int 0), (3, .int (In_codeAt x2 M)), (0, .ref (adr G 28)), (2, .int x2)]) hx hb dX3_errorAsLine_54 rfl hl (by decide) rfl (fun ls hl => ?_)
            refine lv_goto (tgt := 60) hx hb dX3_errorAsLine_55 (by decide) ?_
            refine lv_iinc (v := (x2 + 1)) (lv' := [(2, .int (x2 + 1)), (1, .int 0), (3, .int (In_codeAt x2 M)), (0, .ref (adr G 28))]) hx hb dX3_errorAsLine_60 hl (k := 3) rfl rfl (by decide) rfl (fun ls hl => ?_)
            refine lv_goto (tgt := 4) hx hb dX3_errorAsLine_63 (by decide) ?_
            exact ih 0 (x2 + 1) _ h hq _ _ ls hP hS (lv_sub hl [3, 1, 0] rfl) kk
          have K11 : ∀ (H : Heap) (locs : List Loc), ¬ (if (In_codeAt x2 M) = 45 then (!decide (x1 ≤ 0)) else (if (In_codeAt x2 M) = 32 then (!decide (x1 ≤ 0)) else false)) = true → va_P G.1 vwCl (wld G (M, Mr, Mo)) H → va_S (hyA G) s.heap H locs → W p l e { frames := 2, cells := 0, slots := 6 * 0, locals := 42 } s m ([.ref (adr G 28)] : List Value).toArray below meth c H locs 0 0 (vx_MQ below (hyQ G (.inr (some (.int res)), (M, Mr, Mo))) (hyXQ G (.inr (some (.int res)), (M, Mr, Mo))) ([.ref (adr G 28)] : List Value).toArray s 0 (6 * 0) (hyA G)) (F0 m 58 ls []) := by
            intro H locs cb hP hS
            rw [if_neg cb] at h
            refine lv_iload_n hx hb dX3_errorAsLine_58 rfl (lv_at hl 3 rfl) ?_
            exact hy_iret (T := (M, Mr, Mo)) hx hb hr hlocks hP hS (Nat.zero_le _) (Nat.zero_le _) (by rw [← (hq _ (Option.some.inj h).symm).symm] <;> rfl) dX3_errorAsLine_59
          refine lv_icmp_eq (tgt := 49) hx hb dX3_errorAsLine_40 (by decide) (fun c6 => ?_) (fun c6 => ?_)
          · refine lv_iload_n hx hb dX3_errorAsLine_49 rfl (lv_at hl 2 rfl) ?_
            refine lv_if_le (tgt := 58) hx hb dX3_errorAsLine_50 (by decide) (fun c7 => ?_) (fun c7 => ?_)
            · exact K11 _ _ (by rw [if_pos c6, decide_eq_true c7] <;> first | rfl | decide) hP hS
            · exact K10 _ _ (by rw [if_pos c6, decide_eq_false c7] <;> first | rfl | decide) hP hS
          · refine lv_iload_n hx hb dX3_errorAsLine_43 rfl (lv_at hl 0 rfl) ?_
            refine lv_bipush (v := 32) hx hb dX3_errorAsLine_44 rfl ?_
            refine lv_icmp_ne (tgt := 58) hx hb dX3_errorAsLine_46 (by decide) (fun c8 => ?_) (fun c8 => ?_)
            · exact K11 _ _ (by rw [if_neg c6, if_neg c8] <;> first | rfl | decide) hP hS
            · refine lv_iload_n hx hb dX3_errorAsLine_49 rfl (lv_at hl 2 rfl) ?_
              refine lv_if_le (tgt := 58) hx hb dX3_errorAsLine_50 (by decide) (fun c9 => ?_) (fun c9 => ?_)
              · exact K11 _ _ (by rw [if_neg c6, if_pos c8, decide_eq_true c9] <;> first | rfl | decide) hP hS
              · exact K10 _ _ (by rw [if_neg c6, if_pos c8, decide_eq_false c9] <;> first | rfl | decide) hP hS
        refine lv_if_eq (tgt := 37) hx hb dX3_errorAsLine_22 (by decide) (fun c4 => ?_) (fun c4 => ?_)
        · exact K13 _ _ (by rw [if_neg (bI_0 c4)] <;> first | rfl | decide) hP hS
        · refine lv_iload_n hx hb dX3_errorAsLine_25 rfl (lv_at hl 2 rfl) ?_
          refine lv_bipush (v := 12) hx hb dX3_errorAsLine_26 rfl ?_
          refine lv_icmp_ge (tgt := 37) hx hb dX3_errorAsLine_28 (by decide) (fun c5 => ?_) (fun c5 => ?_)
          · exact K13 _ _ (by rw [if_pos (bI_1 c4), decide_eq_true c5] <;> first | rfl | decide) hP hS
          · exact K12 _ _ (by rw [if_pos (bI_1 c4), decide_eq_false c5] <;> first | rfl | decide) hP hS
  obtain ⟨q15, hq15, h⟩ := hy_bind h
  refine L14 hyFu 0 0 q15 hq15 (fun r9 e9 => by subst e9; exact (Option.some.inj h).symm) _ _ ls hP hS (lv_sub hl [2, 1, 0] rfl) ?_
  intro y1 y2 e9 H locs ls hP hS hl
  subst e9
  try dsimp only at h
  refine lv_aload_n hx hb dX3_errorAsLine_66 rfl (lv_at hl 0 rfl) ?_
  refine hy_get (T := (M, Mr, Mo)) (o := 28) (k := 1) (v := .int (M.1 28 1)) hx hb hown hts hX hP (by decide) rfl rfl inX3g (by decide) q_284 rfl dX3_errorAsLine_67 ?_
  exact hy_iret (T := (M, Mr, Mo)) hx hb hr hlocks hP hS (Nat.zero_le _) (Nat.zero_le _) (by rw [← (Option.some.inj h)] <;> rfl) dX3_errorAsLine_70
set_option maxHeartbeats 1000000 in
set_option maxRecDepth 100000 in
theorem c_In_goesOn {l : Launch} {G : hyG} (Mr Mo : hyM) (a1 : Int32) (a2 : Int32) (M : hyM) {res : Bool} (h : In_goesOn a1 a2 M = res) : hyC l yX3_goesOn (.code yX3_goesOn cX3_goesOn 3 (some .boolean)) 0 0 (0) G [.int a1, .int a2] (M, Mr, Mo) (.inr (some (.int (bI res))), (M, Mr, Mo)) := by
  refine hy_of (by decide +kernel) (Nat.le_of_ble_eq_true rfl) ?_
  intro p e s m below meth c hx hb hml hown hts hr hlocks ht hX hP hS ls hl
  have hl : lv_has ls 3 [(0, .int a1), (1, .int a2)] := hl
  rw [In_goesOn] at h
  refine lv_bipush (v := 10) hx hb dX3_goesOn_0 rfl ?_
  refine lv_iload_n hx hb dX3_goesOn_2 rfl (lv_at hl 0 rfl) ?_
  refine lv_imul hx hb dX3_goesOn_3 ?_
  refine lv_iload_n hx hb dX3_goesOn_4 rfl (lv_at hl 1 rfl) ?_
  refine lv_bipush (v := 48) hx hb dX3_goesOn_5 rfl ?_
  refine lv_isub hx hb dX3_goesOn_7 ?_
  refine lv_iadd hx hb dX3_goesOn_8 ?_
  refine lv_istore_n (lv' := [(2, .int ((10 * a1) + (a2 - 48))), (0, .int a1), (1, .int a2)]) hx hb dX3_goesOn_9 rfl hl (by decide) rfl (fun ls hl => ?_)
  refine lv_iload_n hx hb dX3_goesOn_10 rfl (lv_at hl 0 rfl) ?_
  have J3 : ∀ (H : Heap) (locs : List Loc) (ls : Array Slot) (u1 : Int32), u1 = (bI (if ((10 * a1) + (a2 - 48)) ≤ 0 then false else (!decide (20 < ((10 * a1) + (a2 - 48)))))) → va_P G.1 vwCl (wld G (M, Mr, Mo)) H → va_S (hyA G) s.heap H locs → lv_has ls 3 [(0, .int a1), (1, .int a2), (2, .int ((10 * a1) + (a2 - 48)))] → W p l e { frames := 0, cells := 0, slots := 6 * 0, locals := 0 } s m ([.int a1, .int a2] : List Value).toArray below meth c H locs 0 0 (vx_MQ below (hyQ G (.inr (some (.int (bI res))), (M, Mr, Mo))) (hyXQ G (.inr (some (.int (bI res))), (M, Mr, Mo))) ([.int a1, .int a2] : List Value).toArray s 0 (6 * 0) (hyA G)) (F0 m 25 ls [.int u1]) := by
    intro H locs ls u1 eu1 hP hS hl
    subst eu1
    exact hy_zret (T := (M, Mr, Mo)) hx hb hr hlocks hP hS (Nat.zero_le _) (Nat.zero_le _) (bI_nar (if ((10 * a1) + (a2 - 48)) ≤ 0 then false else (!decide (20 < ((10 * a1) + (a2 - 48)))))) (by rw [← h] <;> rfl) dX3_goesOn_25
  refine lv_if_le (tgt := 24) hx hb dX3_goesOn_11 (by decide) (fun c1 => ?_) (fun c1 => ?_)
  · refine lv_iconst (v := 0) hx hb dX3_goesOn_24 rfl ?_
    exact J3 _ _ ls 0 (by rw [if_pos c1] <;> rfl) hP hS (lv_sub hl [1, 2, 0] rfl)
  · refine lv_iload_n hx hb dX3_goesOn_14 rfl (lv_at hl 0 rfl) ?_
    refine lv_bipush (v := 20) hx hb dX3_goesOn_15 rfl ?_
    refine lv_icmp_gt (tgt := 24) hx hb dX3_goesOn_17 (by decide) (fun c2 => ?_) (fun c2 => ?_)
    · refine lv_iconst (v := 0) hx hb dX3_goesOn_24 rfl ?_
      exact J3 _ _ ls 0 (by rw [if_neg c1, decide_eq_true c2] <;> rfl) hP hS (lv_sub hl [1, 2, 0] rfl)
    · refine lv_iconst (v := 1) hx hb dX3_goesOn_20 rfl ?_
      refine lv_goto (tgt := 25) hx hb dX3_goesOn_21 (by decide) ?_
      exact J3 _ _ ls 1 (by rw [if_neg c1, decide_eq_false c2] <;> rfl) hP hS (lv_sub hl [1, 2, 0] rfl)
set_option maxHeartbeats 1000000 in
set_option maxRecDepth 100000 in
theorem c_Hp_flag {l : Launch} {G : hyG} (Mr Mo : hyM) (a1 : Bool) (M : hyM) {res : Int32} (h : Hp_flag a1 M = res) : hyC l yX10_flag (.code yX10_flag cX10_flag 1 (some .int)) 0 0 (0) G [.int (bI a1)] (M, Mr, Mo) (.inr (some (.int res)), (M, Mr, Mo)) := by
  refine hy_of (by decide +kernel) (Nat.le_of_ble_eq_true rfl) ?_
  intro p e s m below meth c hx hb hml hown hts hr hlocks ht hX hP hS ls hl
  have hl : lv_has ls 1 [(0, .int (bI a1))] := hl
  rw [Hp_flag] at h
  refine lv_iload_n hx hb dX10_flag_0 rfl (lv_at hl 0 rfl) ?_
  have J2 : ∀ (H : Heap) (locs : List Loc) (ls : Array Slot) (u1 : Int32), u1 = (bI a1) → va_P G.1 vwCl (wld G (M, Mr, Mo)) H → va_S (hyA G) s.heap H locs → lv_has ls 1 [(0, .int (bI a1))] → W p l e { frames := 0, cells := 0, slots := 6 * 0, locals := 0 } s m ([.int (bI a1)] : List Value).toArray below meth c H locs 0 0 (vx_MQ below (hyQ G (.inr (some (.int res)), (M, Mr, Mo))) (hyXQ G (.inr (some (.int res)), (M, Mr, Mo))) ([.int (bI a1)] : List Value).toArray s 0 (6 * 0) (hyA G)) (F0 m 9 ls [.int u1]) := by
    intro H locs ls u1 eu1 hP hS hl
    subst eu1
    exact hy_iret (T := (M, Mr, Mo)) hx hb hr hlocks hP hS (Nat.zero_le _) (Nat.zero_le _) (by rw [← h] <;> rfl) dX10_flag_9
  refine lv_if_eq (tgt := 8) hx hb dX10_flag_1 (by decide) (fun c1 => ?_) (fun c1 => ?_)
  · refine lv_iconst (v := 0) hx hb dX10_flag_8 rfl ?_
    exact J2 _ _ ls 0 (by rw [(bI_z c1)] <;> rfl) hP hS (lv_sub hl [0] rfl)
  · refine lv_iconst (v := 1) hx hb dX10_flag_4 rfl ?_
    refine lv_goto (tgt := 9) hx hb dX10_flag_5 (by decide) ?_
    exact J2 _ _ ls 1 (by rw [(bI_1 c1)] <;> rfl) hP hS (lv_sub hl [0] rfl)
set_option maxHeartbeats 1000000 in
set_option maxRecDepth 100000 in
theorem c_In_canDouble {l : Launch} {G : hyG} (Mr Mo : hyM) (a1 : Int32) (M : hyM) {res : Bool} (h : In_canDouble a1 M = res) : hyC l yX3_canDouble (.code yX3_canDouble cX3_canDouble 1 (some .boolean)) 0 0 (0) G [.int a1] (M, Mr, Mo) (.inr (some (.int (bI res))), (M, Mr, Mo)) := by
  refine hy_of (by decide +kernel) (Nat.le_of_ble_eq_true rfl) ?_
  intro p e s m below meth c hx hb hml hown hts hr hlocks ht hX hP hS ls hl
  have hl : lv_has ls 1 [(0, .int a1)] := hl
  rw [In_canDouble] at h
  refine lv_iload_n hx hb dX3_canDouble_0 rfl (lv_at hl 0 rfl) ?_
  have J3 : ∀ (H : Heap) (locs : List Loc) (ls : Array Slot) (u1 : Int32), u1 = (bI (if a1 ≤ 0 then false else (!decide (24 < (2 * a1))))) → va_P G.1 vwCl (wld G (M, Mr, Mo)) H → va_S (hyA G) s.heap H locs → lv_has ls 1 [(0, .int a1)] → W p l e { frames := 0, cells := 0, slots := 6 * 0, locals := 0 } s m ([.int a1] : List Value).toArray below meth c H locs 0 0 (vx_MQ below (hyQ G (.inr (some (.int (bI res))), (M, Mr, Mo))) (hyXQ G (.inr (some (.int (bI res))), (M, Mr, Mo))) ([.int a1] : List Value).toArray s 0 (6 * 0) (hyA G)) (F0 m 17 ls [.int u1]) := by
    intro H locs ls u1 eu1 hP hS hl
    subst eu1
    exact hy_zret (T := (M, Mr, Mo)) hx hb hr hlocks hP hS (Nat.zero_le _) (Nat.zero_le _) (bI_nar (if a1 ≤ 0 then false else (!decide (24 < (2 * a1))))) (by rw [← h] <;> rfl) dX3_canDouble_17
  refine lv_if_le (tgt := 16) hx hb dX3_canDouble_1 (by decide) (fun c1 => ?_) (fun c1 => ?_)
  · refine lv_iconst (v := 0) hx hb dX3_canDouble_16 rfl ?_
    exact J3 _ _ ls 0 (by rw [if_pos c1] <;> rfl) hP hS (lv_sub hl [0] rfl)
  · refine lv_iconst (v := 2) hx hb dX3_canDouble_4 rfl ?_
    refine lv_iload_n hx hb dX3_canDouble_5 rfl (lv_at hl 0 rfl) ?_
    refine lv_imul hx hb dX3_canDouble_6 ?_
    refine lv_bipush (v := 24) hx hb dX3_canDouble_7 rfl ?_
    refine lv_icmp_gt (tgt := 16) hx hb dX3_canDouble_9 (by decide) (fun c2 => ?_) (fun c2 => ?_)
    · refine lv_iconst (v := 0) hx hb dX3_canDouble_16 rfl ?_
      exact J3 _ _ ls 0 (by rw [if_neg c1, decide_eq_true c2] <;> rfl) hP hS (lv_sub hl [0] rfl)
    · refine lv_iconst (v := 1) hx hb dX3_canDouble_12 rfl ?_
      refine lv_goto (tgt := 17) hx hb dX3_canDouble_13 (by decide) ?_
      exact J3 _ _ ls 1 (by rw [if_neg c1, decide_eq_false c2] <;> rfl) hP hS (lv_sub hl [0] rfl)
set_option maxHeartbeats 1000000 in
set_option maxRecDepth 100000 in
theorem c_In_errorAsMetre {l : Launch} {G : hyG} (Mr Mo : hyM) (M : hyM) {res : Int32} (h : In_errorAsMetre M = some res) : hyC l yX3_errorAsMetre (.code yX3_errorAsMetre cX3_errorAsMetre 6 (some .int)) 2 42 (0) G [.ref (adr G 28)] (M, Mr, Mo) (.inr (some (.int res)), (M, Mr, Mo)) := by
  refine hy_of (by decide +kernel) (Nat.le_of_ble_eq_true rfl) ?_
  intro p e s m below meth c hx hb hml hown hts hr hlocks ht hX hP hS ls hl
  have hl : lv_has ls 6 [(0, .ref (adr G 28))] := hl
  rw [In_errorAsMetre] at h
  refine lv_iconst (v := 0) hx hb dX3_errorAsMetre_0 rfl ?_
  refine lv_istore_n (lv' := [(1, .int 0), (0, .ref (adr G 28))]) hx hb dX3_errorAsMetre_1 rfl hl (by decide) rfl (fun ls hl => ?_)
  refine lv_iconst (v := 0) hx hb dX3_errorAsMetre_2 rfl ?_
  refine lv_istore_n (lv' := [(2, .int 0), (1, .int 0), (0, .ref (adr G 28))]) hx hb dX3_errorAsMetre_3 rfl hl (by decide) rfl (fun ls hl => ?_)
  refine lv_iconst (v := 0) hx hb dX3_errorAsMetre_4 rfl ?_
  refine lv_istore_n (lv' := [(3, .int 0), (2, .int 0), (1, .int 0), (0, .ref (adr G 28))]) hx hb dX3_errorAsMetre_5 rfl hl (by decide) rfl (fun ls hl => ?_)
  refine lv_iconst (v := 0) hx hb dX3_errorAsMetre_6 rfl ?_
  refine lv_istore (lv' := [(4, .int 0), (3, .int 0), (2, .int 0), (1, .int 0), (0, .ref (adr G 28))]) hx hb dX3_errorAsMetre_7 hl (by decide) rfl (fun ls hl => ?_)
  have L24 : ∀ (f : Nat) (x1 : Int32) (x2 : Int32) (x3 : Bool) (x4 : Int32) (qL : (Int32 ⊕ (Int32 × Int32 × Bool × Int32))) (h : In_errorAsMetre_L9 M f x1 x2 x3 x4 = some qL) (hq : ∀ r9, qL = .inl r9 → res = r9) (H : Heap) (locs : List Loc) (ls : Array Slot) (hP : va_P G.1 vwCl (wld G (M, Mr, Mo)) H) (hS : va_S (hyA G) s.heap H locs) (hl : lv_has ls 6 [(0, .ref (adr G 28)), (1, .int x1), (2, .int x2), (3, .int (bI x3)), (4, .int x4)]) (kk : ∀ (y1 : Int32) (y2 : Int32) (y3 : Bool) (y4 : Int32), qL = .inr (y1, y2, y3, y4) → ∀ (H : Heap) (locs : List Loc) (ls : Array Slot), va_P G.1 vwCl (wld G (M, Mr, Mo)) H → va_S (hyA G) s.heap H locs → lv_has ls 6 [(0, .ref (adr G 28)), (1, .int y1), (2, .int y2), (3, .int (bI y3)), (4, .int y4)] → W p l e { frames := 2, cells := 0, slots := 6 * 0, locals := 42 } s m ([.ref (adr G 28)] : List Value).toArray below meth c H locs 0 0 (vx_MQ below (hyQ G (.inr (some (.int res)), (M, Mr, Mo))) (hyXQ G (.inr (some (.int res)), (M, Mr, Mo))) ([.ref (adr G 28)] : List Value).toArray s 0 (6 * 0) (hyA G)) (F0 m 134 ls [])), W p l e { frames := 2, cells := 0, slots := 6 * 0, locals := 42 } s m ([.ref (adr G 28)] : List Value).toArray below meth c H locs 0 0 (vx_MQ below (hyQ G (.inr (some (.int res)), (M, Mr, Mo))) (hyXQ G (.inr (some (.int res)), (M, Mr, Mo))) ([.ref (adr G 28)] : List Value).toArray s 0 (6 * 0) (hyA G)) (F0 m 9 ls []) := by
    intro f
    induction f with
    | zero =>
      intro x1 x2 x3 x4 qL h hq H locs ls hP hS hl kk
      rw [In_errorAsMetre_L9] at h
      cases h
    | succ f ih =>
      intro x1 x2 x3 x4 qL h hq H locs ls hP hS hl kk
      rw [In_errorAsMetre_L9] at h
      refine lv_iload hx hb dX3_errorAsMetre_9 (lv_at hl 4 rfl) ?_
      refine lv_aload_n hx hb dX3_errorAsMetre_11 rfl (lv_at hl 0 rfl) ?_
      refine hy_get (T := (M, Mr, Mo)) (o := 28) (k := 1) (v := .int (M.1 28 1)) hx hb hown hts hX hP (by decide) rfl rfl inX3g (by decide) q_284 rfl dX3_errorAsMetre_12 ?_
      refine lv_icmp_ge (tgt := 134) hx hb dX3_errorAsMetre_15 (by decide) (fun c5 => ?_) (fun c5 => ?_)
      · rw [if_pos c5] at h
        exact kk x1 x2 x3 x4 (Option.some.inj h).symm _ _ ls hP hS (lv_sub hl [0, 1, 2, 3, 4] rfl)
      · rw [if_neg c5] at h
        refine lv_aload_n hx hb dX3_errorAsMetre_18 rfl (lv_at hl 0 rfl) ?_
        refine lv_iload hx hb dX3_errorAsMetre_19 (lv_at hl 4 rfl) ?_
        refine hy_ret (hy_rV0 (T := (M, Mr, Mo)) (v := some (.int (In_codeAt x4 M))) (T2 := (M, Mr, Mo)) (As := [.int x4]) (rest := []) (n := 0) hx hb hml hown hts hX hP hS hl (c_In_codeAt Mr Mo x4 M rfl) m_In_codeAt q_912 (hy_recv hX hP 28 3 (by decide) rfl rfl) rfl rfl (Nat.le_of_ble_eq_true rfl) dX3_errorAsMetre_21 ⟨Nat.le_of_ble_eq_true rfl, Nat.le_of_ble_eq_true rfl⟩ ⟨Nat.zero_le _, Nat.zero_le _⟩) hS (fun H locs hP hS => ?_)
        refine lv_istore (lv' := [(5, .int (In_codeAt x4 M)), (0, .ref (adr G 28)), (1, .int x1), (2, .int x2), (3, .int (bI x3)), (4, .int x4)]) hx hb dX3_errorAsMetre_24 hl (by decide) rfl (fun ls hl => ?_)
        refine lv_iload hx hb dX3_errorAsMetre_26 (lv_at hl 0 rfl) ?_
        refine hy_ret (hy_rS0 (T := (M, Mr, Mo)) (v := some (.int (bI (In_isDigit (In_codeAt x4 M) M)))) (T2 := (M, Mr, Mo)) (As := [.int (In_codeAt x4 M)]) (rest := []) (n := 0) hx hb hml hown hts hX hP hS hl (c_In_isDigit Mr Mo (In_codeAt x4 M) M rfl) m_In_isDigit q_917 rfl rfl (Nat.le_of_ble_eq_true rfl) dX3_errorAsMetre_28 ⟨Nat.le_of_ble_eq_true rfl, Nat.le_of_ble_eq_true rfl⟩ ⟨Nat.zero_le _, Nat.zero_le _⟩) hS (fun H locs hP hS => ?_)
        have K22 : ∀ (H : Heap) (locs : List Loc), (if (In_isDigit (In_codeAt x4 M) M) then (if x3 then false else (In_goesOn x2 (In_codeAt x4 M) M)) else false) = true → va_P G.1 vwCl (wld G (M, Mr, Mo)) H → va_S (hyA G) s.heap H locs → W p l e { frames := 2, cells := 0, slots := 6 * 0, locals := 42 } s m ([.ref (adr G 28)] : List Value).toArray below meth c H locs 0 0 (vx_MQ below (hyQ G (.inr (some (.int res)), (M, Mr, Mo))) (hyXQ G (.inr (some (.int res)), (M, Mr, Mo))) ([.ref (adr G 28)] : List Value).toArray s 0 (6 * 0) (hyA G)) (F0 m 47 ls []) := by
          intro H locs cb hP hS
          rw [if_pos cb] at h
          refine lv_iload_n hx hb dX3_errorAsMetre_47 rfl (lv_at hl 2 rfl) ?_
          refine lv_iload_n hx hb dX3_errorAsMetre_48 rfl (lv_at hl 3 rfl) ?_
          have J10 : ∀ (H : Heap) (locs : List Loc) (ls : Array Slot) (u1 : Int32), u1 = (bI (decide (x2 = 0))) → va_P G.1 vwCl (wld G (M, Mr, Mo)) H → va_S (hyA G) s.heap H locs → lv_has ls 6 [(0, .ref (adr G 28)), (1, .int x1), (2, .int x2), (3, .int (bI x3)), (4, .int x4), (5, .int (In_codeAt x4 M))] → W p l e { frames := 2, cells := 0, slots := 6 * 0, locals := 42 } s m ([.ref (adr G 28)] : List Value).toArray below meth c H locs 0 0 (vx_MQ below (hyQ G (.inr (some (.int res)), (M, Mr, Mo))) (hyXQ G (.inr (some (.int res)), (M, Mr, Mo))) ([.ref (adr G 28)] : List Value).toArray s 0 (6 * 0) (hyA G)) (F0 m 57 ls [.int u1, .int x1]) := by
            intro H locs ls u1 eu1 hP hS hl
            subst eu1
            refine hy_ret (hy_rSN (T := (M, Mr, Mo)) (v := some (.int (Hp_flag (decide (x2 = 0)) M))) (T2 := (M, Mr, Mo)) (As := [.int (bI (decide (x2 = 0)))]) (rest := [.int x1]) (n := 0) hx hb hml hown hts hX hP hS hl (c_Hp_flag Mr Mo (decide (x2 = 0)) M rfl) m_Hp_flag q_923 rfl rfl (Nat.le_of_ble_eq_true rfl) dX3_errorAsMetre_57 ⟨Nat.le_of_ble_eq_true rfl, Nat.le_of_ble_eq_true rfl⟩ ⟨Nat.zero_le _, Nat.zero_le _⟩) hS (fun H locs hP hS => ?_)
            refine lv_iadd hx hb dX3_errorAsMetre_60 ?_
            refine lv_istore_n (lv' := [(1, .int (x1 + (Hp_flag (decide (x2 = 0)) M))), (0, .ref (adr G 28)), (2, .int x2), (3, .int (bI x3)), (4, .int x4), (5, .int (In_codeAt x4 M))]) hx hb dX3_errorAsMetre_61 rfl hl (by decide) rfl (fun ls hl => ?_)
            refine lv_bipush (v := 10) hx hb dX3_errorAsMetre_62 rfl ?_
            refine lv_iload_n hx hb dX3_errorAsMetre_64 rfl (lv_at hl 2 rfl) ?_
            refine lv_imul hx hb dX3_errorAsMetre_65 ?_
            refine lv_iload hx hb dX3_errorAsMetre_66 (lv_at hl 5 rfl) ?_
            refine lv_bipush (v := 48) hx hb dX3_errorAsMetre_68 rfl ?_
            refine lv_isub hx hb dX3_errorAsMetre_70 ?_
            refine lv_iadd hx hb dX3_errorAsMetre_71 ?_
            refine lv_istore_n (lv' := [(2, .int ((10 * x2) + ((In_codeAt x4 M) - 48))), (1, .int (x1 + (Hp_flag (decide (x2 = 0)) M))), (0, .ref (adr G 28)), (3, .int (bI x3)), (4, .int x4), (5, .int (In_codeAt x4 M))]) hx hb dX3_errorAsMetre_72 rfl hl (by decide) rfl (fun ls hl => ?_)
            refine lv_goto (tgt := 128) hx hb dX3_errorAsMetre_73 (by decide) ?_
            refine lv_iinc (v := (x4 + 1)) (lv' := [(4, .int (x4 + 1)), (2, .int ((10 * x2) + ((In_codeAt x4 M) - 48))), (1, .int (x1 + (Hp_flag (decide (x2 = 0)) M))), (0, .ref (adr G 28)), (3, .int (bI x3)), (5, .int (In_codeAt x4 M))]) hx hb dX3_errorAsMetre_128 hl (k := 4) rfl rfl (by decide) rfl (fun ls hl => ?_)
            refine lv_goto (tgt := 9) hx hb dX3_errorAsMetre_131 (by decide) ?_
            exact ih (x1 + (Hp_flag (decide (x2 = 0)) M)) ((10 * x2) + ((In_codeAt x4 M) - 48)) x3 (x4 + 1) _ h hq _ _ ls hP hS (lv_sub hl [3, 2, 1, 4, 0] rfl) kk
          refine lv_if_ne (tgt := 56) hx hb dX3_errorAsMetre_49 (by decide) (fun c9 => ?_) (fun c9 => ?_)
          · refine lv_iconst (v := 0) hx hb dX3_errorAsMetre_56 rfl ?_
            exact J10 _ _ ls 0 (by rw [decide_eq_false c9] <;> rfl) hP hS (lv_sub hl [1, 2, 3, 4, 5, 0] rfl)
          · refine lv_iconst (v := 1) hx hb dX3_errorAsMetre_52 rfl ?_
            refine lv_goto (tgt := 57) hx hb dX3_errorAsMetre_53 (by decide) ?_
            exact J10 _ _ ls 1 (by rw [decide_eq_true c9] <;> rfl) hP hS (lv_sub hl [1, 2, 3, 4, 5, 0] rfl)
        have K23 : ∀ (H : Heap) (locs : List Loc), ¬ (if (In_isDigit (In_codeAt x4 M) M) then (if x3 then false else (In_goesOn x2 (In_codeAt x4 M) M)) else false) = true → va_P G.1 vwCl (wld G (M, Mr, Mo)) H → va_S (hyA G) s.heap H locs → W p l e { frames := 2, cells := 0, slots := 6 * 0, locals := 42 } s m ([.ref (adr G 28)] : List Value).toArray below meth c H locs 0 0 (vx_MQ below (hyQ G (.inr (some (.int res)), (M, Mr, Mo))) (hyXQ G (.inr (some (.int res)), (M, Mr, Mo))) ([.ref (adr G 28)] : List Value).toArray s 0 (6 * 0) (hyA G)) (F0 m 76 ls []) := by
          intro H locs cb hP hS
          rw [if_neg cb] at h
          refine lv_iload hx hb dX3_errorAsMetre_76 (lv_at hl 0 rfl) ?_
          refine lv_bipush (v := 46) hx hb dX3_errorAsMetre_78 rfl ?_
          have K20 : ∀ (H : Heap) (locs : List Loc), (if (In_codeAt x4 M) = 46 then (if x2 ≤ 0 then false else (!decide (24 ≤ x1))) else false) = true → va_P G.1 vwCl (wld G (M, Mr, Mo)) H → va_S (hyA G) s.heap H locs → W p l e { frames := 2, cells := 0, slots := 6 * 0, locals := 42 } s m ([.ref (adr G 28)] : List Value).toArray below meth c H locs 0 0 (vx_MQ below (hyQ G (.inr (some (.int res)), (M, Mr, Mo))) (hyXQ G (.inr (some (.int res)), (M, Mr, Mo))) ([.ref (adr G 28)] : List Value).toArray s 0 (6 * 0) (hyA G)) (F0 m 93 ls []) := by
            intro H locs cb hP hS
            rw [if_pos cb] at h
            refine lv_iconst (v := 0) hx hb dX3_errorAsMetre_93 rfl ?_
            refine lv_istore_n (lv' := [(2, .int 0), (5, .int (In_codeAt x4 M)), (0, .ref (adr G 28)), (1, .int x1), (3, .int (bI x3)), (4, .int x4)]) hx hb dX3_errorAsMetre_94 rfl hl (by decide) rfl (fun ls hl => ?_)
            refine lv_goto (tgt := 128) hx hb dX3_errorAsMetre_95 (by decide) ?_
            refine lv_iinc (v := (x4 + 1)) (lv' := [(4, .int (x4 + 1)), (2, .int 0), (5, .int (In_codeAt x4 M)), (0, .ref (adr G 28)), (1, .int x1), (3, .int (bI x3))]) hx hb dX3_errorAsMetre_128 hl (k := 5) rfl rfl (by decide) rfl (fun ls hl => ?_)
            refine lv_goto (tgt := 9) hx hb dX3_errorAsMetre_131 (by decide) ?_
            exact ih x1 0 x3 (x4 + 1) _ h hq _ _ ls hP hS (lv_sub hl [3, 4, 1, 5, 0] rfl) kk
          have K21 : ∀ (H : Heap) (locs : List Loc), ¬ (if (In_codeAt x4 M) = 46 then (if x2 ≤ 0 then false else (!decide (24 ≤ x1))) else false) = true → va_P G.1 vwCl (wld G (M, Mr, Mo)) H → va_S (hyA G) s.heap H locs → W p l e { frames := 2, cells := 0, slots := 6 * 0, locals := 42 } s m ([.ref (adr G 28)] : List Value).toArray below meth c H locs 0 0 (vx_MQ below (hyQ G (.inr (some (.int res)), (M, Mr, Mo))) (hyXQ G (.inr (some (.int res)), (M, Mr, Mo))) ([.ref (adr G 28)] : List Value).toArray s 0 (6 * 0) (hyA G)) (F0 m 98 ls []) := by
            intro H locs cb hP hS
            rw [if_neg cb] at h
            refine lv_iload hx hb dX3_errorAsMetre_98 (lv_at hl 0 rfl) ?_
            refine lv_bipush (v := 68) hx hb dX3_errorAsMetre_100 rfl ?_
            have K18 : ∀ (H : Heap) (locs : List Loc), (if (In_codeAt x4 M) = 68 then (if x3 then false else (if x2 = 0 then (In_canDouble x1 M) else false)) else false) = true → va_P G.1 vwCl (wld G (M, Mr, Mo)) H → va_S (hyA G) s.heap H locs → W p l e { frames := 2, cells := 0, slots := 6 * 0, locals := 42 } s m ([.ref (adr G 28)] : List Value).toArray below meth c H locs 0 0 (vx_MQ below (hyQ G (.inr (some (.int res)), (M, Mr, Mo))) (hyXQ G (.inr (some (.int res)), (M, Mr, Mo))) ([.ref (adr G 28)] : List Value).toArray s 0 (6 * 0) (hyA G)) (F0 m 120 ls []) := by
              intro H locs cb hP hS
              rw [if_pos cb] at h
              refine lv_iconst (v := 1) hx hb dX3_errorAsMetre_120 rfl ?_
              refine lv_istore_n (lv' := [(3, .int 1), (5, .int (In_codeAt x4 M)), (0, .ref (adr G 28)), (1, .int x1), (2, .int x2), (4, .int x4)]) hx hb dX3_errorAsMetre_121 rfl hl (by decide) rfl (fun ls hl => ?_)
              refine lv_goto (tgt := 128) hx hb dX3_errorAsMetre_122 (by decide) ?_
              refine lv_iinc (v := (x4 + 1)) (lv' := [(4, .int (x4 + 1)), (3, .int 1), (5, .int (In_codeAt x4 M)), (0, .ref (adr G 28)), (1, .int x1), (2, .int x2)]) hx hb dX3_errorAsMetre_128 hl (k := 5) rfl rfl (by decide) rfl (fun ls hl => ?_)
              refine lv_goto (tgt := 9) hx hb dX3_errorAsMetre_131 (by decide) ?_
              exact ih x1 x2 true (x4 + 1) _ h hq _ _ ls hP hS (lv_sub hl [3, 4, 5, 1, 0] rfl) kk
            have K19 : ∀ (H : Heap) (locs : List Loc), ¬ (if (In_codeAt x4 M) = 68 then (if x3 then false else (if x2 = 0 then (In_canDouble x1 M) else false)) else false) = true → va_P G.1 vwCl (wld G (M, Mr, Mo)) H → va_S (hyA G) s.heap H locs → W p l e { frames := 2, cells := 0, slots := 6 * 0, locals := 42 } s m ([.ref (adr G 28)] : List Value).toArray below meth c H locs 0 0 (vx_MQ below (hyQ G (.inr (some (.int res)), (M, Mr, Mo))) (hyXQ G (.inr (some (.int res)), (M, Mr, Mo))) ([.ref (adr G 28)] : List Value).toArray s 0 (6 * 0) (hyA G)) (F0 m 125 ls []) := by
              intro H locs cb hP hS
              rw [if_neg cb] at h
              refine lv_iload hx hb dX3_errorAsMetre_125 (lv_at hl 5 rfl) ?_
              exact hy_iret (T := (M, Mr, Mo)) hx hb hr hlocks hP hS (Nat.zero_le _) (Nat.zero_le _) (by rw [← (hq _ (Option.some.inj h).symm).symm] <;> rfl) dX3_errorAsMetre_127
            refine lv_icmp_ne (tgt := 125) hx hb dX3_errorAsMetre_102 (by decide) (fun c14 => ?_) (fun c14 => ?_)
            · exact K19 _ _ (by rw [if_neg c14] <;> first | rfl | decide) hP hS
            · refine lv_iload_n hx hb dX3_errorAsMetre_105 rfl (lv_at hl 4 rfl) ?_
              refine lv_if_ne (tgt := 125) hx hb dX3_errorAsMetre_106 (by decide) (fun c15 => ?_) (fun c15 => ?_)
              · exact K19 _ _ (by rw [if_pos c14, if_pos (bI_1 c15)] <;> first | rfl | decide) hP hS
              · refine lv_iload_n hx hb dX3_errorAsMetre_109 rfl (lv_at hl 3 rfl) ?_
                refine lv_if_ne (tgt := 125) hx hb dX3_errorAsMetre_110 (by decide) (fun c16 => ?_) (fun c16 => ?_)
                · exact K19 _ _ (by rw [if_pos c14, if_neg (bI_0 c15), if_neg c16] <;> first | rfl | decide) hP hS
                · refine lv_iload_n hx hb dX3_errorAsMetre_113 rfl (lv_at hl 2 rfl) ?_
                  refine hy_ret (hy_rS0 (T := (M, Mr, Mo)) (v := some (.int (bI (In_canDouble x1 M)))) (T2 := (M, Mr, Mo)) (As := [.int x1]) (rest := []) (n := 0) hx hb hml hown hts hX hP hS hl (c_In_canDouble Mr Mo x1 M rfl) m_In_canDouble q_924 rfl rfl (Nat.le_of_ble_eq_true rfl) dX3_errorAsMetre_114 ⟨Nat.le_of_ble_eq_true rfl, Nat.le_of_ble_eq_true rfl⟩ ⟨Nat.zero_le _, Nat.zero_le _⟩) hS (fun H locs hP hS => ?_)
                  refine lv_if_eq (tgt := 125) hx hb dX3_errorAsMetre_117 (by decide) (fun c17 => ?_) (fun c17 => ?_)
                  · exact K19 _ _ (by rw [if_pos c14, if_neg (bI_0 c15), if_pos c16, (bI_z c17)] <;> first | rfl | decide) hP hS
                  · exact K18 _ _ (by rw [if_pos c14, if_neg (bI_0 c15), if_pos c16, (bI_1 c17)] <;> first | rfl | decide) hP hS
          refine lv_icmp_ne (tgt := 98) hx hb dX3_errorAsMetre_80 (by decide) (fun c11 => ?_) (fun c11 => ?_)
          · exact K21 _ _ (by rw [if_neg c11] <;> first | rfl | decide) hP hS
          · refine lv_iload_n hx hb dX3_errorAsMetre_83 rfl (lv_at hl 3 rfl) ?_
            refine lv_if_le (tgt := 98) hx hb dX3_errorAsMetre_84 (by decide) (fun c12 => ?_) (fun c12 => ?_)
            · exact K21 _ _ (by rw [if_pos c11, if_pos c12] <;> first | rfl | decide) hP hS
            · refine lv_iload_n hx hb dX3_errorAsMetre_87 rfl (lv_at hl 2 rfl) ?_
              refine lv_bipush (v := 24) hx hb dX3_errorAsMetre_88 rfl ?_
              refine lv_icmp_ge (tgt := 98) hx hb dX3_errorAsMetre_90 (by decide) (fun c13 => ?_) (fun c13 => ?_)
              · exact K21 _ _ (by rw [if_pos c11, if_neg c12, decide_eq_true c13] <;> first | rfl | decide) hP hS
              · exact K20 _ _ (by rw [if_pos c11, if_neg c12, decide_eq_false c13] <;> first | rfl | decide) hP hS
        refine lv_if_eq (tgt := 76) hx hb dX3_errorAsMetre_31 (by decide) (fun c6 => ?_) (fun c6 => ?_)
        · exact K23 _ _ (by rw [if_neg (bI_0 c6)] <;> first | rfl | decide) hP hS
        · refine lv_iload_n hx hb dX3_errorAsMetre_34 rfl (lv_at hl 4 rfl) ?_
          refine lv_if_ne (tgt := 76) hx hb dX3_errorAsMetre_35 (by decide) (fun c7 => ?_) (fun c7 => ?_)
          · exact K23 _ _ (by rw [if_pos (bI_1 c6), if_pos (bI_1 c7)] <;> first | rfl | decide) hP hS
          · refine lv_iload_n hx hb dX3_errorAsMetre_38 rfl (lv_at hl 3 rfl) ?_
            refine lv_iload hx hb dX3_errorAsMetre_39 (lv_at hl 0 rfl) ?_
            refine hy_ret (hy_rS0 (T := (M, Mr, Mo)) (v := some (.int (bI (In_goesOn x2 (In_codeAt x4 M) M)))) (T2 := (M, Mr, Mo)) (As := [.int x2, .int (In_codeAt x4 M)]) (rest := []) (n := 0) hx hb hml hown hts hX hP hS hl (c_In_goesOn Mr Mo x2 (In_codeAt x4 M) M rfl) m_In_goesOn q_920 rfl rfl (Nat.le_of_ble_eq_true rfl) dX3_errorAsMetre_41 ⟨Nat.le_of_ble_eq_true rfl, Nat.le_of_ble_eq_true rfl⟩ ⟨Nat.zero_le _, Nat.zero_le _⟩) hS (fun H locs hP hS => ?_)
            refine lv_if_eq (tgt := 76) hx hb dX3_errorAsMetre_44 (by decide) (fun c8 => ?_) (fun c8 => ?_)
            · exact K23 _ _ (by rw [if_pos (bI_1 c6), if_neg (bI_0 c7), (bI_z c8)] <;> first | rfl | decide) hP hS
            · exact K22 _ _ (by rw [if_pos (bI_1 c6), if_neg (bI_0 c7), (bI_1 c8)] <;> first | rfl | decide) hP hS
  obtain ⟨q25, hq25, h⟩ := hy_bind h
  refine L24 hyFu 0 0 false 0 q25 hq25 (fun r9 e9 => by subst e9; exact (Option.some.inj h).symm) _ _ ls hP hS (lv_sub hl [4, 3, 2, 1, 0] rfl) ?_
  intro y1 y2 y3 y4 e9 H locs ls hP hS hl
  subst e9
  try dsimp only at h
  refine lv_aload_n hx hb dX3_errorAsMetre_134 rfl (lv_at hl 0 rfl) ?_
  refine hy_get (T := (M, Mr, Mo)) (o := 28) (k := 1) (v := .int (M.1 28 1)) hx hb hown hts hX hP (by decide) rfl rfl inX3g (by decide) q_284 rfl dX3_errorAsMetre_135 ?_
  exact hy_iret (T := (M, Mr, Mo)) hx hb hr hlocks hP hS (Nat.zero_le _) (Nat.zero_le _) (by rw [← (Option.some.inj h)] <;> rfl) dX3_errorAsMetre_138
