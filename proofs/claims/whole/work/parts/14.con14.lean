set_option maxHeartbeats 1000000 in
set_option maxRecDepth 100000 in
theorem c_Rf_classOf {l : Launch} {G : hyG} (Mc Mo : hyM) (a1 : Int32) (M : hyM) {res : Int32} (h : Rf_classOf a1 M = res) : hyC l yX11_classOf (.code yX11_classOf cX11_classOf 1 (some .int)) 0 0 (0) G [.int a1] (Mc, M, Mo) (.inr (some (.int res)), (Mc, M, Mo)) := by
  refine hy_of (by decide +kernel) (Nat.le_of_ble_eq_true rfl) ?_
  intro p e s m below meth c hx hb hml hown hts hr hlocks ht hX hP hS ls hl
  have hl : lv_has ls 1 [(0, .int a1)] := hl
  rw [Rf_classOf] at h
  refine lv_iload_n hx hb dX11_classOf_0 rfl (lv_at hl 0 rfl) ?_
  refine lv_iconst (v := 3) hx hb dX11_classOf_1 rfl ?_
  have J2 : ∀ (H : Heap) (locs : List Loc) (ls : Array Slot) (u1 : Int32), u1 = (if 3 ≤ a1 then ((2 * a1) - 1) else (2 * a1)) → va_P G.1 vwCl (wld G (Mc, M, Mo)) H → va_S (hyA G) s.heap H locs → lv_has ls 1 [(0, .int a1)] → W p l e { frames := 0, cells := 0, slots := 6 * 0, locals := 0 } s m ([.int a1] : List Value).toArray below meth c H locs 0 0 (vx_MQ below (hyQ G (.inr (some (.int res)), (Mc, M, Mo))) (hyXQ G (.inr (some (.int res)), (Mc, M, Mo))) ([.int a1] : List Value).toArray s 0 (6 * 0) (hyA G)) (F0 m 16 ls [.int u1]) := by
    intro H locs ls u1 eu1 hP hS hl
    subst eu1
    exact hy_iret (T := (Mc, M, Mo)) hx hb hr hlocks hP hS (Nat.zero_le _) (Nat.zero_le _) (by rw [← h] <;> rfl) dX11_classOf_16
  refine lv_icmp_ge (tgt := 11) hx hb dX11_classOf_2 (by decide) (fun c1 => ?_) (fun c1 => ?_)
  · refine lv_iconst (v := 2) hx hb dX11_classOf_11 rfl ?_
    refine lv_iload_n hx hb dX11_classOf_12 rfl (lv_at hl 0 rfl) ?_
    refine lv_imul hx hb dX11_classOf_13 ?_
    refine lv_iconst (v := 1) hx hb dX11_classOf_14 rfl ?_
    refine lv_isub hx hb dX11_classOf_15 ?_
    exact J2 _ _ ls ((2 * a1) - 1) (by rw [if_pos c1] <;> rfl) hP hS (lv_sub hl [0] rfl)
  · refine lv_iconst (v := 2) hx hb dX11_classOf_5 rfl ?_
    refine lv_iload_n hx hb dX11_classOf_6 rfl (lv_at hl 0 rfl) ?_
    refine lv_imul hx hb dX11_classOf_7 ?_
    refine lv_goto (tgt := 16) hx hb dX11_classOf_8 (by decide) ?_
    exact J2 _ _ ls (2 * a1) (by rw [if_neg c1] <;> rfl) hP hS (lv_sub hl [0] rfl)
set_option maxHeartbeats 1000000 in
set_option maxRecDepth 100000 in
theorem c_Rf_ownDegree {l : Launch} {G : hyG} (Mc Mo : hyM) (a1 : Int32) (M : hyM) {res : Int32} (h : Rf_ownDegree a1 M = some res) : hyC l yX11_ownDegree (.code yX11_ownDegree cX11_ownDegree 4 (some .int)) 1 20 (0) G [.ref (adr G 30), .int a1] (Mc, M, Mo) (.inr (some (.int res)), (Mc, M, Mo)) := by
  refine hy_of (by decide +kernel) (Nat.le_of_ble_eq_true rfl) ?_
  intro p e s m below meth c hx hb hml hown hts hr hlocks ht hX hP hS ls hl
  have hl : lv_has ls 4 [(0, .ref (adr G 30)), (1, .int a1)] := hl
  rw [Rf_ownDegree] at h
  refine lv_iconst (v := (-1)) hx hb dX11_ownDegree_0 rfl ?_
  refine lv_istore_n (lv' := [(2, .int (-1)), (0, .ref (adr G 30)), (1, .int a1)]) hx hb dX11_ownDegree_1 rfl hl (by decide) rfl (fun ls hl => ?_)
  refine lv_iconst (v := 0) hx hb dX11_ownDegree_2 rfl ?_
  refine lv_istore_n (lv' := [(3, .int 0), (2, .int (-1)), (0, .ref (adr G 30)), (1, .int a1)]) hx hb dX11_ownDegree_3 rfl hl (by decide) rfl (fun ls hl => ?_)
  have L6 : ∀ (f : Nat) (x1 : Int32) (x2 : Int32) (qL : (Int32 × Int32)) (h : Rf_ownDegree_L4 a1 M f x1 x2 = some qL) (H : Heap) (locs : List Loc) (ls : Array Slot) (hP : va_P G.1 vwCl (wld G (Mc, M, Mo)) H) (hS : va_S (hyA G) s.heap H locs) (hl : lv_has ls 4 [(0, .ref (adr G 30)), (1, .int a1), (2, .int x1), (3, .int x2)]) (kk : ∀ (y1 : Int32) (y2 : Int32), qL = (y1, y2) → ∀ (H : Heap) (locs : List Loc) (ls : Array Slot), va_P G.1 vwCl (wld G (Mc, M, Mo)) H → va_S (hyA G) s.heap H locs → lv_has ls 4 [(0, .ref (adr G 30)), (1, .int a1), (2, .int y1), (3, .int y2)] → W p l e { frames := 1, cells := 0, slots := 6 * 0, locals := 20 } s m ([.ref (adr G 30), .int a1] : List Value).toArray below meth c H locs 0 0 (vx_MQ below (hyQ G (.inr (some (.int res)), (Mc, M, Mo))) (hyXQ G (.inr (some (.int res)), (Mc, M, Mo))) ([.ref (adr G 30), .int a1] : List Value).toArray s 0 (6 * 0) (hyA G)) (F0 m 41 ls [])), W p l e { frames := 1, cells := 0, slots := 6 * 0, locals := 20 } s m ([.ref (adr G 30), .int a1] : List Value).toArray below meth c H locs 0 0 (vx_MQ below (hyQ G (.inr (some (.int res)), (Mc, M, Mo))) (hyXQ G (.inr (some (.int res)), (Mc, M, Mo))) ([.ref (adr G 30), .int a1] : List Value).toArray s 0 (6 * 0) (hyA G)) (F0 m 4 ls []) := by
    intro f
    induction f with
    | zero =>
      intro x1 x2 qL h H locs ls hP hS hl kk
      rw [Rf_ownDegree_L4] at h
      cases h
    | succ f ih =>
      intro x1 x2 qL h H locs ls hP hS hl kk
      rw [Rf_ownDegree_L4] at h
      refine lv_iload_n hx hb dX11_ownDegree_4 rfl (lv_at hl 3 rfl) ?_
      refine lv_bipush (v := 7) hx hb dX11_ownDegree_5 rfl ?_
      refine lv_icmp_ge (tgt := 41) hx hb dX11_ownDegree_7 (by decide) (fun c3 => ?_) (fun c3 => ?_)
      · rw [if_pos c3] at h
        exact kk x1 x2 (Option.some.inj h).symm _ _ ls hP hS (lv_sub hl [0, 1, 2, 3] rfl)
      · rw [if_neg c3] at h
        refine lv_aload_n hx hb dX11_ownDegree_10 rfl (lv_at hl 0 rfl) ?_
        refine hy_get (T := (Mc, M, Mo)) (o := 30) (k := 1) (v := .int (M.1 30 1)) hx hb hown hts hX hP (by decide) rfl rfl inX11g (by decide) q_1193 rfl dX11_ownDegree_11 ?_
        refine lv_iload_n hx hb dX11_ownDegree_14 rfl (lv_at hl 3 rfl) ?_
        refine hy_ret (hy_rS0 (T := (Mc, M, Mo)) (v := some (.int (Rf_classOf x2 M))) (T2 := (Mc, M, Mo)) (As := [.int x2]) (rest := [.int (M.1 30 1)]) (n := 0) hx hb hml hown hts hX hP hS hl (c_Rf_classOf Mc Mo x2 M rfl) m_Rf_classOf q_1526 rfl rfl (Nat.le_of_ble_eq_true rfl) dX11_ownDegree_15 ⟨Nat.le_of_ble_eq_true rfl, Nat.le_of_ble_eq_true rfl⟩ ⟨Nat.zero_le _, Nat.zero_le _⟩) hS (fun H locs hP hS => ?_)
        refine lv_iadd hx hb dX11_ownDegree_18 ?_
        refine lv_bipush (v := 12) hx hb dX11_ownDegree_19 rfl ?_
        refine lv_irem hx hb dX11_ownDegree_21 (by decide) ?_
        refine lv_iload_n hx hb dX11_ownDegree_22 rfl (lv_at hl 1 rfl) ?_
        refine lv_bipush (v := 12) hx hb dX11_ownDegree_23 rfl ?_
        refine lv_irem hx hb dX11_ownDegree_25 (by decide) ?_
        have J5 : ∀ (H : Heap) (locs : List Loc) (ls : Array Slot) (u1 : Int32), u1 = (if (((M.1 30 1) + (Rf_classOf x2 M)) - ((M.1 30 1) + (Rf_classOf x2 M)) / 12 * 12) = (a1 - a1 / 12 * 12) then x2 else x1) → va_P G.1 vwCl (wld G (Mc, M, Mo)) H → va_S (hyA G) s.heap H locs → lv_has ls 4 [(0, .ref (adr G 30)), (1, .int a1), (2, .int x1), (3, .int x2)] → W p l e { frames := 1, cells := 0, slots := 6 * 0, locals := 20 } s m ([.ref (adr G 30), .int a1] : List Value).toArray below meth c H locs 0 0 (vx_MQ below (hyQ G (.inr (some (.int res)), (Mc, M, Mo))) (hyXQ G (.inr (some (.int res)), (Mc, M, Mo))) ([.ref (adr G 30), .int a1] : List Value).toArray s 0 (6 * 0) (hyA G)) (F0 m 34 ls [.int u1]) := by
          intro H locs ls u1 eu1 hP hS hl
          subst eu1
          refine lv_istore_n (lv' := [(2, .int (if (((M.1 30 1) + (Rf_classOf x2 M)) - ((M.1 30 1) + (Rf_classOf x2 M)) / 12 * 12) = (a1 - a1 / 12 * 12) then x2 else x1)), (0, .ref (adr G 30)), (1, .int a1), (3, .int x2)]) hx hb dX11_ownDegree_34 rfl hl (by decide) rfl (fun ls hl => ?_)
          refine lv_iinc (v := (x2 + 1)) (lv' := [(3, .int (x2 + 1)), (2, .int (if (((M.1 30 1) + (Rf_classOf x2 M)) - ((M.1 30 1) + (Rf_classOf x2 M)) / 12 * 12) = (a1 - a1 / 12 * 12) then x2 else x1)), (0, .ref (adr G 30)), (1, .int a1)]) hx hb dX11_ownDegree_35 hl (k := 3) rfl rfl (by decide) rfl (fun ls hl => ?_)
          refine lv_goto (tgt := 4) hx hb dX11_ownDegree_38 (by decide) ?_
          exact ih (if (((M.1 30 1) + (Rf_classOf x2 M)) - ((M.1 30 1) + (Rf_classOf x2 M)) / 12 * 12) = (a1 - a1 / 12 * 12) then x2 else x1) (x2 + 1) _ h  _ _ ls hP hS (lv_sub hl [2, 3, 1, 0] rfl) kk
        refine lv_icmp_ne (tgt := 33) hx hb dX11_ownDegree_26 (by decide) (fun c4 => ?_) (fun c4 => ?_)
        · refine lv_iload_n hx hb dX11_ownDegree_33 rfl (lv_at hl 2 rfl) ?_
          exact J5 _ _ ls x1 (by rw [if_neg c4] <;> rfl) hP hS (lv_sub hl [0, 1, 2, 3] rfl)
        · refine lv_iload_n hx hb dX11_ownDegree_29 rfl (lv_at hl 3 rfl) ?_
          refine lv_goto (tgt := 34) hx hb dX11_ownDegree_30 (by decide) ?_
          exact J5 _ _ ls x2 (by rw [if_pos c4] <;> rfl) hP hS (lv_sub hl [0, 1, 2, 3] rfl)
  obtain ⟨q7, hq7, h⟩ := hy_bind h
  refine L6 hyFu (-1) 0 q7 hq7 _ _ ls hP hS (lv_sub hl [2, 3, 1, 0] rfl) ?_
  intro y1 y2 e9 H locs ls hP hS hl
  subst e9
  try dsimp only at h
  refine lv_iload_n hx hb dX11_ownDegree_41 rfl (lv_at hl 2 rfl) ?_
  exact hy_iret (T := (Mc, M, Mo)) hx hb hr hlocks hP hS (Nat.zero_le _) (Nat.zero_le _) (by rw [← (Option.some.inj h)] <;> rfl) dX11_ownDegree_42
set_option maxHeartbeats 1000000 in
set_option maxRecDepth 100000 in
theorem c_Rf_isRaised {l : Launch} {G : hyG} (Mc Mo : hyM) (a1 : Int32) (M : hyM) {res : Bool} (h : Rf_isRaised a1 M = some res) : hyC l yX11_isRaised (.code yX11_isRaised cX11_isRaised 2 (some .boolean)) 2 43 (0) G [.ref (adr G 30), .int a1] (Mc, M, Mo) (.inr (some (.int (bI res))), (Mc, M, Mo)) := by
  refine hy_of (by decide +kernel) (Nat.le_of_ble_eq_true rfl) ?_
  intro p e s m below meth c hx hb hml hown hts hr hlocks ht hX hP hS ls hl
  have hl : lv_has ls 2 [(0, .ref (adr G 30)), (1, .int a1)] := hl
  rw [Rf_isRaised] at h
  refine lv_aload_n hx hb dX11_isRaised_0 rfl (lv_at hl 0 rfl) ?_
  refine lv_iload_n hx hb dX11_isRaised_1 rfl (lv_at hl 1 rfl) ?_
  obtain ⟨v1, hv1, h⟩ := hy_bind h
  refine hy_ret (hy_rV0 (T := (Mc, M, Mo)) (v := some (.int v1)) (T2 := (Mc, M, Mo)) (As := [.int a1]) (rest := []) (n := 0) hx hb hml hown hts hX hP hS hl (c_Rf_ownDegree Mc Mo a1 M hv1) m_Rf_ownDegree q_1522 (hy_recv hX hP 30 10 (by decide) rfl rfl) rfl rfl (Nat.le_of_ble_eq_true rfl) dX11_isRaised_2 ⟨Nat.le_of_ble_eq_true rfl, Nat.le_of_ble_eq_true rfl⟩ ⟨Nat.zero_le _, Nat.zero_le _⟩) hS (fun H locs hP hS => ?_)
  refine lv_iconst (v := (-1)) hx hb dX11_isRaised_5 rfl ?_
  have J3 : ∀ (H : Heap) (locs : List Loc) (ls : Array Slot) (u1 : Int32), u1 = (bI (decide (v1 = (-1)))) → va_P G.1 vwCl (wld G (Mc, M, Mo)) H → va_S (hyA G) s.heap H locs → lv_has ls 2 [(0, .ref (adr G 30)), (1, .int a1)] → W p l e { frames := 2, cells := 0, slots := 6 * 0, locals := 43 } s m ([.ref (adr G 30), .int a1] : List Value).toArray below meth c H locs 0 0 (vx_MQ below (hyQ G (.inr (some (.int (bI res))), (Mc, M, Mo))) (hyXQ G (.inr (some (.int (bI res))), (Mc, M, Mo))) ([.ref (adr G 30), .int a1] : List Value).toArray s 0 (6 * 0) (hyA G)) (F0 m 14 ls [.int u1]) := by
    intro H locs ls u1 eu1 hP hS hl
    subst eu1
    exact hy_zret (T := (Mc, M, Mo)) hx hb hr hlocks hP hS (Nat.zero_le _) (Nat.zero_le _) (bI_nar (decide (v1 = (-1)))) (by rw [← (Option.some.inj h)] <;> rfl) dX11_isRaised_14
  refine lv_icmp_ne (tgt := 13) hx hb dX11_isRaised_6 (by decide) (fun c2 => ?_) (fun c2 => ?_)
  · refine lv_iconst (v := 0) hx hb dX11_isRaised_13 rfl ?_
    exact J3 _ _ ls 0 (by rw [decide_eq_false c2] <;> rfl) hP hS (lv_sub hl [0, 1] rfl)
  · refine lv_iconst (v := 1) hx hb dX11_isRaised_9 rfl ?_
    refine lv_goto (tgt := 14) hx hb dX11_isRaised_10 (by decide) ?_
    exact J3 _ _ ls 1 (by rw [decide_eq_true c2] <;> rfl) hP hS (lv_sub hl [0, 1] rfl)
set_option maxHeartbeats 1000000 in
set_option maxRecDepth 100000 in
theorem c_Rf_degree {l : Launch} {G : hyG} (Mc Mo : hyM) (a1 : Int32) (M : hyM) {res : Int32} (h : Rf_degree a1 M = some res) : hyC l yX11_degree (.code yX11_degree cX11_degree 2 (some .int)) 3 64 (0) G [.ref (adr G 30), .int a1] (Mc, M, Mo) (.inr (some (.int res)), (Mc, M, Mo)) := by
  refine hy_of (by decide +kernel) (Nat.le_of_ble_eq_true rfl) ?_
  intro p e s m below meth c hx hb hml hown hts hr hlocks ht hX hP hS ls hl
  have hl : lv_has ls 2 [(0, .ref (adr G 30)), (1, .int a1)] := hl
  rw [Rf_degree] at h
  refine lv_aload_n hx hb dX11_degree_0 rfl (lv_at hl 0 rfl) ?_
  refine lv_aload_n hx hb dX11_degree_1 rfl (lv_at hl 0 rfl) ?_
  refine lv_iload_n hx hb dX11_degree_2 rfl (lv_at hl 1 rfl) ?_
  obtain ⟨v1, hv1, h⟩ := hy_bind h
  refine hy_ret (hy_rV0 (T := (Mc, M, Mo)) (v := some (.int (bI v1))) (T2 := (Mc, M, Mo)) (As := [.int a1]) (rest := [.ref (adr G 30)]) (n := 0) hx hb hml hown hts hX hP hS hl (c_Rf_isRaised Mc Mo a1 M hv1) m_Rf_isRaised q_1518 (hy_recv hX hP 30 10 (by decide) rfl rfl) rfl rfl (Nat.le_of_ble_eq_true rfl) dX11_degree_3 ⟨Nat.le_of_ble_eq_true rfl, Nat.le_of_ble_eq_true rfl⟩ ⟨Nat.zero_le _, Nat.zero_le _⟩) hS (fun H locs hP hS => ?_)
  have J4 : ∀ (H : Heap) (locs : List Loc) (ls : Array Slot) (u1 : Int32), u1 = (if v1 then (a1 - 1) else a1) → va_P G.1 vwCl (wld G (Mc, M, Mo)) H → va_S (hyA G) s.heap H locs → lv_has ls 2 [(0, .ref (adr G 30)), (1, .int a1)] → W p l e { frames := 3, cells := 0, slots := 6 * 0, locals := 64 } s m ([.ref (adr G 30), .int a1] : List Value).toArray below meth c H locs 0 0 (vx_MQ below (hyQ G (.inr (some (.int res)), (Mc, M, Mo))) (hyXQ G (.inr (some (.int res)), (Mc, M, Mo))) ([.ref (adr G 30), .int a1] : List Value).toArray s 0 (6 * 0) (hyA G)) (F0 m 16 ls [.int u1, .ref (adr G 30)]) := by
    intro H locs ls u1 eu1 hP hS hl
    subst eu1
    obtain ⟨v3, hv3, h⟩ := hy_bind h
    refine hy_ret (hy_rV0 (T := (Mc, M, Mo)) (v := some (.int v3)) (T2 := (Mc, M, Mo)) (As := [.int (if v1 then (a1 - 1) else a1)]) (rest := []) (n := 0) hx hb hml hown hts hX hP hS hl (c_Rf_ownDegree Mc Mo (if v1 then (a1 - 1) else a1) M hv3) m_Rf_ownDegree q_1522 (hy_recv hX hP 30 10 (by decide) rfl rfl) rfl rfl (Nat.le_of_ble_eq_true rfl) dX11_degree_16 ⟨Nat.le_of_ble_eq_true rfl, Nat.le_of_ble_eq_true rfl⟩ ⟨Nat.zero_le _, Nat.zero_le _⟩) hS (fun H locs hP hS => ?_)
    exact hy_iret (T := (Mc, M, Mo)) hx hb hr hlocks hP hS (Nat.zero_le _) (Nat.zero_le _) (by rw [← (Option.some.inj h)] <;> rfl) dX11_degree_19
  refine lv_if_eq (tgt := 15) hx hb dX11_degree_6 (by decide) (fun c2 => ?_) (fun c2 => ?_)
  · refine lv_iload_n hx hb dX11_degree_15 rfl (lv_at hl 1 rfl) ?_
    exact J4 _ _ ls a1 (by rw [if_neg (bI_0 c2)] <;> rfl) hP hS (lv_sub hl [0, 1] rfl)
  · refine lv_iload_n hx hb dX11_degree_9 rfl (lv_at hl 1 rfl) ?_
    refine lv_iconst (v := 1) hx hb dX11_degree_10 rfl ?_
    refine lv_isub hx hb dX11_degree_11 ?_
    refine lv_goto (tgt := 16) hx hb dX11_degree_12 (by decide) ?_
    exact J4 _ _ ls (a1 - 1) (by rw [if_pos (bI_1 c2)] <;> rfl) hP hS (lv_sub hl [0, 1] rfl)
set_option maxHeartbeats 1000000 in
set_option maxRecDepth 100000 in
theorem c_Rf_tonicLetter {l : Launch} {G : hyG} (Mc Mo : hyM) (M : hyM) {res : Int32} (h : Rf_tonicLetter M = res) : hyC l yX11_tonicLetter (.code yX11_tonicLetter cX11_tonicLetter 1 (some .int)) 0 0 (0) G [.ref (adr G 30)] (Mc, M, Mo) (.inr (some (.int res)), (Mc, M, Mo)) := by
  refine hy_of (by decide +kernel) (Nat.le_of_ble_eq_true rfl) ?_
  intro p e s m below meth c hx hb hml hown hts hr hlocks ht hX hP hS ls hl
  have hl : lv_has ls 1 [(0, .ref (adr G 30))] := hl
  rw [Rf_tonicLetter] at h
  refine lv_aload_n hx hb dX11_tonicLetter_0 rfl (lv_at hl 0 rfl) ?_
  refine hy_get (T := (Mc, M, Mo)) (o := 30) (k := 1) (v := .int (M.1 30 1)) hx hb hown hts hX hP (by decide) rfl rfl inX11g (by decide) q_1193 rfl dX11_tonicLetter_1 ?_
  by_cases c1 : (M.1 30 1) = 0
  · rw [if_pos c1] at h
    refine lv_tableIn (tgt := 60) (off := 56) hx hb dX11_tonicLetter_4 (by rw [c1]; decide) (by rw [c1]; decide) (by rw [c1]; rfl) (by decide) ?_
    refine lv_iconst (v := 0) hx hb dX11_tonicLetter_60 rfl ?_
    exact hy_iret (T := (Mc, M, Mo)) hx hb hr hlocks hP hS (Nat.zero_le _) (Nat.zero_le _) (by rw [← h] <;> rfl) dX11_tonicLetter_61
  · rw [if_neg c1] at h
    by_cases c2 : (M.1 30 1) = 1
    · rw [if_pos c2] at h
      refine lv_tableIn (tgt := 62) (off := 58) hx hb dX11_tonicLetter_4 (by rw [c2]; decide) (by rw [c2]; decide) (by rw [c2]; rfl) (by decide) ?_
      refine lv_iconst (v := 1) hx hb dX11_tonicLetter_62 rfl ?_
      exact hy_iret (T := (Mc, M, Mo)) hx hb hr hlocks hP hS (Nat.zero_le _) (Nat.zero_le _) (by rw [← h] <;> rfl) dX11_tonicLetter_63
    · rw [if_neg c2] at h
      by_cases c3 : (M.1 30 1) = 2
      · rw [if_pos c3] at h
        refine lv_tableIn (tgt := 62) (off := 58) hx hb dX11_tonicLetter_4 (by rw [c3]; decide) (by rw [c3]; decide) (by rw [c3]; rfl) (by decide) ?_
        refine lv_iconst (v := 1) hx hb dX11_tonicLetter_62 rfl ?_
        exact hy_iret (T := (Mc, M, Mo)) hx hb hr hlocks hP hS (Nat.zero_le _) (Nat.zero_le _) (by rw [← h] <;> rfl) dX11_tonicLetter_63
      · rw [if_neg c3] at h
        by_cases c4 : (M.1 30 1) = 3
        · rw [if_pos c4] at h
          refine lv_tableIn (tgt := 64) (off := 60) hx hb dX11_tonicLetter_4 (by rw [c4]; decide) (by rw [c4]; decide) (by rw [c4]; rfl) (by decide) ?_
          refine lv_iconst (v := 2) hx hb dX11_tonicLetter_64 rfl ?_
          exact hy_iret (T := (Mc, M, Mo)) hx hb hr hlocks hP hS (Nat.zero_le _) (Nat.zero_le _) (by rw [← h] <;> rfl) dX11_tonicLetter_65
        · rw [if_neg c4] at h
          by_cases c5 : (M.1 30 1) = 4
          · rw [if_pos c5] at h
            refine lv_tableIn (tgt := 64) (off := 60) hx hb dX11_tonicLetter_4 (by rw [c5]; decide) (by rw [c5]; decide) (by rw [c5]; rfl) (by decide) ?_
            refine lv_iconst (v := 2) hx hb dX11_tonicLetter_64 rfl ?_
            exact hy_iret (T := (Mc, M, Mo)) hx hb hr hlocks hP hS (Nat.zero_le _) (Nat.zero_le _) (by rw [← h] <;> rfl) dX11_tonicLetter_65
          · rw [if_neg c5] at h
            by_cases c6 : (M.1 30 1) = 5
            · rw [if_pos c6] at h
              refine lv_tableIn (tgt := 66) (off := 62) hx hb dX11_tonicLetter_4 (by rw [c6]; decide) (by rw [c6]; decide) (by rw [c6]; rfl) (by decide) ?_
              refine lv_iconst (v := 3) hx hb dX11_tonicLetter_66 rfl ?_
              exact hy_iret (T := (Mc, M, Mo)) hx hb hr hlocks hP hS (Nat.zero_le _) (Nat.zero_le _) (by rw [← h] <;> rfl) dX11_tonicLetter_67
            · rw [if_neg c6] at h
              by_cases c7 : (M.1 30 1) = 6
              · rw [if_pos c7] at h
                refine lv_tableIn (tgt := 68) (off := 64) hx hb dX11_tonicLetter_4 (by rw [c7]; decide) (by rw [c7]; decide) (by rw [c7]; rfl) (by decide) ?_
                refine lv_iconst (v := 4) hx hb dX11_tonicLetter_68 rfl ?_
                exact hy_iret (T := (Mc, M, Mo)) hx hb hr hlocks hP hS (Nat.zero_le _) (Nat.zero_le _) (by rw [← h] <;> rfl) dX11_tonicLetter_69
              · rw [if_neg c7] at h
                by_cases c8 : (M.1 30 1) = 7
                · rw [if_pos c8] at h
                  refine lv_tableIn (tgt := 68) (off := 64) hx hb dX11_tonicLetter_4 (by rw [c8]; decide) (by rw [c8]; decide) (by rw [c8]; rfl) (by decide) ?_
                  refine lv_iconst (v := 4) hx hb dX11_tonicLetter_68 rfl ?_
                  exact hy_iret (T := (Mc, M, Mo)) hx hb hr hlocks hP hS (Nat.zero_le _) (Nat.zero_le _) (by rw [← h] <;> rfl) dX11_tonicLetter_69
                · rw [if_neg c8] at h
                  by_cases c9 : (M.1 30 1) = 8
                  · rw [if_pos c9] at h
                    refine lv_tableIn (tgt := 70) (off := 66) hx hb dX11_tonicLetter_4 (by rw [c9]; decide) (by rw [c9]; decide) (by rw [c9]; rfl) (by decide) ?_
                    refine lv_iconst (v := 5) hx hb dX11_tonicLetter_70 rfl ?_
                    exact hy_iret (T := (Mc, M, Mo)) hx hb hr hlocks hP hS (Nat.zero_le _) (Nat.zero_le _) (by rw [← h] <;> rfl) dX11_tonicLetter_71
                  · rw [if_neg c9] at h
                    by_cases c10 : (M.1 30 1) = 9
                    · rw [if_pos c10] at h
                      refine lv_tableIn (tgt := 70) (off := 66) hx hb dX11_tonicLetter_4 (by rw [c10]; decide) (by rw [c10]; decide) (by rw [c10]; rfl) (by decide) ?_
                      refine lv_iconst (v := 5) hx hb dX11_tonicLetter_70 rfl ?_
                      exact hy_iret (T := (Mc, M, Mo)) hx hb hr hlocks hP hS (Nat.zero_le _) (Nat.zero_le _) (by rw [← h] <;> rfl) dX11_tonicLetter_71
                    · rw [if_neg c10] at h
                      refine lv_tableOut (tgt := 72) hx hb dX11_tonicLetter_4 (hy_tabOut 0 (M.1 30 1) 10 (fun k hk => by match k, hk with | 0, _ => exact c1 | 1, _ => exact c2 | 2, _ => exact c3 | 3, _ => exact c4 | 4, _ => exact c5 | 5, _ => exact c6 | 6, _ => exact c7 | 7, _ => exact c8 | 8, _ => exact c9 | 9, _ => exact c10 | k9 + 10, hk => exact absurd hk (by omega))) (by decide) ?_
                      refine lv_bipush (v := 6) hx hb dX11_tonicLetter_72 rfl ?_
                      exact hy_iret (T := (Mc, M, Mo)) hx hb hr hlocks hP hS (Nat.zero_le _) (Nat.zero_le _) (by rw [← h] <;> rfl) dX11_tonicLetter_74
set_option maxHeartbeats 1000000 in
set_option maxRecDepth 100000 in
theorem c_Rf_step {l : Launch} {G : hyG} (Mc Mo : hyM) (a1 : Int32) (M : hyM) {res : Int32} (h : Rf_step a1 M = some res) : hyC l yX11_step (.code yX11_step cX11_step 5 (some .int)) 4 85 (0) G [.ref (adr G 30), .int a1] (Mc, M, Mo) (.inr (some (.int res)), (Mc, M, Mo)) := by
  refine hy_of (by decide +kernel) (Nat.le_of_ble_eq_true rfl) ?_
  intro p e s m below meth c hx hb hml hown hts hr hlocks ht hX hP hS ls hl
  have hl : lv_has ls 5 [(0, .ref (adr G 30)), (1, .int a1)] := hl
  rw [Rf_step] at h
  refine lv_aload_n hx hb dX11_step_0 rfl (lv_at hl 0 rfl) ?_
  refine lv_iload_n hx hb dX11_step_1 rfl (lv_at hl 1 rfl) ?_
  obtain ⟨v1, hv1, h⟩ := hy_bind h
  refine hy_ret (hy_rV0 (T := (Mc, M, Mo)) (v := some (.int (bI v1))) (T2 := (Mc, M, Mo)) (As := [.int a1]) (rest := []) (n := 0) hx hb hml hown hts hX hP hS hl (c_Rf_isRaised Mc Mo a1 M hv1) m_Rf_isRaised q_1518 (hy_recv hX hP 30 10 (by decide) rfl rfl) rfl rfl (Nat.le_of_ble_eq_true rfl) dX11_step_2 ⟨Nat.le_of_ble_eq_true rfl, Nat.le_of_ble_eq_true rfl⟩ ⟨Nat.zero_le _, Nat.zero_le _⟩) hS (fun H locs hP hS => ?_)
  have J8 : ∀ (H : Heap) (locs : List Loc) (ls : Array Slot) (u1 : Int32), u1 = (if v1 then (a1 - 1) else a1) → va_P G.1 vwCl (wld G (Mc, M, Mo)) H → va_S (hyA G) s.heap H locs → lv_has ls 5 [(0, .ref (adr G 30)), (1, .int a1)] → W p l e { frames := 4, cells := 0, slots := 6 * 0, locals := 85 } s m ([.ref (adr G 30), .int a1] : List Value).toArray below meth c H locs 0 0 (vx_MQ below (hyQ G (.inr (some (.int res)), (Mc, M, Mo))) (hyXQ G (.inr (some (.int res)), (Mc, M, Mo))) ([.ref (adr G 30), .int a1] : List Value).toArray s 0 (6 * 0) (hyA G)) (F0 m 15 ls [.int u1]) := by
    intro H locs ls u1 eu1 hP hS hl
    subst eu1
    refine lv_istore_n (lv' := [(2, .int (if v1 then (a1 - 1) else a1)), (0, .ref (adr G 30)), (1, .int a1)]) hx hb dX11_step_15 rfl hl (by decide) rfl (fun ls hl => ?_)
    refine lv_aload_n hx hb dX11_step_16 rfl (lv_at hl 1 rfl) ?_
    refine hy_ret (hy_rV0 (T := (Mc, M, Mo)) (v := some (.int (Rf_tonicLetter M))) (T2 := (Mc, M, Mo)) (As := []) (rest := []) (n := 0) hx hb hml hown hts hX hP hS hl (c_Rf_tonicLetter Mc Mo M rfl) m_Rf_tonicLetter q_1533 (hy_recv hX hP 30 10 (by decide) rfl rfl) rfl rfl (Nat.le_of_ble_eq_true rfl) dX11_step_17 ⟨Nat.le_of_ble_eq_true rfl, Nat.le_of_ble_eq_true rfl⟩ ⟨Nat.zero_le _, Nat.zero_le _⟩) hS (fun H locs hP hS => ?_)
    refine lv_aload_n hx hb dX11_step_20 rfl (lv_at hl 1 rfl) ?_
    refine lv_iload_n hx hb dX11_step_21 rfl (lv_at hl 2 rfl) ?_
    obtain ⟨v3, hv3, h⟩ := hy_bind h
    refine hy_ret (hy_rV0 (T := (Mc, M, Mo)) (v := some (.int v3)) (T2 := (Mc, M, Mo)) (As := [.int a1]) (rest := [.int (Rf_tonicLetter M)]) (n := 0) hx hb hml hown hts hX hP hS hl (c_Rf_degree Mc Mo a1 M hv3) m_Rf_degree q_1514 (hy_recv hX hP 30 10 (by decide) rfl rfl) rfl rfl (Nat.le_of_ble_eq_true rfl) dX11_step_22 ⟨Nat.le_of_ble_eq_true rfl, Nat.le_of_ble_eq_true rfl⟩ ⟨Nat.zero_le _, Nat.zero_le _⟩) hS (fun H locs hP hS => ?_)
    refine lv_iadd hx hb dX11_step_25 ?_
    refine lv_bipush (v := 7) hx hb dX11_step_26 rfl ?_
    refine lv_irem hx hb dX11_step_28 (by decide) ?_
    refine lv_istore_n (lv' := [(3, .int (((Rf_tonicLetter M) + v3) - ((Rf_tonicLetter M) + v3) / 7 * 7)), (2, .int (if v1 then (a1 - 1) else a1)), (0, .ref (adr G 30)), (1, .int a1)]) hx hb dX11_step_29 rfl hl (by decide) rfl (fun ls hl => ?_)
    refine lv_iconst (v := 0) hx hb dX11_step_30 rfl ?_
    refine lv_istore (lv' := [(4, .int 0), (3, .int (((Rf_tonicLetter M) + v3) - ((Rf_tonicLetter M) + v3) / 7 * 7)), (2, .int (if v1 then (a1 - 1) else a1)), (0, .ref (adr G 30)), (1, .int a1)]) hx hb dX11_step_31 hl (by decide) rfl (fun ls hl => ?_)
    have L6 : ∀ (f : Nat) (x4 : Int32) (qL : (Int32)) (h : Rf_step_L33 a1 M v1 v3 f x4 = some qL) (H : Heap) (locs : List Loc) (ls : Array Slot) (hP : va_P G.1 vwCl (wld G (Mc, M, Mo)) H) (hS : va_S (hyA G) s.heap H locs) (hl : lv_has ls 5 [(0, .ref (adr G 30)), (1, .int a1), (2, .int (if v1 then (a1 - 1) else a1)), (3, .int (((Rf_tonicLetter M) + v3) - ((Rf_tonicLetter M) + v3) / 7 * 7)), (4, .int x4)]) (kk : ∀ (y4 : Int32), qL = (y4) → ∀ (H : Heap) (locs : List Loc) (ls : Array Slot), va_P G.1 vwCl (wld G (Mc, M, Mo)) H → va_S (hyA G) s.heap H locs → lv_has ls 5 [(0, .ref (adr G 30)), (1, .int a1), (2, .int (if v1 then (a1 - 1) else a1)), (3, .int (((Rf_tonicLetter M) + v3) - ((Rf_tonicLetter M) + v3) / 7 * 7)), (4, .int y4)] → W p l e { frames := 4, cells := 0, slots := 6 * 0, locals := 85 } s m ([.ref (adr G 30), .int a1] : List Value).toArray below meth c H locs 0 0 (vx_MQ below (hyQ G (.inr (some (.int res)), (Mc, M, Mo))) (hyXQ G (.inr (some (.int res)), (Mc, M, Mo))) ([.ref (adr G 30), .int a1] : List Value).toArray s 0 (6 * 0) (hyA G)) (F0 m 55 ls [])), W p l e { frames := 4, cells := 0, slots := 6 * 0, locals := 85 } s m ([.ref (adr G 30), .int a1] : List Value).toArray below meth c H locs 0 0 (vx_MQ below (hyQ G (.inr (some (.int res)), (Mc, M, Mo))) (hyXQ G (.inr (some (.int res)), (Mc, M, Mo))) ([.ref (adr G 30), .int a1] : List Value).toArray s 0 (6 * 0) (hyA G)) (F0 m 33 ls []) := by
      intro f
      induction f with
      | zero =>
        intro x4 qL h H locs ls hP hS hl kk
        rw [Rf_step_L33] at h
        cases h
      | succ f ih =>
        intro x4 qL h H locs ls hP hS hl kk
        rw [Rf_step_L33] at h
        refine lv_iload_n hx hb dX11_step_33 rfl (lv_at hl 3 rfl) ?_
        refine hy_ret (hy_rS0 (T := (Mc, M, Mo)) (v := some (.int (Rf_classOf (((Rf_tonicLetter M) + v3) - ((Rf_tonicLetter M) + v3) / 7 * 7) M))) (T2 := (Mc, M, Mo)) (As := [.int (((Rf_tonicLetter M) + v3) - ((Rf_tonicLetter M) + v3) / 7 * 7)]) (rest := []) (n := 0) hx hb hml hown hts hX hP hS hl (c_Rf_classOf Mc Mo (((Rf_tonicLetter M) + v3) - ((Rf_tonicLetter M) + v3) / 7 * 7) M rfl) m_Rf_classOf q_1526 rfl rfl (Nat.le_of_ble_eq_true rfl) dX11_step_34 ⟨Nat.le_of_ble_eq_true rfl, Nat.le_of_ble_eq_true rfl⟩ ⟨Nat.zero_le _, Nat.zero_le _⟩) hS (fun H locs hP hS => ?_)
        refine lv_bipush (v := 12) hx hb dX11_step_37 rfl ?_
        refine lv_iload hx hb dX11_step_39 (lv_at hl 4 rfl) ?_
        refine lv_imul hx hb dX11_step_41 ?_
        refine lv_iadd hx hb dX11_step_42 ?_
        refine lv_iload_n hx hb dX11_step_43 rfl (lv_at hl 2 rfl) ?_
        refine lv_iconst (v := 2) hx hb dX11_step_44 rfl ?_
        refine lv_isub hx hb dX11_step_45 ?_
        refine lv_icmp_ge (tgt := 55) hx hb dX11_step_46 (by decide) (fun c5 => ?_) (fun c5 => ?_)
        · rw [if_pos c5] at h
          exact kk x4 (Option.some.inj h).symm _ _ ls hP hS (lv_sub hl [0, 1, 2, 3, 4] rfl)
        · rw [if_neg c5] at h
          refine lv_iinc (v := (x4 + 1)) (lv' := [(4, .int (x4 + 1)), (0, .ref (adr G 30)), (1, .int a1), (2, .int (if v1 then (a1 - 1) else a1)), (3, .int (((Rf_tonicLetter M) + v3) - ((Rf_tonicLetter M) + v3) / 7 * 7))]) hx hb dX11_step_49 hl (k := 4) rfl rfl (by decide) rfl (fun ls hl => ?_)
          refine lv_goto (tgt := 33) hx hb dX11_step_52 (by decide) ?_
          exact ih (x4 + 1) _ h  _ _ ls hP hS (lv_sub hl [1, 2, 3, 4, 0] rfl) kk
    obtain ⟨q7, hq7, h⟩ := hy_bind h
    refine L6 hyFu 0 q7 hq7 _ _ ls hP hS (lv_sub hl [3, 4, 2, 1, 0] rfl) ?_
    intro y4 e9 H locs ls hP hS hl
    subst e9
    try dsimp only at h
    refine lv_bipush (v := 7) hx hb dX11_step_55 rfl ?_
    refine lv_iload hx hb dX11_step_57 (lv_at hl 4 rfl) ?_
    refine lv_imul hx hb dX11_step_59 ?_
    refine lv_iload_n hx hb dX11_step_60 rfl (lv_at hl 3 rfl) ?_
    refine lv_iadd hx hb dX11_step_61 ?_
    exact hy_iret (T := (Mc, M, Mo)) hx hb hr hlocks hP hS (Nat.zero_le _) (Nat.zero_le _) (by rw [← (Option.some.inj h)] <;> rfl) dX11_step_62
  refine lv_if_eq (tgt := 14) hx hb dX11_step_5 (by decide) (fun c2 => ?_) (fun c2 => ?_)
  · refine lv_iload_n hx hb dX11_step_14 rfl (lv_at hl 1 rfl) ?_
    exact J8 _ _ ls a1 (by rw [if_neg (bI_0 c2)] <;> rfl) hP hS (lv_sub hl [0, 1] rfl)
  · refine lv_iload_n hx hb dX11_step_8 rfl (lv_at hl 1 rfl) ?_
    refine lv_iconst (v := 1) hx hb dX11_step_9 rfl ?_
    refine lv_isub hx hb dX11_step_10 ?_
    refine lv_goto (tgt := 15) hx hb dX11_step_11 (by decide) ?_
    exact J8 _ _ ls (a1 - 1) (by rw [if_pos (bI_1 c2)] <;> rfl) hP hS (lv_sub hl [0, 1] rfl)
set_option maxHeartbeats 1000000 in
set_option maxRecDepth 100000 in
theorem c_Rf_ledgers {l : Launch} {G : hyG} (Mc Mo : hyM) (a1 : Int32) (a2 : Int32) (M : hyM) {res : Int32} (h : Rf_ledgers a1 a2 M = some res) : hyC l yX11_ledgers (.code yX11_ledgers cX11_ledgers 5 (some .int)) 5 109 (0) G [.ref (adr G 30), .int a1, .int a2] (Mc, M, Mo) (.inr (some (.int res)), (Mc, M, Mo)) := by
  refine hy_of (by decide +kernel) (Nat.le_of_ble_eq_true rfl) ?_
  intro p e s m below meth c hx hb hml hown hts hr hlocks ht hX hP hS ls hl
  have hl : lv_has ls 5 [(0, .ref (adr G 30)), (1, .int a1), (2, .int a2)] := hl
  rw [Rf_ledgers] at h
  refine lv_iload_n hx hb dX11_ledgers_0 rfl (lv_at hl 1 rfl) ?_
  refine lv_iconst (v := 2) hx hb dX11_ledgers_1 rfl ?_
  have J6 : ∀ (H : Heap) (locs : List Loc) (ls : Array Slot) (u1 : Int32), u1 = (if 2 ≤ a1 then 25 else 37) → va_P G.1 vwCl (wld G (Mc, M, Mo)) H → va_S (hyA G) s.heap H locs → lv_has ls 5 [(0, .ref (adr G 30)), (1, .int a1), (2, .int a2)] → W p l e { frames := 5, cells := 0, slots := 6 * 0, locals := 109 } s m ([.ref (adr G 30), .int a1, .int a2] : List Value).toArray below meth c H locs 0 0 (vx_MQ below (hyQ G (.inr (some (.int res)), (Mc, M, Mo))) (hyXQ G (.inr (some (.int res)), (Mc, M, Mo))) ([.ref (adr G 30), .int a1, .int a2] : List Value).toArray s 0 (6 * 0) (hyA G)) (F0 m 12 ls [.int u1]) := by
    intro H locs ls u1 eu1 hP hS hl
    subst eu1
    refine lv_istore_n (lv' := [(3, .int (if 2 ≤ a1 then 25 else 37)), (0, .ref (adr G 30)), (1, .int a1), (2, .int a2)]) hx hb dX11_ledgers_12 rfl hl (by decide) rfl (fun ls hl => ?_)
    refine lv_aload_n hx hb dX11_ledgers_13 rfl (lv_at hl 1 rfl) ?_
    refine lv_iload_n hx hb dX11_ledgers_14 rfl (lv_at hl 3 rfl) ?_
    obtain ⟨v2, hv2, h⟩ := hy_bind h
    refine hy_ret (hy_rV0 (T := (Mc, M, Mo)) (v := some (.int v2)) (T2 := (Mc, M, Mo)) (As := [.int a2]) (rest := []) (n := 0) hx hb hml hown hts hX hP hS hl (c_Rf_step Mc Mo a2 M hv2) m_Rf_step q_1529 (hy_recv hX hP 30 10 (by decide) rfl rfl) rfl rfl (Nat.le_of_ble_eq_true rfl) dX11_ledgers_15 ⟨Nat.le_of_ble_eq_true rfl, Nat.le_of_ble_eq_true rfl⟩ ⟨Nat.zero_le _, Nat.zero_le _⟩) hS (fun H locs hP hS => ?_)
    refine lv_istore (lv' := [(4, .int v2), (3, .int (if 2 ≤ a1 then 25 else 37)), (0, .ref (adr G 30)), (1, .int a1), (2, .int a2)]) hx hb dX11_ledgers_18 hl (by decide) rfl (fun ls hl => ?_)
    refine lv_iload hx hb dX11_ledgers_20 (lv_at hl 0 rfl) ?_
    refine lv_iload_n hx hb dX11_ledgers_22 rfl (lv_at hl 1 rfl) ?_
    refine lv_bipush (v := 8) hx hb dX11_ledgers_23 rfl ?_
    refine lv_iadd hx hb dX11_ledgers_25 ?_
    have J5 : ∀ (H : Heap) (locs : List Loc) (ls : Array Slot) (u1 : Int32), u1 = (if v2 ≤ ((if 2 ≤ a1 then 25 else 37) + 8) then (if (if 2 ≤ a1 then 25 else 37) ≤ v2 then 0 else (((if 2 ≤ a1 then 25 else 37) - v2) / 2)) else (((v2 - (if 2 ≤ a1 then 25 else 37)) - 8) / 2)) → va_P G.1 vwCl (wld G (Mc, M, Mo)) H → va_S (hyA G) s.heap H locs → lv_has ls 5 [(0, .ref (adr G 30)), (1, .int a1), (2, .int a2), (3, .int (if 2 ≤ a1 then 25 else 37)), (4, .int v2)] → W p l e { frames := 5, cells := 0, slots := 6 * 0, locals := 109 } s m ([.ref (adr G 30), .int a1, .int a2] : List Value).toArray below meth c H locs 0 0 (vx_MQ below (hyQ G (.inr (some (.int res)), (Mc, M, Mo))) (hyXQ G (.inr (some (.int res)), (Mc, M, Mo))) ([.ref (adr G 30), .int a1, .int a2] : List Value).toArray s 0 (6 * 0) (hyA G)) (F0 m 57 ls [.int u1]) := by
      intro H locs ls u1 eu1 hP hS hl
      subst eu1
      exact hy_iret (T := (Mc, M, Mo)) hx hb hr hlocks hP hS (Nat.zero_le _) (Nat.zero_le _) (by rw [← (Option.some.inj h)] <;> rfl) dX11_ledgers_57
    refine lv_icmp_le (tgt := 41) hx hb dX11_ledgers_26 (by decide) (fun c3 => ?_) (fun c3 => ?_)
    · refine lv_iload hx hb dX11_ledgers_41 (lv_at hl 0 rfl) ?_
      refine lv_iload_n hx hb dX11_ledgers_43 rfl (lv_at hl 1 rfl) ?_
      refine lv_icmp_ge (tgt := 56) hx hb dX11_ledgers_44 (by decide) (fun c4 => ?_) (fun c4 => ?_)
      · refine lv_iconst (v := 0) hx hb dX11_ledgers_56 rfl ?_
        exact J5 _ _ ls 0 (by rw [if_pos c3, if_pos c4] <;> rfl) hP hS (lv_sub hl [2, 3, 4, 1, 0] rfl)
      · refine lv_iload_n hx hb dX11_ledgers_47 rfl (lv_at hl 1 rfl) ?_
        refine lv_iload hx hb dX11_ledgers_48 (lv_at hl 0 rfl) ?_
        refine lv_isub hx hb dX11_ledgers_50 ?_
        refine lv_iconst (v := 2) hx hb dX11_ledgers_51 rfl ?_
        refine lv_idiv hx hb dX11_ledgers_52 (by decide) ?_
        refine lv_goto (tgt := 57) hx hb dX11_ledgers_53 (by decide) ?_
        exact J5 _ _ ls (((if 2 ≤ a1 then 25 else 37) - v2) / 2) (by rw [if_pos c3, if_neg c4] <;> rfl) hP hS (lv_sub hl [2, 3, 4, 1, 0] rfl)
    · refine lv_iload hx hb dX11_ledgers_29 (lv_at hl 0 rfl) ?_
      refine lv_iload_n hx hb dX11_ledgers_31 rfl (lv_at hl 1 rfl) ?_
      refine lv_isub hx hb dX11_ledgers_32 ?_
      refine lv_bipush (v := 8) hx hb dX11_ledgers_33 rfl ?_
      refine lv_isub hx hb dX11_ledgers_35 ?_
      refine lv_iconst (v := 2) hx hb dX11_ledgers_36 rfl ?_
      refine lv_idiv hx hb dX11_ledgers_37 (by decide) ?_
      refine lv_goto (tgt := 57) hx hb dX11_ledgers_38 (by decide) ?_
      exact J5 _ _ ls (((v2 - (if 2 ≤ a1 then 25 else 37)) - 8) / 2) (by rw [if_neg c3] <;> rfl) hP hS (lv_sub hl [2, 3, 4, 1, 0] rfl)
  refine lv_icmp_ge (tgt := 10) hx hb dX11_ledgers_2 (by decide) (fun c1 => ?_) (fun c1 => ?_)
  · refine lv_bipush (v := 25) hx hb dX11_ledgers_10 rfl ?_
    exact J6 _ _ ls 25 (by rw [if_pos c1] <;> rfl) hP hS (lv_sub hl [0, 1, 2] rfl)
  · refine lv_bipush (v := 37) hx hb dX11_ledgers_5 rfl ?_
    refine lv_goto (tgt := 12) hx hb dX11_ledgers_7 (by decide) ?_
    exact J6 _ _ ls 37 (by rw [if_neg c1] <;> rfl) hP hS (lv_sub hl [0, 1, 2] rfl)
set_option maxHeartbeats 1000000 in
set_option maxRecDepth 100000 in
theorem c_Rf_pitch {l : Launch} {G : hyG} (Mc Mo : hyM) (a1 : Int32) (a2 : Int32) (M : hyM) {res : Int32} (h : Rf_pitch a1 a2 M = some res) : hyC l yX11_pitch (.code yX11_pitch cX11_pitch 3 (some .int)) 0 0 (0) G [.ref (adr G 30), .int a1, .int a2] (Mc, M, Mo) (.inr (some (.int res)), (Mc, M, Mo)) := by
  refine hy_of (by decide +kernel) (Nat.le_of_ble_eq_true rfl) ?_
  intro p e s m below meth c hx hb hml hown hts hr hlocks ht hX hP hS ls hl
  have hl : lv_has ls 3 [(0, .ref (adr G 30)), (1, .int a1), (2, .int a2)] := hl
  rw [Rf_pitch] at h
  refine lv_aload_n hx hb dX11_pitch_0 rfl (lv_at hl 0 rfl) ?_
  refine hy_get (T := (Mc, M, Mo)) (o := 30) (k := 4) (v := .ref (adr G 32)) hx hb hown hts hX hP (by decide) rfl rfl inX11g (by decide) q_1196 rfl dX11_pitch_1 ?_
  refine lv_iconst (v := 4) hx hb dX11_pitch_4 rfl ?_
  refine lv_iload_n hx hb dX11_pitch_5 rfl (lv_at hl 1 rfl) ?_
  refine lv_imul hx hb dX11_pitch_6 ?_
  refine lv_iload_n hx hb dX11_pitch_7 rfl (lv_at hl 2 rfl) ?_
  refine lv_iadd hx hb dX11_pitch_8 ?_
  obtain ⟨v1, hv1, h⟩ := hy_bind h
  obtain ⟨nv1, hv1⟩ := ldE_some hv1
  refine hy_iald (T := (Mc, M, Mo)) hx hb hX hP 32 160 (M.1 32) (by decide) rfl nv1 dX11_pitch_9 ?_
  rw [hv1]
  exact hy_iret (T := (Mc, M, Mo)) hx hb hr hlocks hP hS (Nat.zero_le _) (Nat.zero_le _) (by rw [← (Option.some.inj h)] <;> rfl) dX11_pitch_10
set_option maxHeartbeats 1000000 in
set_option maxRecDepth 100000 in
theorem c_Rf_headsNow {l : Launch} {G : hyG} (Mc Mo : hyM) (a1 : Int32) (a2 : Int32) (M : hyM) {res : Int32} (h : Rf_headsNow a1 a2 M = some res) : hyC l yX11_headsNow (.code yX11_headsNow cX11_headsNow 6 (some .int)) 5 109 (0) G [.ref (adr G 30), .int a1, .int a2] (Mc, M, Mo) (.inr (some (.int res)), (Mc, M, Mo)) := by
  refine hy_of (by decide +kernel) (Nat.le_of_ble_eq_true rfl) ?_
  intro p e s m below meth c hx hb hml hown hts hr hlocks ht hX hP hS ls hl
  have hl : lv_has ls 6 [(0, .ref (adr G 30)), (1, .int a1), (2, .int a2)] := hl
  rw [Rf_headsNow] at h
  refine lv_aload_n hx hb dX11_headsNow_0 rfl (lv_at hl 0 rfl) ?_
  refine lv_iload_n hx hb dX11_headsNow_1 rfl (lv_at hl 1 rfl) ?_
  refine lv_iconst (v := 2) hx hb dX11_headsNow_2 rfl ?_
  refine lv_iload_n hx hb dX11_headsNow_3 rfl (lv_at hl 2 rfl) ?_
  refine lv_imul hx hb dX11_headsNow_4 ?_
  obtain ⟨v1, hv1, h⟩ := hy_bind h
  refine hy_ret (hy_rV0 (T := (Mc, M, Mo)) (v := some (.int v1)) (T2 := (Mc, M, Mo)) (As := [.int a1, .int (2 * a2)]) (rest := []) (n := 0) hx hb hml hown hts hX hP hS hl (c_Rf_pitch Mc Mo a1 (2 * a2) M hv1) m_Rf_pitch q_1502 (hy_recv hX hP 30 10 (by decide) rfl rfl) rfl rfl (Nat.le_of_ble_eq_true rfl) dX11_headsNow_5 ⟨Nat.le_of_ble_eq_true rfl, Nat.le_of_ble_eq_true rfl⟩ ⟨Nat.zero_le _, Nat.zero_le _⟩) hS (fun H locs hP hS => ?_)
  refine lv_istore_n (lv' := [(3, .int v1), (0, .ref (adr G 30)), (1, .int a1), (2, .int a2)]) hx hb dX11_headsNow_8 rfl hl (by decide) rfl (fun ls hl => ?_)
  refine lv_aload_n hx hb dX11_headsNow_9 rfl (lv_at hl 1 rfl) ?_
  refine lv_iload_n hx hb dX11_headsNow_10 rfl (lv_at hl 2 rfl) ?_
  refine lv_iconst (v := 2) hx hb dX11_headsNow_11 rfl ?_
  refine lv_iload_n hx hb dX11_headsNow_12 rfl (lv_at hl 3 rfl) ?_
  refine lv_imul hx hb dX11_headsNow_13 ?_
  refine lv_iconst (v := 1) hx hb dX11_headsNow_14 rfl ?_
  refine lv_iadd hx hb dX11_headsNow_15 ?_
  obtain ⟨v2, hv2, h⟩ := hy_bind h
  refine hy_ret (hy_rV0 (T := (Mc, M, Mo)) (v := some (.int v2)) (T2 := (Mc, M, Mo)) (As := [.int a1, .int ((2 * a2) + 1)]) (rest := []) (n := 0) hx hb hml hown hts hX hP hS hl (c_Rf_pitch Mc Mo a1 ((2 * a2) + 1) M hv2) m_Rf_pitch q_1502 (hy_recv hX hP 30 10 (by decide) rfl rfl) rfl rfl (Nat.le_of_ble_eq_true rfl) dX11_headsNow_16 ⟨Nat.le_of_ble_eq_true rfl, Nat.le_of_ble_eq_true rfl⟩ ⟨Nat.zero_le _, Nat.zero_le _⟩) hS (fun H locs hP hS => ?_)
  refine lv_istore (lv' := [(4, .int v2), (3, .int v1), (0, .ref (adr G 30)), (1, .int a1), (2, .int a2)]) hx hb dX11_headsNow_19 hl (by decide) rfl (fun ls hl => ?_)
  refine lv_aload_n hx hb dX11_headsNow_21 rfl (lv_at hl 2 rfl) ?_
  refine lv_iload_n hx hb dX11_headsNow_22 rfl (lv_at hl 1 rfl) ?_
  obtain ⟨v3, hv3, h⟩ := hy_bind h
  refine hy_ret (hy_rV0 (T := (Mc, M, Mo)) (v := some (.int v3)) (T2 := (Mc, M, Mo)) (As := [.int v1]) (rest := []) (n := 0) hx hb hml hown hts hX hP hS hl (c_Rf_step Mc Mo v1 M hv3) m_Rf_step q_1529 (hy_recv hX hP 30 10 (by decide) rfl rfl) rfl rfl (Nat.le_of_ble_eq_true rfl) dX11_headsNow_23 ⟨Nat.le_of_ble_eq_true rfl, Nat.le_of_ble_eq_true rfl⟩ ⟨Nat.zero_le _, Nat.zero_le _⟩) hS (fun H locs hP hS => ?_)
  refine lv_aload_n hx hb dX11_headsNow_26 rfl (lv_at hl 2 rfl) ?_
  refine lv_iload hx hb dX11_headsNow_27 (lv_at hl 0 rfl) ?_
  obtain ⟨v4, hv4, h⟩ := hy_bind h
  refine hy_ret (hy_rV0 (T := (Mc, M, Mo)) (v := some (.int v4)) (T2 := (Mc, M, Mo)) (As := [.int v2]) (rest := [.int v3]) (n := 0) hx hb hml hown hts hX hP hS hl (c_Rf_step Mc Mo v2 M hv4) m_Rf_step q_1529 (hy_recv hX hP 30 10 (by decide) rfl rfl) rfl rfl (Nat.le_of_ble_eq_true rfl) dX11_headsNow_29 ⟨Nat.le_of_ble_eq_true rfl, Nat.le_of_ble_eq_true rfl⟩ ⟨Nat.zero_le _, Nat.zero_le _⟩) hS (fun H locs hP hS => ?_)
  refine lv_isub hx hb dX11_headsNow_32 ?_
  refine lv_istore (lv' := [(5, .int (v3 - v4)), (4, .int v2), (3, .int v1), (0, .ref (adr G 30)), (1, .int a1), (2, .int a2)]) hx hb dX11_headsNow_33 hl (by decide) rfl (fun ls hl => ?_)
  refine lv_iload_n hx hb dX11_headsNow_35 rfl (lv_at hl 2 rfl) ?_
  refine lv_iload hx hb dX11_headsNow_36 (lv_at hl 1 rfl) ?_
  refine lv_icmp_ne (tgt := 43) hx hb dX11_headsNow_38 (by decide) (fun c5 => ?_) (fun c5 => ?_)
  · rw [if_neg c5] at h
    refine lv_iload hx hb dX11_headsNow_43 (lv_at hl 0 rfl) ?_
    refine lv_iconst (v := (-1)) hx hb dX11_headsNow_45 rfl ?_
    refine lv_iconst (v := 1) hx hb dX11_headsNow_46 rfl ?_
    refine hy_ret (hy_rS0 (T := (Mc, M, Mo)) (v := some (.int (bI (Rf_within (v3 - v4) (-1) 1 M)))) (T2 := (Mc, M, Mo)) (As := [.int (v3 - v4), .int (-1), .int 1]) (rest := []) (n := 0) hx hb hml hown hts hX hP hS hl (c_Rf_within Mc Mo (v3 - v4) (-1) 1 M rfl) m_Rf_within q_1310 rfl rfl (Nat.le_of_ble_eq_true rfl) dX11_headsNow_47 ⟨Nat.le_of_ble_eq_true rfl, Nat.le_of_ble_eq_true rfl⟩ ⟨Nat.zero_le _, Nat.zero_le _⟩) hS (fun H locs hP hS => ?_)
    have J9 : ∀ (H : Heap) (locs : List Loc) (ls : Array Slot) (u1 : Int32), u1 = (if (Rf_within (v3 - v4) (-1) 1 M) then 2 else 0) → va_P G.1 vwCl (wld G (Mc, M, Mo)) H → va_S (hyA G) s.heap H locs → lv_has ls 6 [(0, .ref (adr G 30)), (1, .int a1), (2, .int a2), (3, .int v1), (4, .int v2), (5, .int (v3 - v4))] → W p l e { frames := 5, cells := 0, slots := 6 * 0, locals := 109 } s m ([.ref (adr G 30), .int a1, .int a2] : List Value).toArray below meth c H locs 0 0 (vx_MQ below (hyQ G (.inr (some (.int res)), (Mc, M, Mo))) (hyXQ G (.inr (some (.int res)), (Mc, M, Mo))) ([.ref (adr G 30), .int a1, .int a2] : List Value).toArray s 0 (6 * 0) (hyA G)) (F0 m 58 ls [.int u1]) := by
      intro H locs ls u1 eu1 hP hS hl
      subst eu1
      refine lv_iload hx hb dX11_headsNow_58 (lv_at hl 4 rfl) ?_
      refine lv_iload_n hx hb dX11_headsNow_60 rfl (lv_at hl 3 rfl) ?_
      have J8 : ∀ (H : Heap) (locs : List Loc) (ls : Array Slot) (u1 : Int32), u1 = (if v2 ≤ v1 then 0 else 4) → va_P G.1 vwCl (wld G (Mc, M, Mo)) H → va_S (hyA G) s.heap H locs → lv_has ls 6 [(0, .ref (adr G 30)), (1, .int a1), (2, .int a2), (3, .int v1), (4, .int v2), (5, .int (v3 - v4))] → W p l e { frames := 5, cells := 0, slots := 6 * 0, locals := 109 } s m ([.ref (adr G 30), .int a1, .int a2] : List Value).toArray below meth c H locs 0 0 (vx_MQ below (hyQ G (.inr (some (.int res)), (Mc, M, Mo))) (hyXQ G (.inr (some (.int res)), (Mc, M, Mo))) ([.ref (adr G 30), .int a1, .int a2] : List Value).toArray s 0 (6 * 0) (hyA G)) (F0 m 69 ls [.int u1, .int (if (Rf_within (v3 - v4) (-1) 1 M) then 2 else 0)]) := by
        intro H locs ls u1 eu1 hP hS hl
        subst eu1
        refine lv_iadd hx hb dX11_headsNow_69 ?_
        exact hy_iret (T := (Mc, M, Mo)) hx hb hr hlocks hP hS (Nat.zero_le _) (Nat.zero_le _) (by rw [← (Option.some.inj h)] <;> rfl) dX11_headsNow_70
      refine lv_icmp_le (tgt := 68) hx hb dX11_headsNow_61 (by decide) (fun c7 => ?_) (fun c7 => ?_)
      · refine lv_iconst (v := 0) hx hb dX11_headsNow_68 rfl ?_
        exact J8 _ _ ls 0 (by rw [if_pos c7] <;> rfl) hP hS (lv_sub hl [0, 1, 2, 3, 4, 5] rfl)
      · refine lv_iconst (v := 4) hx hb dX11_headsNow_64 rfl ?_
        refine lv_goto (tgt := 69) hx hb dX11_headsNow_65 (by decide) ?_
        exact J8 _ _ ls 4 (by rw [if_neg c7] <;> rfl) hP hS (lv_sub hl [0, 1, 2, 3, 4, 5] rfl)
    refine lv_if_eq (tgt := 57) hx hb dX11_headsNow_50 (by decide) (fun c6 => ?_) (fun c6 => ?_)
    · refine lv_iconst (v := 0) hx hb dX11_headsNow_57 rfl ?_
      exact J9 _ _ ls 0 (by rw [if_neg (bI_0 c6)] <;> rfl) hP hS (lv_sub hl [3, 4, 5, 2, 1, 0] rfl)
    · refine lv_iconst (v := 2) hx hb dX11_headsNow_53 rfl ?_
      refine lv_goto (tgt := 58) hx hb dX11_headsNow_54 (by decide) ?_
      exact J9 _ _ ls 2 (by rw [if_pos (bI_1 c6)] <;> rfl) hP hS (lv_sub hl [3, 4, 5, 2, 1, 0] rfl)
  · rw [if_pos (c5)] at h
    refine lv_iconst (v := 1) hx hb dX11_headsNow_41 rfl ?_
    exact hy_iret (T := (Mc, M, Mo)) hx hb hr hlocks hP hS (Nat.zero_le _) (Nat.zero_le _) (by rw [← (Option.some.inj h)] <;> rfl) dX11_headsNow_42
set_option maxHeartbeats 1000000 in
set_option maxRecDepth 100000 in
theorem c_Rf_isParallel {l : Launch} {G : hyG} (Mc Mo : hyM) (a1 : Int32) (a2 : Int32) (a3 : Int32) (M : hyM) {res : Bool} (h : Rf_isParallel a1 a2 a3 M = some res) : hyC l yX11_isParallel (.code yX11_isParallel cX11_isParallel 8 (some .boolean)) 1 22 (0) G [.ref (adr G 30), .int a1, .int a2, .int a3] (Mc, M, Mo) (.inr (some (.int (bI res))), (Mc, M, Mo)) := by
  refine hy_of (by decide +kernel) (Nat.le_of_ble_eq_true rfl) ?_
  intro p e s m below meth c hx hb hml hown hts hr hlocks ht hX hP hS ls hl
  have hl : lv_has ls 8 [(0, .ref (adr G 30)), (1, .int a1), (2, .int a2), (3, .int a3)] := hl
  rw [Rf_isParallel] at h
  refine lv_aload_n hx hb dX11_isParallel_0 rfl (lv_at hl 0 rfl) ?_
  refine lv_iload_n hx hb dX11_isParallel_1 rfl (lv_at hl 1 rfl) ?_
  refine lv_iload_n hx hb dX11_isParallel_2 rfl (lv_at hl 2 rfl) ?_
  obtain ⟨v1, hv1, h⟩ := hy_bind h
  refine hy_ret (hy_rV0 (T := (Mc, M, Mo)) (v := some (.int v1)) (T2 := (Mc, M, Mo)) (As := [.int a1, .int a2]) (rest := []) (n := 0) hx hb hml hown hts hX hP hS hl (c_Rf_pitch Mc Mo a1 a2 M hv1) m_Rf_pitch q_1502 (hy_recv hX hP 30 10 (by decide) rfl rfl) rfl rfl (Nat.le_of_ble_eq_true rfl) dX11_isParallel_3 ⟨Nat.le_of_ble_eq_true rfl, Nat.le_of_ble_eq_true rfl⟩ ⟨Nat.zero_le _, Nat.zero_le _⟩) hS (fun H locs hP hS => ?_)
  refine lv_aload_n hx hb dX11_isParallel_6 rfl (lv_at hl 0 rfl) ?_
  refine lv_iload_n hx hb dX11_isParallel_7 rfl (lv_at hl 1 rfl) ?_
  refine lv_iconst (v := 1) hx hb dX11_isParallel_8 rfl ?_
  refine lv_isub hx hb dX11_isParallel_9 ?_
  refine lv_iload_n hx hb dX11_isParallel_10 rfl (lv_at hl 2 rfl) ?_
  obtain ⟨v2, hv2, h⟩ := hy_bind h
  refine hy_ret (hy_rV0 (T := (Mc, M, Mo)) (v := some (.int v2)) (T2 := (Mc, M, Mo)) (As := [.int (a1 - 1), .int a2]) (rest := [.int v1]) (n := 0) hx hb hml hown hts hX hP hS hl (c_Rf_pitch Mc Mo (a1 - 1) a2 M hv2) m_Rf_pitch q_1502 (hy_recv hX hP 30 10 (by decide) rfl rfl) rfl rfl (Nat.le_of_ble_eq_true rfl) dX11_isParallel_11 ⟨Nat.le_of_ble_eq_true rfl, Nat.le_of_ble_eq_true rfl⟩ ⟨Nat.zero_le _, Nat.zero_le _⟩) hS (fun H locs hP hS => ?_)
  refine lv_isub hx hb dX11_isParallel_14 ?_
  refine lv_istore (lv' := [(4, .int (v1 - v2)), (0, .ref (adr G 30)), (1, .int a1), (2, .int a2), (3, .int a3)]) hx hb dX11_isParallel_15 hl (by decide) rfl (fun ls hl => ?_)
  refine lv_aload_n hx hb dX11_isParallel_17 rfl (lv_at hl 1 rfl) ?_
  refine lv_iload_n hx hb dX11_isParallel_18 rfl (lv_at hl 2 rfl) ?_
  refine lv_iload_n hx hb dX11_isParallel_19 rfl (lv_at hl 4 rfl) ?_
  obtain ⟨v3, hv3, h⟩ := hy_bind h
  refine hy_ret (hy_rV0 (T := (Mc, M, Mo)) (v := some (.int v3)) (T2 := (Mc, M, Mo)) (As := [.int a1, .int a3]) (rest := []) (n := 0) hx hb hml hown hts hX hP hS hl (c_Rf_pitch Mc Mo a1 a3 M hv3) m_Rf_pitch q_1502 (hy_recv hX hP 30 10 (by decide) rfl rfl) rfl rfl (Nat.le_of_ble_eq_true rfl) dX11_isParallel_20 ⟨Nat.le_of_ble_eq_true rfl, Nat.le_of_ble_eq_true rfl⟩ ⟨Nat.zero_le _, Nat.zero_le _⟩) hS (fun H locs hP hS => ?_)
  refine lv_aload_n hx hb dX11_isParallel_23 rfl (lv_at hl 1 rfl) ?_
  refine lv_iload_n hx hb dX11_isParallel_24 rfl (lv_at hl 2 rfl) ?_
  refine lv_iconst (v := 1) hx hb dX11_isParallel_25 rfl ?_
  refine lv_isub hx hb dX11_isParallel_26 ?_
  refine lv_iload_n hx hb dX11_isParallel_27 rfl (lv_at hl 4 rfl) ?_
  obtain ⟨v4, hv4, h⟩ := hy_bind h
  refine hy_ret (hy_rV0 (T := (Mc, M, Mo)) (v := some (.int v4)) (T2 := (Mc, M, Mo)) (As := [.int (a1 - 1), .int a3]) (rest := [.int v3]) (n := 0) hx hb hml hown hts hX hP hS hl (c_Rf_pitch Mc Mo (a1 - 1) a3 M hv4) m_Rf_pitch q_1502 (hy_recv hX hP 30 10 (by decide) rfl rfl) rfl rfl (Nat.le_of_ble_eq_true rfl) dX11_isParallel_28 ⟨Nat.le_of_ble_eq_true rfl, Nat.le_of_ble_eq_true rfl⟩ ⟨Nat.zero_le _, Nat.zero_le _⟩) hS (fun H locs hP hS => ?_)
  refine lv_isub hx hb dX11_isParallel_31 ?_
  refine lv_istore (lv' := [(5, .int (v3 - v4)), (4, .int (v1 - v2)), (0, .ref (adr G 30)), (1, .int a1), (2, .int a2), (3, .int a3)]) hx hb dX11_isParallel_32 hl (by decide) rfl (fun ls hl => ?_)
  refine lv_aload_n hx hb dX11_isParallel_34 rfl (lv_at hl 2 rfl) ?_
  refine lv_iload_n hx hb dX11_isParallel_35 rfl (lv_at hl 3 rfl) ?_
  refine lv_iconst (v := 1) hx hb dX11_isParallel_36 rfl ?_
  refine lv_isub hx hb dX11_isParallel_37 ?_
  refine lv_iload_n hx hb dX11_isParallel_38 rfl (lv_at hl 4 rfl) ?_
  obtain ⟨v5, hv5, h⟩ := hy_bind h
  refine hy_ret (hy_rV0 (T := (Mc, M, Mo)) (v := some (.int v5)) (T2 := (Mc, M, Mo)) (As := [.int (a1 - 1), .int a2]) (rest := []) (n := 0) hx hb hml hown hts hX hP hS hl (c_Rf_pitch Mc Mo (a1 - 1) a2 M hv5) m_Rf_pitch q_1502 (hy_recv hX hP 30 10 (by decide) rfl rfl) rfl rfl (Nat.le_of_ble_eq_true rfl) dX11_isParallel_39 ⟨Nat.le_of_ble_eq_true rfl, Nat.le_of_ble_eq_true rfl⟩ ⟨Nat.zero_le _, Nat.zero_le _⟩) hS (fun H locs hP hS => ?_)
  refine lv_aload_n hx hb dX11_isParallel_42 rfl (lv_at hl 2 rfl) ?_
  refine lv_iload_n hx hb dX11_isParallel_43 rfl (lv_at hl 3 rfl) ?_
  refine lv_iconst (v := 1) hx hb dX11_isParallel_44 rfl ?_
  refine lv_isub hx hb dX11_isParallel_45 ?_
  refine lv_iload_n hx hb dX11_isParallel_46 rfl (lv_at hl 5 rfl) ?_
  obtain ⟨v6, hv6, h⟩ := hy_bind h
  refine hy_ret (hy_rV0 (T := (Mc, M, Mo)) (v := some (.int v6)) (T2 := (Mc, M, Mo)) (As := [.int (a1 - 1), .int a3]) (rest := [.int v5]) (n := 0) hx hb hml hown hts hX hP hS hl (c_Rf_pitch Mc Mo (a1 - 1) a3 M hv6) m_Rf_pitch q_1502 (hy_recv hX hP 30 10 (by decide) rfl rfl) rfl rfl (Nat.le_of_ble_eq_true rfl) dX11_isParallel_47 ⟨Nat.le_of_ble_eq_true rfl, Nat.le_of_ble_eq_true rfl⟩ ⟨Nat.zero_le _, Nat.zero_le _⟩) hS (fun H locs hP hS => ?_)
  refine lv_isub hx hb dX11_isParallel_50 ?_
  refine lv_bipush (v := 60) hx hb dX11_isParallel_51 rfl ?_
  refine lv_iadd hx hb dX11_isParallel_53 ?_
  refine lv_bipush (v := 12) hx hb dX11_isParallel_54 rfl ?_
  refine lv_irem hx hb dX11_isParallel_56 (by decide) ?_
  refine lv_istore (lv' := [(6, .int (((v5 - v6) + 60) - ((v5 - v6) + 60) / 12 * 12)), (5, .int (v3 - v4)), (4, .int (v1 - v2)), (0, .ref (adr G 30)), (1, .int a1), (2, .int a2), (3, .int a3)]) hx hb dX11_isParallel_57 hl (by decide) rfl (fun ls hl => ?_)
  refine lv_aload_n hx hb dX11_isParallel_59 rfl (lv_at hl 3 rfl) ?_
  refine lv_iload_n hx hb dX11_isParallel_60 rfl (lv_at hl 4 rfl) ?_
  refine lv_iload_n hx hb dX11_isParallel_61 rfl (lv_at hl 5 rfl) ?_
  obtain ⟨v7, hv7, h⟩ := hy_bind h
  refine hy_ret (hy_rV0 (T := (Mc, M, Mo)) (v := some (.int v7)) (T2 := (Mc, M, Mo)) (As := [.int a1, .int a2]) (rest := []) (n := 0) hx hb hml hown hts hX hP hS hl (c_Rf_pitch Mc Mo a1 a2 M hv7) m_Rf_pitch q_1502 (hy_recv hX hP 30 10 (by decide) rfl rfl) rfl rfl (Nat.le_of_ble_eq_true rfl) dX11_isParallel_62 ⟨Nat.le_of_ble_eq_true rfl, Nat.le_of_ble_eq_true rfl⟩ ⟨Nat.zero_le _, Nat.zero_le _⟩) hS (fun H locs hP hS => ?_)
  refine lv_aload_n hx hb dX11_isParallel_65 rfl (lv_at hl 3 rfl) ?_
  refine lv_iload_n hx hb dX11_isParallel_66 rfl (lv_at hl 4 rfl) ?_
  refine lv_iload_n hx hb dX11_isParallel_67 rfl (lv_at hl 6 rfl) ?_
  obtain ⟨v8, hv8, h⟩ := hy_bind h
  refine hy_ret (hy_rV0 (T := (Mc, M, Mo)) (v := some (.int v8)) (T2 := (Mc, M, Mo)) (As := [.int a1, .int a3]) (rest := [.int v7]) (n := 0) hx hb hml hown hts hX hP hS hl (c_Rf_pitch Mc Mo a1 a3 M hv8) m_Rf_pitch q_1502 (hy_recv hX hP 30 10 (by decide) rfl rfl) rfl rfl (Nat.le_of_ble_eq_true rfl) dX11_isParallel_68 ⟨Nat.le_of_ble_eq_true rfl, Nat.le_of_ble_eq_true rfl⟩ ⟨Nat.zero_le _, Nat.zero_le _⟩) hS (fun H locs hP hS => ?_)
  refine lv_isub hx hb dX11_isParallel_71 ?_
  refine lv_bipush (v := 60) hx hb dX11_isParallel_72 rfl ?_
  refine lv_iadd hx hb dX11_isParallel_74 ?_
  refine lv_bipush (v := 12) hx hb dX11_isParallel_75 rfl ?_
  refine lv_irem hx hb dX11_isParallel_77 (by decide) ?_
  refine lv_istore (lv' := [(7, .int (((v7 - v8) + 60) - ((v7 - v8) + 60) / 12 * 12)), (6, .int (((v5 - v6) + 60) - ((v5 - v6) + 60) / 12 * 12)), (5, .int (v3 - v4)), (4, .int (v1 - v2)), (0, .ref (adr G 30)), (1, .int a1), (2, .int a2), (3, .int a3)]) hx hb dX11_isParallel_78 hl (by decide) rfl (fun ls hl => ?_)
  refine lv_iload hx hb dX11_isParallel_80 (lv_at hl 3 rfl) ?_
  have J24 : ∀ (H : Heap) (locs : List Loc) (ls : Array Slot) (u1 : Int32), u1 = (bI (if (v1 - v2) ≤ 0 then (if 0 ≤ (v1 - v2) then false else (if 0 ≤ (v3 - v4) then false else (if (((v5 - v6) + 60) - ((v5 - v6) + 60) / 12 * 12) = (((v7 - v8) + 60) - ((v7 - v8) + 60) / 12 * 12) then (if (((v7 - v8) + 60) - ((v7 - v8) + 60) / 12 * 12) = 0 then true else (decide ((((v7 - v8) + 60) - ((v7 - v8) + 60) / 12 * 12) = 7))) else false))) else (if 0 < (v3 - v4) then (if (((v5 - v6) + 60) - ((v5 - v6) + 60) / 12 * 12) = (((v7 - v8) + 60) - ((v7 - v8) + 60) / 12 * 12) then (if (((v7 - v8) + 60) - ((v7 - v8) + 60) / 12 * 12) = 0 then true else (decide ((((v7 - v8) + 60) - ((v7 - v8) + 60) / 12 * 12) = 7))) else false) else (if 0 ≤ (v1 - v2) then false else (if 0 ≤ (v3 - v4) then false else (if (((v5 - v6) + 60) - ((v5 - v6) + 60) / 12 * 12) = (((v7 - v8) + 60) - ((v7 - v8) + 60) / 12 * 12) then (if (((v7 - v8) + 60) - ((v7 - v8) + 60) / 12 * 12) = 0 then true else (decide ((((v7 - v8) + 60) - ((v7 - v8) + 60) / 12 * 12) = 7))) else false)))))) → va_P G.1 vwCl (wld G (Mc, M, Mo)) H → va_S (hyA G) s.heap H locs → lv_has ls 8 [(0, .ref (adr G 30)), (1, .int a1), (2, .int a2), (3, .int a3), (4, .int (v1 - v2)), (5, .int (v3 - v4)), (6, .int (((v5 - v6) + 60) - ((v5 - v6) + 60) / 12 * 12)), (7, .int (((v7 - v8) + 60) - ((v7 - v8) + 60) / 12 * 12))] → W p l e { frames := 1, cells := 0, slots := 6 * 0, locals := 22 } s m ([.ref (adr G 30), .int a1, .int a2, .int a3] : List Value).toArray below meth c H locs 0 0 (vx_MQ below (hyQ G (.inr (some (.int (bI res))), (Mc, M, Mo))) (hyXQ G (.inr (some (.int (bI res))), (Mc, M, Mo))) ([.ref (adr G 30), .int a1, .int a2, .int a3] : List Value).toArray s 0 (6 * 0) (hyA G)) (F0 m 124 ls [.int u1]) := by
    intro H locs ls u1 eu1 hP hS hl
    subst eu1
    exact hy_zret (T := (Mc, M, Mo)) hx hb hr hlocks hP hS (Nat.zero_le _) (Nat.zero_le _) (bI_nar (if (v1 - v2) ≤ 0 then (if 0 ≤ (v1 - v2) then false else (if 0 ≤ (v3 - v4) then false else (if (((v5 - v6) + 60) - ((v5 - v6) + 60) / 12 * 12) = (((v7 - v8) + 60) - ((v7 - v8) + 60) / 12 * 12) then (if (((v7 - v8) + 60) - ((v7 - v8) + 60) / 12 * 12) = 0 then true else (decide ((((v7 - v8) + 60) - ((v7 - v8) + 60) / 12 * 12) = 7))) else false))) else (if 0 < (v3 - v4) then (if (((v5 - v6) + 60) - ((v5 - v6) + 60) / 12 * 12) = (((v7 - v8) + 60) - ((v7 - v8) + 60) / 12 * 12) then (if (((v7 - v8) + 60) - ((v7 - v8) + 60) / 12 * 12) = 0 then true else (decide ((((v7 - v8) + 60) - ((v7 - v8) + 60) / 12 * 12) = 7))) else false) else (if 0 ≤ (v1 - v2) then false else (if 0 ≤ (v3 - v4) then false else (if (((v5 - v6) + 60) - ((v5 - v6) + 60) / 12 * 12) = (((v7 - v8) + 60) - ((v7 - v8) + 60) / 12 * 12) then (if (((v7 - v8) + 60) - ((v7 - v8) + 60) / 12 * 12) = 0 then true else (decide ((((v7 - v8) + 60) - ((v7 - v8) + 60) / 12 * 12) = 7))) else false)))))) (by rw [← (Option.some.inj h)] <;> rfl) dX11_isParallel_124
  refine lv_if_le (tgt := 90) hx hb dX11_isParallel_82 (by decide) (fun c9 => ?_) (fun c9 => ?_)
  · refine lv_iload hx hb dX11_isParallel_90 (lv_at hl 3 rfl) ?_
    refine lv_if_ge (tgt := 123) hx hb dX11_isParallel_92 (by decide) (fun c10 => ?_) (fun c10 => ?_)
    · refine lv_iconst (v := 0) hx hb dX11_isParallel_123 rfl ?_
      exact J24 _ _ ls 0 (by rw [if_pos c9, if_pos c10] <;> rfl) hP hS (lv_sub hl [4, 5, 6, 7, 3, 2, 1, 0] rfl)
    · refine lv_iload hx hb dX11_isParallel_95 (lv_at hl 2 rfl) ?_
      refine lv_if_ge (tgt := 123) hx hb dX11_isParallel_97 (by decide) (fun c11 => ?_) (fun c11 => ?_)
      · refine lv_iconst (v := 0) hx hb dX11_isParallel_123 rfl ?_
        exact J24 _ _ ls 0 (by rw [if_pos c9, if_neg c10, if_pos c11] <;> rfl) hP hS (lv_sub hl [4, 5, 6, 7, 3, 2, 1, 0] rfl)
      · refine lv_iload hx hb dX11_isParallel_100 (lv_at hl 1 rfl) ?_
        refine lv_iload hx hb dX11_isParallel_102 (lv_at hl 0 rfl) ?_
        refine lv_icmp_ne (tgt := 123) hx hb dX11_isParallel_104 (by decide) (fun c12 => ?_) (fun c12 => ?_)
        · refine lv_iconst (v := 0) hx hb dX11_isParallel_123 rfl ?_
          exact J24 _ _ ls 0 (by rw [if_pos c9, if_neg c10, if_neg c11, if_neg c12] <;> rfl) hP hS (lv_sub hl [4, 5, 6, 7, 3, 2, 1, 0] rfl)
        · refine lv_iload hx hb dX11_isParallel_107 (lv_at hl 0 rfl) ?_
          refine lv_if_eq (tgt := 119) hx hb dX11_isParallel_109 (by decide) (fun c13 => ?_) (fun c13 => ?_)
          · refine lv_iconst (v := 1) hx hb dX11_isParallel_119 rfl ?_
            refine lv_goto (tgt := 124) hx hb dX11_isParallel_120 (by decide) ?_
            exact J24 _ _ ls 1 (by rw [if_pos c9, if_neg c10, if_neg c11, if_pos c12, if_pos c13] <;> rfl) hP hS (lv_sub hl [4, 5, 6, 7, 3, 2, 1, 0] rfl)
          · refine lv_iload hx hb dX11_isParallel_112 (lv_at hl 0 rfl) ?_
            refine lv_bipush (v := 7) hx hb dX11_isParallel_114 rfl ?_
            refine lv_icmp_ne (tgt := 123) hx hb dX11_isParallel_116 (by decide) (fun c14 => ?_) (fun c14 => ?_)
            · refine lv_iconst (v := 0) hx hb dX11_isParallel_123 rfl ?_
              exact J24 _ _ ls 0 (by rw [if_pos c9, if_neg c10, if_neg c11, if_pos c12, if_neg c13, decide_eq_false c14] <;> rfl) hP hS (lv_sub hl [4, 5, 6, 7, 3, 2, 1, 0] rfl)
            · refine lv_iconst (v := 1) hx hb dX11_isParallel_119 rfl ?_
              refine lv_goto (tgt := 124) hx hb dX11_isParallel_120 (by decide) ?_
              exact J24 _ _ ls 1 (by rw [if_pos c9, if_neg c10, if_neg c11, if_pos c12, if_neg c13, decide_eq_true c14] <;> rfl) hP hS (lv_sub hl [4, 5, 6, 7, 3, 2, 1, 0] rfl)
  · refine lv_iload hx hb dX11_isParallel_85 (lv_at hl 2 rfl) ?_
    refine lv_if_gt (tgt := 100) hx hb dX11_isParallel_87 (by decide) (fun c15 => ?_) (fun c15 => ?_)
    · refine lv_iload hx hb dX11_isParallel_100 (lv_at hl 1 rfl) ?_
      refine lv_iload hx hb dX11_isParallel_102 (lv_at hl 0 rfl) ?_
      refine lv_icmp_ne (tgt := 123) hx hb dX11_isParallel_104 (by decide) (fun c16 => ?_) (fun c16 => ?_)
      · refine lv_iconst (v := 0) hx hb dX11_isParallel_123 rfl ?_
        exact J24 _ _ ls 0 (by rw [if_neg c9, if_pos c15, if_neg c16] <;> rfl) hP hS (lv_sub hl [4, 5, 6, 7, 3, 2, 1, 0] rfl)
      · refine lv_iload hx hb dX11_isParallel_107 (lv_at hl 0 rfl) ?_
        refine lv_if_eq (tgt := 119) hx hb dX11_isParallel_109 (by decide) (fun c17 => ?_) (fun c17 => ?_)
        · refine lv_iconst (v := 1) hx hb dX11_isParallel_119 rfl ?_
          refine lv_goto (tgt := 124) hx hb dX11_isParallel_120 (by decide) ?_
          exact J24 _ _ ls 1 (by rw [if_neg c9, if_pos c15, if_pos c16, if_pos c17] <;> rfl) hP hS (lv_sub hl [4, 5, 6, 7, 3, 2, 1, 0] rfl)
        · refine lv_iload hx hb dX11_isParallel_112 (lv_at hl 0 rfl) ?_
          refine lv_bipush (v := 7) hx hb dX11_isParallel_114 rfl ?_
          refine lv_icmp_ne (tgt := 123) hx hb dX11_isParallel_116 (by decide) (fun c18 => ?_) (fun c18 => ?_)
          · refine lv_iconst (v := 0) hx hb dX11_isParallel_123 rfl ?_
            exact J24 _ _ ls 0 (by rw [if_neg c9, if_pos c15, if_pos c16, if_neg c17, decide_eq_false c18] <;> rfl) hP hS (lv_sub hl [4, 5, 6, 7, 3, 2, 1, 0] rfl)
          · refine lv_iconst (v := 1) hx hb dX11_isParallel_119 rfl ?_
            refine lv_goto (tgt := 124) hx hb dX11_isParallel_120 (by decide) ?_
            exact J24 _ _ ls 1 (by rw [if_neg c9, if_pos c15, if_pos c16, if_neg c17, decide_eq_true c18] <;> rfl) hP hS (lv_sub hl [4, 5, 6, 7, 3, 2, 1, 0] rfl)
    · refine lv_iload hx hb dX11_isParallel_90 (lv_at hl 3 rfl) ?_
      refine lv_if_ge (tgt := 123) hx hb dX11_isParallel_92 (by decide) (fun c19 => ?_) (fun c19 => ?_)
      · refine lv_iconst (v := 0) hx hb dX11_isParallel_123 rfl ?_
        exact J24 _ _ ls 0 (by rw [if_neg c9, if_neg c15, if_pos c19] <;> rfl) hP hS (lv_sub hl [4, 5, 6, 7, 3, 2, 1, 0] rfl)
      · refine lv_iload hx hb dX11_isParallel_95 (lv_at hl 2 rfl) ?_
        refine lv_if_ge (tgt := 123) hx hb dX11_isParallel_97 (by decide) (fun c20 => ?_) (fun c20 => ?_)
        · refine lv_iconst (v := 0) hx hb dX11_isParallel_123 rfl ?_
          exact J24 _ _ ls 0 (by rw [if_neg c9, if_neg c15, if_neg c19, if_pos c20] <;> rfl) hP hS (lv_sub hl [4, 5, 6, 7, 3, 2, 1, 0] rfl)
        · refine lv_iload hx hb dX11_isParallel_100 (lv_at hl 1 rfl) ?_
          refine lv_iload hx hb dX11_isParallel_102 (lv_at hl 0 rfl) ?_
          refine lv_icmp_ne (tgt := 123) hx hb dX11_isParallel_104 (by decide) (fun c21 => ?_) (fun c21 => ?_)
          · refine lv_iconst (v := 0) hx hb dX11_isParallel_123 rfl ?_
            exact J24 _ _ ls 0 (by rw [if_neg c9, if_neg c15, if_neg c19, if_neg c20, if_neg c21] <;> rfl) hP hS (lv_sub hl [4, 5, 6, 7, 3, 2, 1, 0] rfl)
          · refine lv_iload hx hb dX11_isParallel_107 (lv_at hl 0 rfl) ?_
            refine lv_if_eq (tgt := 119) hx hb dX11_isParallel_109 (by decide) (fun c22 => ?_) (fun c22 => ?_)
            · refine lv_iconst (v := 1) hx hb dX11_isParallel_119 rfl ?_
              refine lv_goto (tgt := 124) hx hb dX11_isParallel_120 (by decide) ?_
              exact J24 _ _ ls 1 (by rw [if_neg c9, if_neg c15, if_neg c19, if_neg c20, if_pos c21, if_pos c22] <;> rfl) hP hS (lv_sub hl [4, 5, 6, 7, 3, 2, 1, 0] rfl)
            · refine lv_iload hx hb dX11_isParallel_112 (lv_at hl 0 rfl) ?_
              refine lv_bipush (v := 7) hx hb dX11_isParallel_114 rfl ?_
              refine lv_icmp_ne (tgt := 123) hx hb dX11_isParallel_116 (by decide) (fun c23 => ?_) (fun c23 => ?_)
              · refine lv_iconst (v := 0) hx hb dX11_isParallel_123 rfl ?_
                exact J24 _ _ ls 0 (by rw [if_neg c9, if_neg c15, if_neg c19, if_neg c20, if_pos c21, if_neg c22, decide_eq_false c23] <;> rfl) hP hS (lv_sub hl [4, 5, 6, 7, 3, 2, 1, 0] rfl)
              · refine lv_iconst (v := 1) hx hb dX11_isParallel_119 rfl ?_
                refine lv_goto (tgt := 124) hx hb dX11_isParallel_120 (by decide) ?_
                exact J24 _ _ ls 1 (by rw [if_neg c9, if_neg c15, if_neg c19, if_neg c20, if_pos c21, if_neg c22, decide_eq_true c23] <;> rfl) hP hS (lv_sub hl [4, 5, 6, 7, 3, 2, 1, 0] rfl)
set_option maxHeartbeats 1000000 in
set_option maxRecDepth 100000 in
theorem c_Rf_parallels {l : Launch} {G : hyG} (Mc Mo : hyM) (a1 : Int32) (M : hyM) {res : Int32} (h : Rf_parallels a1 M = some res) : hyC l yX11_parallels (.code yX11_parallels cX11_parallels 6 (some .int)) 2 49 (0) G [.ref (adr G 30), .int a1] (Mc, M, Mo) (.inr (some (.int res)), (Mc, M, Mo)) := by
  refine hy_of (by decide +kernel) (Nat.le_of_ble_eq_true rfl) ?_
  intro p e s m below meth c hx hb hml hown hts hr hlocks ht hX hP hS ls hl
  have hl : lv_has ls 6 [(0, .ref (adr G 30)), (1, .int a1)] := hl
  rw [Rf_parallels] at h
  refine lv_iconst (v := 0) hx hb dX11_parallels_0 rfl ?_
  refine lv_istore_n (lv' := [(2, .int 0), (0, .ref (adr G 30)), (1, .int a1)]) hx hb dX11_parallels_1 rfl hl (by decide) rfl (fun ls hl => ?_)
  refine lv_iconst (v := 0) hx hb dX11_parallels_2 rfl ?_
  refine lv_istore_n (lv' := [(3, .int 0), (2, .int 0), (0, .ref (adr G 30)), (1, .int a1)]) hx hb dX11_parallels_3 rfl hl (by decide) rfl (fun ls hl => ?_)
  refine lv_iconst (v := 0) hx hb dX11_parallels_4 rfl ?_
  refine lv_istore (lv' := [(4, .int 0), (3, .int 0), (2, .int 0), (0, .ref (adr G 30)), (1, .int a1)]) hx hb dX11_parallels_5 hl (by decide) rfl (fun ls hl => ?_)
  have L15 : ∀ (f : Nat) (x1 : Int32) (x2 : Int32) (x3 : Int32) (qL : (Int32 × Int32 × Int32)) (h : Rf_parallels_L7 a1 M f x1 x2 x3 = some qL) (H : Heap) (locs : List Loc) (ls : Array Slot) (hP : va_P G.1 vwCl (wld G (Mc, M, Mo)) H) (hS : va_S (hyA G) s.heap H locs) (hl : lv_has ls 6 [(0, .ref (adr G 30)), (1, .int a1), (2, .int x1), (3, .int x2), (4, .int x3)]) (kk : ∀ (y1 : Int32) (y2 : Int32) (y3 : Int32), qL = (y1, y2, y3) → ∀ (H : Heap) (locs : List Loc) (ls : Array Slot), va_P G.1 vwCl (wld G (Mc, M, Mo)) H → va_S (hyA G) s.heap H locs → lv_has ls 6 [(0, .ref (adr G 30)), (1, .int a1), (2, .int y1), (3, .int y2), (4, .int y3)] → W p l e { frames := 2, cells := 0, slots := 6 * 0, locals := 49 } s m ([.ref (adr G 30), .int a1] : List Value).toArray below meth c H locs 0 0 (vx_MQ below (hyQ G (.inr (some (.int res)), (Mc, M, Mo))) (hyXQ G (.inr (some (.int res)), (Mc, M, Mo))) ([.ref (adr G 30), .int a1] : List Value).toArray s 0 (6 * 0) (hyA G)) (F0 m 66 ls [])), W p l e { frames := 2, cells := 0, slots := 6 * 0, locals := 49 } s m ([.ref (adr G 30), .int a1] : List Value).toArray below meth c H locs 0 0 (vx_MQ below (hyQ G (.inr (some (.int res)), (Mc, M, Mo))) (hyXQ G (.inr (some (.int res)), (Mc, M, Mo))) ([.ref (adr G 30), .int a1] : List Value).toArray s 0 (6 * 0) (hyA G)) (F0 m 7 ls []) := by
    intro f
    induction f with
    | zero =>
      intro x1 x2 x3 qL h H locs ls hP hS hl kk
      rw [Rf_parallels_L7] at h
      cases h
    | succ f ih =>
      intro x1 x2 x3 qL h H locs ls hP hS hl kk
      rw [Rf_parallels_L7] at h
      refine lv_iload hx hb dX11_parallels_7 (lv_at hl 4 rfl) ?_
      refine lv_iconst (v := 4) hx hb dX11_parallels_9 rfl ?_
      refine lv_icmp_ge (tgt := 66) hx hb dX11_parallels_10 (by decide) (fun c4 => ?_) (fun c4 => ?_)
      · rw [if_pos c4] at h
        exact kk x1 x2 x3 (Option.some.inj h).symm _ _ ls hP hS (lv_sub hl [0, 1, 2, 3, 4] rfl)
      · rw [if_neg c4] at h
        refine lv_iload hx hb dX11_parallels_13 (lv_at hl 4 rfl) ?_
        refine lv_iconst (v := 1) hx hb dX11_parallels_15 rfl ?_
        refine lv_iadd hx hb dX11_parallels_16 ?_
        refine lv_istore (lv' := [(5, .int (x3 + 1)), (0, .ref (adr G 30)), (1, .int a1), (2, .int x1), (3, .int x2), (4, .int x3)]) hx hb dX11_parallels_17 hl (by decide) rfl (fun ls hl => ?_)
        have L13 : ∀ (f : Nat) (x5 : Int32) (x6 : Int32) (x7 : Int32) (qL : (Int32 × Int32 × Int32)) (h : Rf_parallels_L19 a1 M x3 f x5 x6 x7 = some qL) (H : Heap) (locs : List Loc) (ls : Array Slot) (hP : va_P G.1 vwCl (wld G (Mc, M, Mo)) H) (hS : va_S (hyA G) s.heap H locs) (hl : lv_has ls 6 [(0, .ref (adr G 30)), (1, .int a1), (2, .int x5), (3, .int x6), (4, .int x3), (5, .int x7)]) (kk : ∀ (y5 : Int32) (y6 : Int32) (y7 : Int32), qL = (y5, y6, y7) → ∀ (H : Heap) (locs : List Loc) (ls : Array Slot), va_P G.1 vwCl (wld G (Mc, M, Mo)) H → va_S (hyA G) s.heap H locs → lv_has ls 6 [(0, .ref (adr G 30)), (1, .int a1), (2, .int y5), (3, .int y6), (4, .int x3), (5, .int y7)] → W p l e { frames := 2, cells := 0, slots := 6 * 0, locals := 49 } s m ([.ref (adr G 30), .int a1] : List Value).toArray below meth c H locs 0 0 (vx_MQ below (hyQ G (.inr (some (.int res)), (Mc, M, Mo))) (hyXQ G (.inr (some (.int res)), (Mc, M, Mo))) ([.ref (adr G 30), .int a1] : List Value).toArray s 0 (6 * 0) (hyA G)) (F0 m 60 ls [])), W p l e { frames := 2, cells := 0, slots := 6 * 0, locals := 49 } s m ([.ref (adr G 30), .int a1] : List Value).toArray below meth c H locs 0 0 (vx_MQ below (hyQ G (.inr (some (.int res)), (Mc, M, Mo))) (hyXQ G (.inr (some (.int res)), (Mc, M, Mo))) ([.ref (adr G 30), .int a1] : List Value).toArray s 0 (6 * 0) (hyA G)) (F0 m 19 ls []) := by
          intro f
          induction f with
          | zero =>
            intro x5 x6 x7 qL h H locs ls hP hS hl kk
            rw [Rf_parallels_L19] at h
            cases h
          | succ f ih =>
            intro x5 x6 x7 qL h H locs ls hP hS hl kk
            rw [Rf_parallels_L19] at h
            refine lv_iload hx hb dX11_parallels_19 (lv_at hl 5 rfl) ?_
            refine lv_iconst (v := 4) hx hb dX11_parallels_21 rfl ?_
            refine lv_icmp_ge (tgt := 60) hx hb dX11_parallels_22 (by decide) (fun c8 => ?_) (fun c8 => ?_)
            · rw [if_pos c8] at h
              exact kk x5 x6 x7 (Option.some.inj h).symm _ _ ls hP hS (lv_sub hl [0, 1, 2, 3, 4, 5] rfl)
            · rw [if_neg c8] at h
              refine lv_iload_n hx hb dX11_parallels_25 rfl (lv_at hl 2 rfl) ?_
              refine lv_iload_n hx hb dX11_parallels_26 rfl (lv_at hl 1 rfl) ?_
              refine lv_if_le (tgt := 48) hx hb dX11_parallels_27 (by decide) (fun c9 => ?_) (fun c9 => ?_)
              · rw [if_pos c9] at h
                refine lv_iconst (v := 0) hx hb dX11_parallels_48 rfl ?_
                refine lv_ior hx hb dX11_parallels_49 ?_
                refine lv_istore_n (lv' := [(2, .int (x5 ||| 0)), (0, .ref (adr G 30)), (1, .int a1), (3, .int x6), (4, .int x3), (5, .int x7)]) hx hb dX11_parallels_50 rfl hl (by decide) rfl (fun ls hl => ?_)
                refine lv_iinc (v := (x6 + 1)) (lv' := [(3, .int (x6 + 1)), (2, .int (x5 ||| 0)), (0, .ref (adr G 30)), (1, .int a1), (4, .int x3), (5, .int x7)]) hx hb dX11_parallels_51 hl (k := 3) rfl rfl (by decide) rfl (fun ls hl => ?_)
                refine lv_iinc (v := (x7 + 1)) (lv' := [(5, .int (x7 + 1)), (3, .int (x6 + 1)), (2, .int (x5 ||| 0)), (0, .ref (adr G 30)), (1, .int a1), (4, .int x3)]) hx hb dX11_parallels_54 hl (k := 5) rfl rfl (by decide) rfl (fun ls hl => ?_)
                refine lv_goto (tgt := 19) hx hb dX11_parallels_57 (by decide) ?_
                exact ih (x5 ||| 0) (x6 + 1) (x7 + 1) _ h  _ _ ls hP hS (lv_sub hl [3, 4, 2, 1, 5, 0] rfl) kk
              · rw [if_neg c9] at h
                refine lv_aload_n hx hb dX11_parallels_30 rfl (lv_at hl 0 rfl) ?_
                refine lv_iload_n hx hb dX11_parallels_31 rfl (lv_at hl 1 rfl) ?_
                refine lv_iload hx hb dX11_parallels_32 (lv_at hl 4 rfl) ?_
                refine lv_iload hx hb dX11_parallels_34 (lv_at hl 5 rfl) ?_
                obtain ⟨v10, hv10, h⟩ := hy_bind h
                refine hy_ret (hy_rV0 (T := (Mc, M, Mo)) (v := some (.int (bI v10))) (T2 := (Mc, M, Mo)) (As := [.int a1, .int x3, .int x7]) (rest := [.int x5]) (n := 0) hx hb hml hown hts hX hP hS hl (c_Rf_isParallel Mc Mo a1 x3 x7 M hv10) m_Rf_isParallel q_1498 (hy_recv hX hP 30 10 (by decide) rfl rfl) rfl rfl (Nat.le_of_ble_eq_true rfl) dX11_parallels_36 ⟨Nat.le_of_ble_eq_true rfl, Nat.le_of_ble_eq_true rfl⟩ ⟨Nat.zero_le _, Nat.zero_le _⟩) hS (fun H locs hP hS => ?_)
                have J12 : ∀ (H : Heap) (locs : List Loc) (ls : Array Slot) (u1 : Int32), u1 = (if v10 then (1 <<< (x6 &&& 31)) else 0) → va_P G.1 vwCl (wld G (Mc, M, Mo)) H → va_S (hyA G) s.heap H locs → lv_has ls 6 [(0, .ref (adr G 30)), (1, .int a1), (2, .int x5), (3, .int x6), (4, .int x3), (5, .int x7)] → W p l e { frames := 2, cells := 0, slots := 6 * 0, locals := 49 } s m ([.ref (adr G 30), .int a1] : List Value).toArray below meth c H locs 0 0 (vx_MQ below (hyQ G (.inr (some (.int res)), (Mc, M, Mo))) (hyXQ G (.inr (some (.int res)), (Mc, M, Mo))) ([.ref (adr G 30), .int a1] : List Value).toArray s 0 (6 * 0) (hyA G)) (F0 m 49 ls [.int u1, .int x5]) := by
                  intro H locs ls u1 eu1 hP hS hl
                  subst eu1
                  refine lv_ior hx hb dX11_parallels_49 ?_
                  refine lv_istore_n (lv' := [(2, .int (x5 ||| (if v10 then (1 <<< (x6 &&& 31)) else 0))), (0, .ref (adr G 30)), (1, .int a1), (3, .int x6), (4, .int x3), (5, .int x7)]) hx hb dX11_parallels_50 rfl hl (by decide) rfl (fun ls hl => ?_)
                  refine lv_iinc (v := (x6 + 1)) (lv' := [(3, .int (x6 + 1)), (2, .int (x5 ||| (if v10 then (1 <<< (x6 &&& 31)) else 0))), (0, .ref (adr G 30)), (1, .int a1), (4, .int x3), (5, .int x7)]) hx hb dX11_parallels_51 hl (k := 3) rfl rfl (by decide) rfl (fun ls hl => ?_)
                  refine lv_iinc (v := (x7 + 1)) (lv' := [(5, .int (x7 + 1)), (3, .int (x6 + 1)), (2, .int (x5 ||| (if v10 then (1 <<< (x6 &&& 31)) else 0))), (0, .ref (adr G 30)), (1, .int a1), (4, .int x3)]) hx hb dX11_parallels_54 hl (k := 5) rfl rfl (by decide) rfl (fun ls hl => ?_)
                  refine lv_goto (tgt := 19) hx hb dX11_parallels_57 (by decide) ?_
                  exact ih (x5 ||| (if v10 then (1 <<< (x6 &&& 31)) else 0)) (x6 + 1) (x7 + 1) _ h  _ _ ls hP hS (lv_sub hl [3, 4, 2, 1, 5, 0] rfl) kk
                refine lv_if_eq (tgt := 48) hx hb dX11_parallels_39 (by decide) (fun c11 => ?_) (fun c11 => ?_)
                · refine lv_iconst (v := 0) hx hb dX11_parallels_48 rfl ?_
                  exact J12 _ _ ls 0 (by rw [if_neg (bI_0 c11)] <;> rfl) hP hS (lv_sub hl [0, 1, 2, 3, 4, 5] rfl)
                · refine lv_iconst (v := 1) hx hb dX11_parallels_42 rfl ?_
                  refine lv_iload_n hx hb dX11_parallels_43 rfl (lv_at hl 3 rfl) ?_
                  refine lv_ishl hx hb dX11_parallels_44 ?_
                  refine lv_goto (tgt := 49) hx hb dX11_parallels_45 (by decide) ?_
                  exact J12 _ _ ls (1 <<< (x6 &&& 31)) (by rw [if_pos (bI_1 c11)] <;> rfl) hP hS (lv_sub hl [0, 1, 2, 3, 4, 5] rfl)
        obtain ⟨q14, hq14, h⟩ := hy_bind h
        refine L13 hyFu x1 x2 (x3 + 1) q14 hq14 _ _ ls hP hS (lv_sub hl [1, 2, 3, 4, 5, 0] rfl) ?_
        intro y5 y6 y7 e9 H locs ls hP hS hl
        subst e9
        try dsimp only at h
        refine lv_iinc (v := (x3 + 1)) (lv' := [(4, .int (x3 + 1)), (0, .ref (adr G 30)), (1, .int a1), (2, .int y5), (3, .int y6), (5, .int y7)]) hx hb dX11_parallels_60 hl (k := 4) rfl rfl (by decide) rfl (fun ls hl => ?_)
        refine lv_goto (tgt := 7) hx hb dX11_parallels_63 (by decide) ?_
        exact ih y5 y6 (x3 + 1) _ h  _ _ ls hP hS (lv_sub hl [1, 2, 3, 4, 0] rfl) kk
  obtain ⟨q16, hq16, h⟩ := hy_bind h
  refine L15 hyFu 0 0 0 q16 hq16 _ _ ls hP hS (lv_sub hl [3, 4, 2, 1, 0] rfl) ?_
  intro y1 y2 y3 e9 H locs ls hP hS hl
  subst e9
  try dsimp only at h
  refine lv_iload_n hx hb dX11_parallels_66 rfl (lv_at hl 2 rfl) ?_
  exact hy_iret (T := (Mc, M, Mo)) hx hb hr hlocks hP hS (Nat.zero_le _) (Nat.zero_le _) (by rw [← (Option.some.inj h)] <;> rfl) dX11_parallels_67
set_option maxHeartbeats 1000000 in
set_option maxRecDepth 100000 in
theorem c_Rf_place {l : Launch} {G : hyG} (Mc Mo : hyM) (a1 : Int32) (M : hyM) {res : Int32} (h : Rf_place a1 M = some res) : hyC l yX11_place (.code yX11_place cX11_place 4 (some .int)) 0 0 (0) G [.ref (adr G 30), .int a1] (Mc, M, Mo) (.inr (some (.int res)), (Mc, M, Mo)) := by
  refine hy_of (by decide +kernel) (Nat.le_of_ble_eq_true rfl) ?_
  intro p e s m below meth c hx hb hml hown hts hr hlocks ht hX hP hS ls hl
  have hl : lv_has ls 4 [(0, .ref (adr G 30)), (1, .int a1)] := hl
  rw [Rf_place] at h
  refine lv_iconst (v := 0) hx hb dX11_place_0 rfl ?_
  refine lv_istore_n (lv' := [(2, .int 0), (0, .ref (adr G 30)), (1, .int a1)]) hx hb dX11_place_1 rfl hl (by decide) rfl (fun ls hl => ?_)
  refine lv_iconst (v := 0) hx hb dX11_place_2 rfl ?_
  refine lv_istore_n (lv' := [(3, .int 0), (2, .int 0), (0, .ref (adr G 30)), (1, .int a1)]) hx hb dX11_place_3 rfl hl (by decide) rfl (fun ls hl => ?_)
  have L5 : ∀ (f : Nat) (x1 : Int32) (x2 : Int32) (qL : (Int32 × Int32)) (h : Rf_place_L4 a1 M f x1 x2 = some qL) (H : Heap) (locs : List Loc) (ls : Array Slot) (hP : va_P G.1 vwCl (wld G (Mc, M, Mo)) H) (hS : va_S (hyA G) s.heap H locs) (hl : lv_has ls 4 [(0, .ref (adr G 30)), (1, .int a1), (2, .int x1), (3, .int x2)]) (kk : ∀ (y1 : Int32) (y2 : Int32), qL = (y1, y2) → ∀ (H : Heap) (locs : List Loc) (ls : Array Slot), va_P G.1 vwCl (wld G (Mc, M, Mo)) H → va_S (hyA G) s.heap H locs → lv_has ls 4 [(0, .ref (adr G 30)), (1, .int a1), (2, .int y1), (3, .int y2)] → W p l e { frames := 0, cells := 0, slots := 6 * 0, locals := 0 } s m ([.ref (adr G 30), .int a1] : List Value).toArray below meth c H locs 0 0 (vx_MQ below (hyQ G (.inr (some (.int res)), (Mc, M, Mo))) (hyXQ G (.inr (some (.int res)), (Mc, M, Mo))) ([.ref (adr G 30), .int a1] : List Value).toArray s 0 (6 * 0) (hyA G)) (F0 m 24 ls [])), W p l e { frames := 0, cells := 0, slots := 6 * 0, locals := 0 } s m ([.ref (adr G 30), .int a1] : List Value).toArray below meth c H locs 0 0 (vx_MQ below (hyQ G (.inr (some (.int res)), (Mc, M, Mo))) (hyXQ G (.inr (some (.int res)), (Mc, M, Mo))) ([.ref (adr G 30), .int a1] : List Value).toArray s 0 (6 * 0) (hyA G)) (F0 m 4 ls []) := by
    intro f
    induction f with
    | zero =>
      intro x1 x2 qL h H locs ls hP hS hl kk
      rw [Rf_place_L4] at h
      cases h
    | succ f ih =>
      intro x1 x2 qL h H locs ls hP hS hl kk
      rw [Rf_place_L4] at h
      refine lv_iload_n hx hb dX11_place_4 rfl (lv_at hl 3 rfl) ?_
      refine lv_iload_n hx hb dX11_place_5 rfl (lv_at hl 1 rfl) ?_
      refine lv_icmp_ge (tgt := 24) hx hb dX11_place_6 (by decide) (fun c3 => ?_) (fun c3 => ?_)
      · rw [if_pos c3] at h
        exact kk x1 x2 (Option.some.inj h).symm _ _ ls hP hS (lv_sub hl [0, 1, 2, 3] rfl)
      · rw [if_neg c3] at h
        refine lv_iload_n hx hb dX11_place_9 rfl (lv_at hl 2 rfl) ?_
        refine lv_aload_n hx hb dX11_place_10 rfl (lv_at hl 0 rfl) ?_
        refine hy_get (T := (Mc, M, Mo)) (o := 30) (k := 3) (v := .ref (adr G 31)) hx hb hown hts hX hP (by decide) rfl rfl inX11g (by decide) q_1195 rfl dX11_place_11 ?_
        refine lv_iload_n hx hb dX11_place_14 rfl (lv_at hl 3 rfl) ?_
        obtain ⟨v4, hv4, h⟩ := hy_bind h
        obtain ⟨nv4, hv4⟩ := ldE_some hv4
        refine hy_iald (T := (Mc, M, Mo)) hx hb hX hP 31 40 (M.1 31) (by decide) rfl nv4 dX11_place_15 ?_
        rw [hv4]
        refine lv_iadd hx hb dX11_place_16 ?_
        refine lv_istore_n (lv' := [(2, .int (x1 + v4)), (0, .ref (adr G 30)), (1, .int a1), (3, .int x2)]) hx hb dX11_place_17 rfl hl (by decide) rfl (fun ls hl => ?_)
        refine lv_iinc (v := (x2 + 1)) (lv' := [(3, .int (x2 + 1)), (2, .int (x1 + v4)), (0, .ref (adr G 30)), (1, .int a1)]) hx hb dX11_place_18 hl (k := 3) rfl rfl (by decide) rfl (fun ls hl => ?_)
        refine lv_goto (tgt := 4) hx hb dX11_place_21 (by decide) ?_
        exact ih (x1 + v4) (x2 + 1) _ h  _ _ ls hP hS (lv_sub hl [2, 3, 1, 0] rfl) kk
  obtain ⟨q6, hq6, h⟩ := hy_bind h
  refine L5 hyFu 0 0 q6 hq6 _ _ ls hP hS (lv_sub hl [2, 3, 1, 0] rfl) ?_
  intro y1 y2 e9 H locs ls hP hS hl
  subst e9
  try dsimp only at h
  refine lv_iload_n hx hb dX11_place_24 rfl (lv_at hl 2 rfl) ?_
  exact hy_iret (T := (Mc, M, Mo)) hx hb hr hlocks hP hS (Nat.zero_le _) (Nat.zero_le _) (by rw [← (Option.some.inj h)] <;> rfl) dX11_place_25
