set_option maxHeartbeats 1000000 in
set_option maxRecDepth 100000 in
theorem c_Rf_longest {l : Launch} {G : hyG} (Mc Mo : hyM) (a1 : Int32) (M : hyM) {res : Int32} (h : Rf_longest a1 M = some res) : hyC l yX11_longest (.code yX11_longest cX11_longest 5 (some .int)) 2 42 (0) G [.ref (adr G 30), .int a1] (Mc, M, Mo) (.inr (some (.int res)), (Mc, M, Mo)) := by
  refine hy_of (by decide +kernel) (Nat.le_of_ble_eq_true rfl) ?_
  intro p e s m below meth c hx hb hml hown hts hr hlocks ht hX hP hS ls hl
  have hl : lv_has ls 5 [(0, .ref (adr G 30)), (1, .int a1)] := hl
  rw [Rf_longest] at h
  refine lv_iconst (v := 0) hx hb dX11_longest_0 rfl ?_
  refine lv_istore_n (lv' := [(2, .int 0), (0, .ref (adr G 30)), (1, .int a1)]) hx hb dX11_longest_1 rfl hl (by decide) rfl (fun ls hl => ?_)
  refine lv_iconst (v := 0) hx hb dX11_longest_2 rfl ?_
  refine lv_istore_n (lv' := [(3, .int 0), (2, .int 0), (0, .ref (adr G 30)), (1, .int a1)]) hx hb dX11_longest_3 rfl hl (by decide) rfl (fun ls hl => ?_)
  refine lv_iconst (v := 0) hx hb dX11_longest_4 rfl ?_
  refine lv_istore (lv' := [(4, .int 0), (3, .int 0), (2, .int 0), (0, .ref (adr G 30)), (1, .int a1)]) hx hb dX11_longest_5 hl (by decide) rfl (fun ls hl => ?_)
  have L11 : ∀ (f : Nat) (x1 : Int32) (x2 : Int32) (x3 : Int32) (qL : (Int32 × Int32 × Int32)) (h : Rf_longest_L7 a1 M f x1 x2 x3 = some qL) (H : Heap) (locs : List Loc) (ls : Array Slot) (hP : va_P G.1 vwCl (wld G (Mc, M, Mo)) H) (hS : va_S (hyA G) s.heap H locs) (hl : lv_has ls 5 [(0, .ref (adr G 30)), (1, .int a1), (2, .int x1), (3, .int x2), (4, .int x3)]) (kk : ∀ (y1 : Int32) (y2 : Int32) (y3 : Int32), qL = (y1, y2, y3) → ∀ (H : Heap) (locs : List Loc) (ls : Array Slot), va_P G.1 vwCl (wld G (Mc, M, Mo)) H → va_S (hyA G) s.heap H locs → lv_has ls 5 [(0, .ref (adr G 30)), (1, .int a1), (2, .int y1), (3, .int y2), (4, .int y3)] → W p l e { frames := 2, cells := 0, slots := 6 * 0, locals := 42 } s m ([.ref (adr G 30), .int a1] : List Value).toArray below meth c H locs 0 0 (vx_MQ below (hyQ G (.inr (some (.int res)), (Mc, M, Mo))) (hyXQ G (.inr (some (.int res)), (Mc, M, Mo))) ([.ref (adr G 30), .int a1] : List Value).toArray s 0 (6 * 0) (hyA G)) (F0 m 56 ls [])), W p l e { frames := 2, cells := 0, slots := 6 * 0, locals := 42 } s m ([.ref (adr G 30), .int a1] : List Value).toArray below meth c H locs 0 0 (vx_MQ below (hyQ G (.inr (some (.int res)), (Mc, M, Mo))) (hyXQ G (.inr (some (.int res)), (Mc, M, Mo))) ([.ref (adr G 30), .int a1] : List Value).toArray s 0 (6 * 0) (hyA G)) (F0 m 7 ls []) := by
    intro f
    induction f with
    | zero =>
      intro x1 x2 x3 qL h H locs ls hP hS hl kk
      rw [Rf_longest_L7] at h
      cases h
    | succ f ih =>
      intro x1 x2 x3 qL h H locs ls hP hS hl kk
      rw [Rf_longest_L7] at h
      refine lv_iload hx hb dX11_longest_7 (lv_at hl 4 rfl) ?_
      refine lv_aload_n hx hb dX11_longest_9 rfl (lv_at hl 0 rfl) ?_
      refine hy_get (T := (Mc, M, Mo)) (o := 30) (k := 14) (v := .ref (adr G 38)) hx hb hown hts hX hP (by decide) rfl rfl inX11g (by decide) q_1206 rfl dX11_longest_10 ?_
      refine lv_iload_n hx hb dX11_longest_13 rfl (lv_at hl 1 rfl) ?_
      obtain ⟨v4, hv4, h⟩ := hy_bind h
      obtain ⟨nv4, hv4⟩ := ldE_some hv4
      refine hy_iald (T := (Mc, M, Mo)) hx hb hX hP 38 96 (M.1 38) (by decide) rfl nv4 dX11_longest_14 ?_
      rw [hv4]
      refine lv_icmp_ge (tgt := 56) hx hb dX11_longest_15 (by decide) (fun c5 => ?_) (fun c5 => ?_)
      · rw [if_pos c5] at h
        exact kk x1 x2 x3 (Option.some.inj h).symm _ _ ls hP hS (lv_sub hl [0, 1, 2, 3, 4] rfl)
      · rw [if_neg c5] at h
        refine lv_aload_n hx hb dX11_longest_18 rfl (lv_at hl 0 rfl) ?_
        refine lv_iload_n hx hb dX11_longest_19 rfl (lv_at hl 1 rfl) ?_
        refine lv_iload hx hb dX11_longest_20 (lv_at hl 4 rfl) ?_
        obtain ⟨v6, hv6, h⟩ := hy_bind h
        refine hy_ret (hy_rV0 (T := (Mc, M, Mo)) (v := some (.int v6)) (T2 := (Mc, M, Mo)) (As := [.int a1, .int x3]) (rest := []) (n := 0) hx hb hml hown hts hX hP hS hl (c_Rf_sign Mc Mo a1 x3 M hv6) m_Rf_sign q_1404 (hy_recv hX hP 30 10 (by decide) rfl rfl) rfl rfl (Nat.le_of_ble_eq_true rfl) dX11_longest_22 ⟨Nat.le_of_ble_eq_true rfl, Nat.le_of_ble_eq_true rfl⟩ ⟨Nat.zero_le _, Nat.zero_le _⟩) hS (fun H locs hP hS => ?_)
        refine hy_ret (hy_rS0 (T := (Mc, M, Mo)) (v := some (.int (bI (Rf_isLetter v6 M)))) (T2 := (Mc, M, Mo)) (As := [.int v6]) (rest := []) (n := 0) hx hb hml hown hts hX hP hS hl (c_Rf_isLetter Mc Mo v6 M rfl) m_Rf_isLetter q_1416 rfl rfl (Nat.le_of_ble_eq_true rfl) dX11_longest_25 ⟨Nat.le_of_ble_eq_true rfl, Nat.le_of_ble_eq_true rfl⟩ ⟨Nat.zero_le _, Nat.zero_le _⟩) hS (fun H locs hP hS => ?_)
        have J10 : ∀ (H : Heap) (locs : List Loc) (ls : Array Slot) (u1 : Int32), u1 = (if (Rf_isLetter v6 M) then (x2 + 1) else 0) → va_P G.1 vwCl (wld G (Mc, M, Mo)) H → va_S (hyA G) s.heap H locs → lv_has ls 5 [(0, .ref (adr G 30)), (1, .int a1), (2, .int x1), (3, .int x2), (4, .int x3)] → W p l e { frames := 2, cells := 0, slots := 6 * 0, locals := 42 } s m ([.ref (adr G 30), .int a1] : List Value).toArray below meth c H locs 0 0 (vx_MQ below (hyQ G (.inr (some (.int res)), (Mc, M, Mo))) (hyXQ G (.inr (some (.int res)), (Mc, M, Mo))) ([.ref (adr G 30), .int a1] : List Value).toArray s 0 (6 * 0) (hyA G)) (F0 m 38 ls [.int u1]) := by
          intro H locs ls u1 eu1 hP hS hl
          subst eu1
          refine lv_istore_n (lv' := [(3, .int (if (Rf_isLetter v6 M) then (x2 + 1) else 0)), (0, .ref (adr G 30)), (1, .int a1), (2, .int x1), (4, .int x3)]) hx hb dX11_longest_38 rfl hl (by decide) rfl (fun ls hl => ?_)
          refine lv_iload_n hx hb dX11_longest_39 rfl (lv_at hl 0 rfl) ?_
          refine lv_iload_n hx hb dX11_longest_40 rfl (lv_at hl 3 rfl) ?_
          have J9 : ∀ (H : Heap) (locs : List Loc) (ls : Array Slot) (u1 : Int32), u1 = (if (if (Rf_isLetter v6 M) then (x2 + 1) else 0) ≤ x1 then x1 else (if (Rf_isLetter v6 M) then (x2 + 1) else 0)) → va_P G.1 vwCl (wld G (Mc, M, Mo)) H → va_S (hyA G) s.heap H locs → lv_has ls 5 [(0, .ref (adr G 30)), (1, .int a1), (2, .int x1), (3, .int (if (Rf_isLetter v6 M) then (x2 + 1) else 0)), (4, .int x3)] → W p l e { frames := 2, cells := 0, slots := 6 * 0, locals := 42 } s m ([.ref (adr G 30), .int a1] : List Value).toArray below meth c H locs 0 0 (vx_MQ below (hyQ G (.inr (some (.int res)), (Mc, M, Mo))) (hyXQ G (.inr (some (.int res)), (Mc, M, Mo))) ([.ref (adr G 30), .int a1] : List Value).toArray s 0 (6 * 0) (hyA G)) (F0 m 49 ls [.int u1]) := by
            intro H locs ls u1 eu1 hP hS hl
            subst eu1
            refine lv_istore_n (lv' := [(2, .int (if (if (Rf_isLetter v6 M) then (x2 + 1) else 0) ≤ x1 then x1 else (if (Rf_isLetter v6 M) then (x2 + 1) else 0))), (0, .ref (adr G 30)), (1, .int a1), (3, .int (if (Rf_isLetter v6 M) then (x2 + 1) else 0)), (4, .int x3)]) hx hb dX11_longest_49 rfl hl (by decide) rfl (fun ls hl => ?_)
            refine lv_iinc (v := (x3 + 1)) (lv' := [(4, .int (x3 + 1)), (2, .int (if (if (Rf_isLetter v6 M) then (x2 + 1) else 0) ≤ x1 then x1 else (if (Rf_isLetter v6 M) then (x2 + 1) else 0))), (0, .ref (adr G 30)), (1, .int a1), (3, .int (if (Rf_isLetter v6 M) then (x2 + 1) else 0))]) hx hb dX11_longest_50 hl (k := 4) rfl rfl (by decide) rfl (fun ls hl => ?_)
            refine lv_goto (tgt := 7) hx hb dX11_longest_53 (by decide) ?_
            exact ih (if (if (Rf_isLetter v6 M) then (x2 + 1) else 0) ≤ x1 then x1 else (if (Rf_isLetter v6 M) then (x2 + 1) else 0)) (if (Rf_isLetter v6 M) then (x2 + 1) else 0) (x3 + 1) _ h  _ _ ls hP hS (lv_sub hl [2, 3, 1, 4, 0] rfl) kk
          refine lv_icmp_le (tgt := 48) hx hb dX11_longest_41 (by decide) (fun c8 => ?_) (fun c8 => ?_)
          · refine lv_iload_n hx hb dX11_longest_48 rfl (lv_at hl 3 rfl) ?_
            exact J9 _ _ ls x1 (by rw [if_pos c8] <;> rfl) hP hS (lv_sub hl [1, 2, 3, 0, 4] rfl)
          · refine lv_iload_n hx hb dX11_longest_44 rfl (lv_at hl 0 rfl) ?_
            refine lv_goto (tgt := 49) hx hb dX11_longest_45 (by decide) ?_
            exact J9 _ _ ls (if (Rf_isLetter v6 M) then (x2 + 1) else 0) (by rw [if_neg c8] <;> rfl) hP hS (lv_sub hl [1, 2, 3, 0, 4] rfl)
        refine lv_if_eq (tgt := 37) hx hb dX11_longest_28 (by decide) (fun c7 => ?_) (fun c7 => ?_)
        · refine lv_iconst (v := 0) hx hb dX11_longest_37 rfl ?_
          exact J10 _ _ ls 0 (by rw [if_neg (bI_0 c7)] <;> rfl) hP hS (lv_sub hl [0, 1, 2, 3, 4] rfl)
        · refine lv_iload_n hx hb dX11_longest_31 rfl (lv_at hl 3 rfl) ?_
          refine lv_iconst (v := 1) hx hb dX11_longest_32 rfl ?_
          refine lv_iadd hx hb dX11_longest_33 ?_
          refine lv_goto (tgt := 38) hx hb dX11_longest_34 (by decide) ?_
          exact J10 _ _ ls (x2 + 1) (by rw [if_pos (bI_1 c7)] <;> rfl) hP hS (lv_sub hl [0, 1, 2, 3, 4] rfl)
  obtain ⟨q12, hq12, h⟩ := hy_bind h
  refine L11 hyFu 0 0 0 q12 hq12 _ _ ls hP hS (lv_sub hl [3, 4, 2, 1, 0] rfl) ?_
  intro y1 y2 y3 e9 H locs ls hP hS hl
  subst e9
  try dsimp only at h
  refine lv_iload_n hx hb dX11_longest_56 rfl (lv_at hl 2 rfl) ?_
  exact hy_iret (T := (Mc, M, Mo)) hx hb hr hlocks hP hS (Nat.zero_le _) (Nat.zero_le _) (by rw [← (Option.some.inj h)] <;> rfl) dX11_longest_57
set_option maxHeartbeats 1000000 in
set_option maxRecDepth 100000 in
theorem c_Rf_fitNow {l : Launch} {G : hyG} (Mc Mo : hyM) (a1 : Int32) (M : hyM) {res : Int32} (h : Rf_fitNow a1 M = some res) : hyC l yX11_fitNow (.code yX11_fitNow cX11_fitNow 6 (some .int)) 2 47 (0) G [.ref (adr G 30), .int a1] (Mc, M, Mo) (.inr (some (.int res)), (Mc, M, Mo)) := by
  refine hy_of (by decide +kernel) (Nat.le_of_ble_eq_true rfl) ?_
  intro p e s m below meth c hx hb hml hown hts hr hlocks ht hX hP hS ls hl
  have hl : lv_has ls 6 [(0, .ref (adr G 30)), (1, .int a1)] := hl
  rw [Rf_fitNow] at h
  refine lv_iconst (v := (-1)) hx hb dX11_fitNow_0 rfl ?_
  refine lv_istore_n (lv' := [(2, .int (-1)), (0, .ref (adr G 30)), (1, .int a1)]) hx hb dX11_fitNow_1 rfl hl (by decide) rfl (fun ls hl => ?_)
  refine lv_iconst (v := 0) hx hb dX11_fitNow_2 rfl ?_
  refine lv_istore_n (lv' := [(3, .int 0), (2, .int (-1)), (0, .ref (adr G 30)), (1, .int a1)]) hx hb dX11_fitNow_3 rfl hl (by decide) rfl (fun ls hl => ?_)
  have L24 : ∀ (f : Nat) (x1 : Int32) (x2 : Int32) (qL : (Int32 × Int32)) (h : Rf_fitNow_L4 a1 M f x1 x2 = some qL) (H : Heap) (locs : List Loc) (ls : Array Slot) (hP : va_P G.1 vwCl (wld G (Mc, M, Mo)) H) (hS : va_S (hyA G) s.heap H locs) (hl : lv_has ls 6 [(0, .ref (adr G 30)), (1, .int a1), (2, .int x1), (3, .int x2)]) (kk : ∀ (y1 : Int32) (y2 : Int32), qL = (y1, y2) → ∀ (H : Heap) (locs : List Loc) (ls : Array Slot), va_P G.1 vwCl (wld G (Mc, M, Mo)) H → va_S (hyA G) s.heap H locs → lv_has ls 6 [(0, .ref (adr G 30)), (1, .int a1), (2, .int y1), (3, .int y2)] → W p l e { frames := 2, cells := 0, slots := 6 * 0, locals := 47 } s m ([.ref (adr G 30), .int a1] : List Value).toArray below meth c H locs 0 0 (vx_MQ below (hyQ G (.inr (some (.int res)), (Mc, M, Mo))) (hyXQ G (.inr (some (.int res)), (Mc, M, Mo))) ([.ref (adr G 30), .int a1] : List Value).toArray s 0 (6 * 0) (hyA G)) (F0 m 103 ls [])), W p l e { frames := 2, cells := 0, slots := 6 * 0, locals := 47 } s m ([.ref (adr G 30), .int a1] : List Value).toArray below meth c H locs 0 0 (vx_MQ below (hyQ G (.inr (some (.int res)), (Mc, M, Mo))) (hyXQ G (.inr (some (.int res)), (Mc, M, Mo))) ([.ref (adr G 30), .int a1] : List Value).toArray s 0 (6 * 0) (hyA G)) (F0 m 4 ls []) := by
    intro f
    induction f with
    | zero =>
      intro x1 x2 qL h H locs ls hP hS hl kk
      rw [Rf_fitNow_L4] at h
      cases h
    | succ f ih =>
      intro x1 x2 qL h H locs ls hP hS hl kk
      rw [Rf_fitNow_L4] at h
      refine lv_iload_n hx hb dX11_fitNow_4 rfl (lv_at hl 3 rfl) ?_
      refine lv_bipush (v := 24) hx hb dX11_fitNow_5 rfl ?_
      have K22 : ∀ (H : Heap) (locs : List Loc), (if 24 ≤ x2 then false else (decide (x1 = (-1)))) = true → va_P G.1 vwCl (wld G (Mc, M, Mo)) H → va_S (hyA G) s.heap H locs → W p l e { frames := 2, cells := 0, slots := 6 * 0, locals := 47 } s m ([.ref (adr G 30), .int a1] : List Value).toArray below meth c H locs 0 0 (vx_MQ below (hyQ G (.inr (some (.int res)), (Mc, M, Mo))) (hyXQ G (.inr (some (.int res)), (Mc, M, Mo))) ([.ref (adr G 30), .int a1] : List Value).toArray s 0 (6 * 0) (hyA G)) (F0 m 15 ls []) := by
        intro H locs cb hP hS
        rw [if_pos cb] at h
        refine lv_bipush (v := 24) hx hb dX11_fitNow_15 rfl ?_
        refine lv_iload_n hx hb dX11_fitNow_17 rfl (lv_at hl 1 rfl) ?_
        refine lv_imul hx hb dX11_fitNow_18 ?_
        refine lv_iload_n hx hb dX11_fitNow_19 rfl (lv_at hl 3 rfl) ?_
        refine lv_iadd hx hb dX11_fitNow_20 ?_
        refine lv_istore (lv' := [(4, .int ((24 * a1) + x2)), (0, .ref (adr G 30)), (1, .int a1), (2, .int x1), (3, .int x2)]) hx hb dX11_fitNow_21 hl (by decide) rfl (fun ls hl => ?_)
        refine lv_iload_n hx hb dX11_fitNow_23 rfl (lv_at hl 4 rfl) ?_
        refine lv_aload_n hx hb dX11_fitNow_24 rfl (lv_at hl 1 rfl) ?_
        refine hy_get (T := (Mc, M, Mo)) (o := 30) (k := 25) (v := .int (M.1 30 25)) hx hb hown hts hX hP (by decide) rfl rfl inX11g (by decide) q_1217 rfl dX11_fitNow_25 ?_
        refine lv_icmp_ge (tgt := 69) hx hb dX11_fitNow_28 (by decide) (fun c5 => ?_) (fun c5 => ?_)
        · rw [if_pos c5] at h
          refine lv_aload_n hx hb dX11_fitNow_69 rfl (lv_at hl 1 rfl) ?_
          refine hy_get (T := (Mc, M, Mo)) (o := 30) (k := 14) (v := .ref (adr G 38)) hx hb hown hts hX hP (by decide) rfl rfl inX11g (by decide) q_1206 rfl dX11_fitNow_70 ?_
          refine lv_iload hx hb dX11_fitNow_73 (lv_at hl 0 rfl) ?_
          obtain ⟨v6, hv6, h⟩ := hy_bind h
          obtain ⟨nv6, hv6⟩ := ldE_some hv6
          refine hy_iald (T := (Mc, M, Mo)) hx hb hX hP 38 96 (M.1 38) (by decide) rfl nv6 dX11_fitNow_75 ?_
          rw [hv6]
          have J10 : ∀ (H : Heap) (locs : List Loc) (ls : Array Slot) (u1 : Int32), u1 = (bI (decide (v6 = 0))) → va_P G.1 vwCl (wld G (Mc, M, Mo)) H → va_S (hyA G) s.heap H locs → lv_has ls 6 [(0, .ref (adr G 30)), (1, .int a1), (2, .int x1), (3, .int x2), (4, .int ((24 * a1) + x2))] → W p l e { frames := 2, cells := 0, slots := 6 * 0, locals := 47 } s m ([.ref (adr G 30), .int a1] : List Value).toArray below meth c H locs 0 0 (vx_MQ below (hyQ G (.inr (some (.int res)), (Mc, M, Mo))) (hyXQ G (.inr (some (.int res)), (Mc, M, Mo))) ([.ref (adr G 30), .int a1] : List Value).toArray s 0 (6 * 0) (hyA G)) (F0 m 84 ls [.int u1]) := by
            intro H locs ls u1 eu1 hP hS hl
            subst eu1
            refine lv_istore (lv' := [(5, .int (bI (decide (v6 = 0)))), (0, .ref (adr G 30)), (1, .int a1), (2, .int x1), (3, .int x2), (4, .int ((24 * a1) + x2))]) hx hb dX11_fitNow_84 hl (by decide) rfl (fun ls hl => ?_)
            refine lv_iload hx hb dX11_fitNow_86 (lv_at hl 0 rfl) ?_
            have J9 : ∀ (H : Heap) (locs : List Loc) (ls : Array Slot) (u1 : Int32), u1 = (if (decide (v6 = 0)) then (-1) else x2) → va_P G.1 vwCl (wld G (Mc, M, Mo)) H → va_S (hyA G) s.heap H locs → lv_has ls 6 [(0, .ref (adr G 30)), (1, .int a1), (2, .int x1), (3, .int x2), (4, .int ((24 * a1) + x2)), (5, .int (bI (decide (v6 = 0))))] → W p l e { frames := 2, cells := 0, slots := 6 * 0, locals := 47 } s m ([.ref (adr G 30), .int a1] : List Value).toArray below meth c H locs 0 0 (vx_MQ below (hyQ G (.inr (some (.int res)), (Mc, M, Mo))) (hyXQ G (.inr (some (.int res)), (Mc, M, Mo))) ([.ref (adr G 30), .int a1] : List Value).toArray s 0 (6 * 0) (hyA G)) (F0 m 96 ls [.int u1]) := by
              intro H locs ls u1 eu1 hP hS hl
              subst eu1
              refine lv_istore_n (lv' := [(2, .int (if (decide (v6 = 0)) then (-1) else x2)), (0, .ref (adr G 30)), (1, .int a1), (3, .int x2), (4, .int ((24 * a1) + x2)), (5, .int (bI (decide (v6 = 0))))]) hx hb dX11_fitNow_96 rfl hl (by decide) rfl (fun ls hl => ?_)
              refine lv_iinc (v := (x2 + 1)) (lv' := [(3, .int (x2 + 1)), (2, .int (if (decide (v6 = 0)) then (-1) else x2)), (0, .ref (adr G 30)), (1, .int a1), (4, .int ((24 * a1) + x2)), (5, .int (bI (decide (v6 = 0))))]) hx hb dX11_fitNow_97 hl (k := 3) rfl rfl (by decide) rfl (fun ls hl => ?_)
              refine lv_goto (tgt := 4) hx hb dX11_fitNow_100 (by decide) ?_
              exact ih (if (decide (v6 = 0)) then (-1) else x2) (x2 + 1) _ h  _ _ ls hP hS (lv_sub hl [2, 3, 1, 0] rfl) kk
            refine lv_if_eq (tgt := 95) hx hb dX11_fitNow_88 (by decide) (fun c8 => ?_) (fun c8 => ?_)
            · refine lv_iload_n hx hb dX11_fitNow_95 rfl (lv_at hl 4 rfl) ?_
              exact J9 _ _ ls x2 (by rw [if_neg (bI_0 c8)] <;> rfl) hP hS (lv_sub hl [1, 2, 3, 4, 5, 0] rfl)
            · refine lv_iconst (v := (-1)) hx hb dX11_fitNow_91 rfl ?_
              refine lv_goto (tgt := 96) hx hb dX11_fitNow_92 (by decide) ?_
              exact J9 _ _ ls (-1) (by rw [if_pos (bI_1 c8)] <;> rfl) hP hS (lv_sub hl [1, 2, 3, 4, 5, 0] rfl)
          refine lv_if_ne (tgt := 83) hx hb dX11_fitNow_76 (by decide) (fun c7 => ?_) (fun c7 => ?_)
          · refine lv_iconst (v := 0) hx hb dX11_fitNow_83 rfl ?_
            exact J10 _ _ ls 0 (by rw [decide_eq_false c7] <;> rfl) hP hS (lv_sub hl [1, 2, 3, 4, 0] rfl)
          · refine lv_iconst (v := 1) hx hb dX11_fitNow_79 rfl ?_
            refine lv_goto (tgt := 84) hx hb dX11_fitNow_80 (by decide) ?_
            exact J10 _ _ ls 1 (by rw [decide_eq_true c7] <;> rfl) hP hS (lv_sub hl [1, 2, 3, 4, 0] rfl)
        · rw [if_neg c5] at h
          refine lv_aload_n hx hb dX11_fitNow_31 rfl (lv_at hl 1 rfl) ?_
          refine hy_get (T := (Mc, M, Mo)) (o := 30) (k := 14) (v := .ref (adr G 38)) hx hb hown hts hX hP (by decide) rfl rfl inX11g (by decide) q_1206 rfl dX11_fitNow_32 ?_
          refine lv_iload hx hb dX11_fitNow_35 (lv_at hl 0 rfl) ?_
          obtain ⟨v11, hv11, h⟩ := hy_bind h
          obtain ⟨nv11, hv11⟩ := ldE_some hv11
          refine hy_iald (T := (Mc, M, Mo)) hx hb hX hP 38 96 (M.1 38) (by decide) rfl nv11 dX11_fitNow_37 ?_
          rw [hv11]
          refine lv_if_le (tgt := 65) hx hb dX11_fitNow_38 (by decide) (fun c12 => ?_) (fun c12 => ?_)
          · rw [if_pos c12] at h
            refine lv_iconst (v := 0) hx hb dX11_fitNow_65 rfl ?_
            refine lv_goto (tgt := 84) hx hb dX11_fitNow_66 (by decide) ?_
            refine lv_istore (lv' := [(5, .int 0), (4, .int ((24 * a1) + x2)), (0, .ref (adr G 30)), (1, .int a1), (2, .int x1), (3, .int x2)]) hx hb dX11_fitNow_84 hl (by decide) rfl (fun ls hl => ?_)
            refine lv_iload hx hb dX11_fitNow_86 (lv_at hl 0 rfl) ?_
            refine lv_if_eq (tgt := 95) hx hb dX11_fitNow_88 (by decide) (fun c14 => ?_) (fun c14 => by first | exact absurd (by decide) c14 | exact absurd c14 (by decide))
            refine lv_iload_n hx hb dX11_fitNow_95 rfl (lv_at hl 5 rfl) ?_
            refine lv_istore_n (lv' := [(2, .int x2), (5, .int 0), (4, .int ((24 * a1) + x2)), (0, .ref (adr G 30)), (1, .int a1), (3, .int x2)]) hx hb dX11_fitNow_96 rfl hl (by decide) rfl (fun ls hl => ?_)
            refine lv_iinc (v := (x2 + 1)) (lv' := [(3, .int (x2 + 1)), (2, .int x2), (5, .int 0), (4, .int ((24 * a1) + x2)), (0, .ref (adr G 30)), (1, .int a1)]) hx hb dX11_fitNow_97 hl (k := 5) rfl rfl (by decide) rfl (fun ls hl => ?_)
            refine lv_goto (tgt := 4) hx hb dX11_fitNow_100 (by decide) ?_
            exact ih x2 (x2 + 1) _ h  _ _ ls hP hS (lv_sub hl [4, 5, 1, 0] rfl) kk
          · rw [if_neg c12] at h
            refine lv_aload_n hx hb dX11_fitNow_41 rfl (lv_at hl 1 rfl) ?_
            refine lv_iload hx hb dX11_fitNow_42 (lv_at hl 0 rfl) ?_
            refine lv_iconst (v := 0) hx hb dX11_fitNow_44 rfl ?_
            obtain ⟨v15, hv15, h⟩ := hy_bind h
            refine hy_ret (hy_rV0 (T := (Mc, M, Mo)) (v := some (.int v15)) (T2 := (Mc, M, Mo)) (As := [.int ((24 * a1) + x2), .int 0]) (rest := []) (n := 0) hx hb hml hown hts hX hP hS hl (c_Rf_counts Mc Mo ((24 * a1) + x2) 0 M hv15) m_Rf_counts q_1400 (hy_recv hX hP 30 10 (by decide) rfl rfl) rfl rfl (Nat.le_of_ble_eq_true rfl) dX11_fitNow_45 ⟨Nat.le_of_ble_eq_true rfl, Nat.le_of_ble_eq_true rfl⟩ ⟨Nat.zero_le _, Nat.zero_le _⟩) hS (fun H locs hP hS => ?_)
            refine lv_aload_n hx hb dX11_fitNow_48 rfl (lv_at hl 1 rfl) ?_
            refine lv_aload_n hx hb dX11_fitNow_49 rfl (lv_at hl 1 rfl) ?_
            refine hy_get (T := (Mc, M, Mo)) (o := 30) (k := 26) (v := .ref (adr G 46)) hx hb hown hts hX hP (by decide) rfl rfl inX11g (by decide) q_1218 rfl dX11_fitNow_50 ?_
            refine lv_iload_n hx hb dX11_fitNow_53 rfl (lv_at hl 4 rfl) ?_
            obtain ⟨v16, hv16, h⟩ := hy_bind h
            obtain ⟨nv16, hv16⟩ := ldE_some hv16
            refine hy_iald (T := (Mc, M, Mo)) hx hb hX hP 46 80 (M.1 46) (by decide) rfl nv16 dX11_fitNow_54 ?_
            rw [hv16]
            obtain ⟨v17, hv17, h⟩ := hy_bind h
            refine hy_ret (hy_rV0 (T := (Mc, M, Mo)) (v := some (.int v17)) (T2 := (Mc, M, Mo)) (As := [.int v16]) (rest := [.int v15]) (n := 0) hx hb hml hown hts hX hP hS hl (c_Rf_syllablesOf Mc Mo v16 M hv17) m_Rf_syllablesOf q_1561 (hy_recv hX hP 30 10 (by decide) rfl rfl) rfl rfl (Nat.le_of_ble_eq_true rfl) dX11_fitNow_55 ⟨Nat.le_of_ble_eq_true rfl, Nat.le_of_ble_eq_true rfl⟩ ⟨Nat.zero_le _, Nat.zero_le _⟩) hS (fun H locs hP hS => ?_)
            have J21 : ∀ (H : Heap) (locs : List Loc) (ls : Array Slot) (u1 : Int32), u1 = (bI (decide (v15 = v17))) → va_P G.1 vwCl (wld G (Mc, M, Mo)) H → va_S (hyA G) s.heap H locs → lv_has ls 6 [(0, .ref (adr G 30)), (1, .int a1), (2, .int x1), (3, .int x2), (4, .int ((24 * a1) + x2))] → W p l e { frames := 2, cells := 0, slots := 6 * 0, locals := 47 } s m ([.ref (adr G 30), .int a1] : List Value).toArray below meth c H locs 0 0 (vx_MQ below (hyQ G (.inr (some (.int res)), (Mc, M, Mo))) (hyXQ G (.inr (some (.int res)), (Mc, M, Mo))) ([.ref (adr G 30), .int a1] : List Value).toArray s 0 (6 * 0) (hyA G)) (F0 m 84 ls [.int u1]) := by
              intro H locs ls u1 eu1 hP hS hl
              subst eu1
              refine lv_istore (lv' := [(5, .int (bI (decide (v15 = v17)))), (0, .ref (adr G 30)), (1, .int a1), (2, .int x1), (3, .int x2), (4, .int ((24 * a1) + x2))]) hx hb dX11_fitNow_84 hl (by decide) rfl (fun ls hl => ?_)
              refine lv_iload hx hb dX11_fitNow_86 (lv_at hl 0 rfl) ?_
              have J20 : ∀ (H : Heap) (locs : List Loc) (ls : Array Slot) (u1 : Int32), u1 = (if (decide (v15 = v17)) then (-1) else x2) → va_P G.1 vwCl (wld G (Mc, M, Mo)) H → va_S (hyA G) s.heap H locs → lv_has ls 6 [(0, .ref (adr G 30)), (1, .int a1), (2, .int x1), (3, .int x2), (4, .int ((24 * a1) + x2)), (5, .int (bI (decide (v15 = v17))))] → W p l e { frames := 2, cells := 0, slots := 6 * 0, locals := 47 } s m ([.ref (adr G 30), .int a1] : List Value).toArray below meth c H locs 0 0 (vx_MQ below (hyQ G (.inr (some (.int res)), (Mc, M, Mo))) (hyXQ G (.inr (some (.int res)), (Mc, M, Mo))) ([.ref (adr G 30), .int a1] : List Value).toArray s 0 (6 * 0) (hyA G)) (F0 m 96 ls [.int u1]) := by
                intro H locs ls u1 eu1 hP hS hl
                subst eu1
                refine lv_istore_n (lv' := [(2, .int (if (decide (v15 = v17)) then (-1) else x2)), (0, .ref (adr G 30)), (1, .int a1), (3, .int x2), (4, .int ((24 * a1) + x2)), (5, .int (bI (decide (v15 = v17))))]) hx hb dX11_fitNow_96 rfl hl (by decide) rfl (fun ls hl => ?_)
                refine lv_iinc (v := (x2 + 1)) (lv' := [(3, .int (x2 + 1)), (2, .int (if (decide (v15 = v17)) then (-1) else x2)), (0, .ref (adr G 30)), (1, .int a1), (4, .int ((24 * a1) + x2)), (5, .int (bI (decide (v15 = v17))))]) hx hb dX11_fitNow_97 hl (k := 3) rfl rfl (by decide) rfl (fun ls hl => ?_)
                refine lv_goto (tgt := 4) hx hb dX11_fitNow_100 (by decide) ?_
                exact ih (if (decide (v15 = v17)) then (-1) else x2) (x2 + 1) _ h  _ _ ls hP hS (lv_sub hl [2, 3, 1, 0] rfl) kk
              refine lv_if_eq (tgt := 95) hx hb dX11_fitNow_88 (by decide) (fun c19 => ?_) (fun c19 => ?_)
              · refine lv_iload_n hx hb dX11_fitNow_95 rfl (lv_at hl 4 rfl) ?_
                exact J20 _ _ ls x2 (by rw [if_neg (bI_0 c19)] <;> rfl) hP hS (lv_sub hl [1, 2, 3, 4, 5, 0] rfl)
              · refine lv_iconst (v := (-1)) hx hb dX11_fitNow_91 rfl ?_
                refine lv_goto (tgt := 96) hx hb dX11_fitNow_92 (by decide) ?_
                exact J20 _ _ ls (-1) (by rw [if_pos (bI_1 c19)] <;> rfl) hP hS (lv_sub hl [1, 2, 3, 4, 5, 0] rfl)
            refine lv_icmp_ne (tgt := 65) hx hb dX11_fitNow_58 (by decide) (fun c18 => ?_) (fun c18 => ?_)
            · refine lv_iconst (v := 0) hx hb dX11_fitNow_65 rfl ?_
              refine lv_goto (tgt := 84) hx hb dX11_fitNow_66 (by decide) ?_
              exact J21 _ _ ls 0 (by rw [decide_eq_false c18] <;> rfl) hP hS (lv_sub hl [1, 2, 3, 4, 0] rfl)
            · refine lv_iconst (v := 1) hx hb dX11_fitNow_61 rfl ?_
              refine lv_goto (tgt := 84) hx hb dX11_fitNow_62 (by decide) ?_
              exact J21 _ _ ls 1 (by rw [decide_eq_true c18] <;> rfl) hP hS (lv_sub hl [1, 2, 3, 4, 0] rfl)
      have K23 : ∀ (H : Heap) (locs : List Loc), ¬ (if 24 ≤ x2 then false else (decide (x1 = (-1)))) = true → va_P G.1 vwCl (wld G (Mc, M, Mo)) H → va_S (hyA G) s.heap H locs → W p l e { frames := 2, cells := 0, slots := 6 * 0, locals := 47 } s m ([.ref (adr G 30), .int a1] : List Value).toArray below meth c H locs 0 0 (vx_MQ below (hyQ G (.inr (some (.int res)), (Mc, M, Mo))) (hyXQ G (.inr (some (.int res)), (Mc, M, Mo))) ([.ref (adr G 30), .int a1] : List Value).toArray s 0 (6 * 0) (hyA G)) (F0 m 103 ls []) := by
        intro H locs cb hP hS
        rw [if_neg cb] at h
        exact kk x1 x2 (Option.some.inj h).symm _ _ ls hP hS (lv_sub hl [0, 1, 2, 3] rfl)
      refine lv_icmp_ge (tgt := 103) hx hb dX11_fitNow_7 (by decide) (fun c3 => ?_) (fun c3 => ?_)
      · exact K23 _ _ (by rw [if_pos c3] <;> first | rfl | decide) hP hS
      · refine lv_iload_n hx hb dX11_fitNow_10 rfl (lv_at hl 2 rfl) ?_
        refine lv_iconst (v := (-1)) hx hb dX11_fitNow_11 rfl ?_
        refine lv_icmp_ne (tgt := 103) hx hb dX11_fitNow_12 (by decide) (fun c4 => ?_) (fun c4 => ?_)
        · exact K23 _ _ (by rw [if_neg c3, decide_eq_false c4] <;> first | rfl | decide) hP hS
        · exact K22 _ _ (by rw [if_neg c3, decide_eq_true c4] <;> first | rfl | decide) hP hS
  obtain ⟨q28, hq28, h⟩ := hy_bind h
  refine L24 hyFu (-1) 0 q28 hq28 _ _ ls hP hS (lv_sub hl [2, 3, 1, 0] rfl) ?_
  intro y1 y2 e9 H locs ls hP hS hl
  subst e9
  try dsimp only at h
  refine lv_iload_n hx hb dX11_fitNow_103 rfl (lv_at hl 2 rfl) ?_
  refine lv_iconst (v := (-1)) hx hb dX11_fitNow_104 rfl ?_
  have J27 : ∀ (H : Heap) (locs : List Loc) (ls : Array Slot) (u1 : Int32), u1 = (if y1 = (-1) then (if (M.1 30 25) ≤ 24 then y1 else 24) else y1) → va_P G.1 vwCl (wld G (Mc, M, Mo)) H → va_S (hyA G) s.heap H locs → lv_has ls 6 [(0, .ref (adr G 30)), (1, .int a1), (2, .int y1), (3, .int y2)] → W p l e { frames := 2, cells := 0, slots := 6 * 0, locals := 47 } s m ([.ref (adr G 30), .int a1] : List Value).toArray below meth c H locs 0 0 (vx_MQ below (hyQ G (.inr (some (.int res)), (Mc, M, Mo))) (hyXQ G (.inr (some (.int res)), (Mc, M, Mo))) ([.ref (adr G 30), .int a1] : List Value).toArray s 0 (6 * 0) (hyA G)) (F0 m 123 ls [.int u1]) := by
    intro H locs ls u1 eu1 hP hS hl
    subst eu1
    exact hy_iret (T := (Mc, M, Mo)) hx hb hr hlocks hP hS (Nat.zero_le _) (Nat.zero_le _) (by rw [← (Option.some.inj h)] <;> rfl) dX11_fitNow_123
  refine lv_icmp_ne (tgt := 122) hx hb dX11_fitNow_105 (by decide) (fun c25 => ?_) (fun c25 => ?_)
  · refine lv_iload_n hx hb dX11_fitNow_122 rfl (lv_at hl 2 rfl) ?_
    exact J27 _ _ ls y1 (by rw [if_neg c25] <;> rfl) hP hS (lv_sub hl [0, 1, 2, 3] rfl)
  · refine lv_aload_n hx hb dX11_fitNow_108 rfl (lv_at hl 0 rfl) ?_
    refine hy_get (T := (Mc, M, Mo)) (o := 30) (k := 25) (v := .int (M.1 30 25)) hx hb hown hts hX hP (by decide) rfl rfl inX11g (by decide) q_1217 rfl dX11_fitNow_109 ?_
    refine lv_bipush (v := 24) hx hb dX11_fitNow_112 rfl ?_
    refine lv_icmp_le (tgt := 122) hx hb dX11_fitNow_114 (by decide) (fun c26 => ?_) (fun c26 => ?_)
    · refine lv_iload_n hx hb dX11_fitNow_122 rfl (lv_at hl 2 rfl) ?_
      exact J27 _ _ ls y1 (by rw [if_pos c25, if_pos c26] <;> rfl) hP hS (lv_sub hl [0, 1, 2, 3] rfl)
    · refine lv_bipush (v := 24) hx hb dX11_fitNow_117 rfl ?_
      refine lv_goto (tgt := 123) hx hb dX11_fitNow_119 (by decide) ?_
      exact J27 _ _ ls 24 (by rw [if_pos c25, if_neg c26] <;> rfl) hP hS (lv_sub hl [0, 1, 2, 3] rfl)
set_option maxHeartbeats 1000000 in
set_option maxRecDepth 100000 in
theorem c_Rf_columnOf {l : Launch} {G : hyG} (Mc Mo : hyM) (a1 : Int32) (M : hyM) {res : Int32} (h : Rf_columnOf a1 M = some res) : hyC l yX11_columnOf (.code yX11_columnOf cX11_columnOf 8 (some .int)) 4 90 (0) G [.ref (adr G 30), .int a1] (Mc, M, Mo) (.inr (some (.int res)), (Mc, M, Mo)) := by
  refine hy_of (by decide +kernel) (Nat.le_of_ble_eq_true rfl) ?_
  intro p e s m below meth c hx hb hml hown hts hr hlocks ht hX hP hS ls hl
  have hl : lv_has ls 8 [(0, .ref (adr G 30)), (1, .int a1)] := hl
  rw [Rf_columnOf] at h
  refine lv_iconst (v := 2) hx hb dX11_columnOf_0 rfl ?_
  refine lv_istore_n (lv' := [(2, .int 2), (0, .ref (adr G 30)), (1, .int a1)]) hx hb dX11_columnOf_1 rfl hl (by decide) rfl (fun ls hl => ?_)
  refine lv_aload_n hx hb dX11_columnOf_2 rfl (lv_at hl 1 rfl) ?_
  refine lv_iload_n hx hb dX11_columnOf_3 rfl (lv_at hl 2 rfl) ?_
  obtain ⟨v1, hv1, h⟩ := hy_bind h
  refine hy_ret (hy_rV0 (T := (Mc, M, Mo)) (v := some (.int v1)) (T2 := (Mc, M, Mo)) (As := [.int a1]) (rest := []) (n := 0) hx hb hml hown hts hX hP hS hl (c_Rf_syllableOf Mc Mo a1 M hv1) m_Rf_syllableOf q_1392 (hy_recv hX hP 30 10 (by decide) rfl rfl) rfl rfl (Nat.le_of_ble_eq_true rfl) dX11_columnOf_4 ⟨Nat.le_of_ble_eq_true rfl, Nat.le_of_ble_eq_true rfl⟩ ⟨Nat.zero_le _, Nat.zero_le _⟩) hS (fun H locs hP hS => ?_)
  refine lv_istore_n (lv' := [(3, .int v1), (2, .int 2), (0, .ref (adr G 30)), (1, .int a1)]) hx hb dX11_columnOf_7 rfl hl (by decide) rfl (fun ls hl => ?_)
  refine lv_iconst (v := 0) hx hb dX11_columnOf_8 rfl ?_
  refine lv_istore (lv' := [(4, .int 0), (3, .int v1), (2, .int 2), (0, .ref (adr G 30)), (1, .int a1)]) hx hb dX11_columnOf_9 hl (by decide) rfl (fun ls hl => ?_)
  have L25 : ∀ (f : Nat) (x2 : Int32) (x3 : Int32) (qL : (Int32 × Int32)) (h : Rf_columnOf_L11 a1 M v1 f x2 x3 = some qL) (H : Heap) (locs : List Loc) (ls : Array Slot) (hP : va_P G.1 vwCl (wld G (Mc, M, Mo)) H) (hS : va_S (hyA G) s.heap H locs) (hl : lv_has ls 8 [(0, .ref (adr G 30)), (1, .int a1), (2, .int x2), (3, .int v1), (4, .int x3)]) (kk : ∀ (y2 : Int32) (y3 : Int32), qL = (y2, y3) → ∀ (H : Heap) (locs : List Loc) (ls : Array Slot), va_P G.1 vwCl (wld G (Mc, M, Mo)) H → va_S (hyA G) s.heap H locs → lv_has ls 8 [(0, .ref (adr G 30)), (1, .int a1), (2, .int y2), (3, .int v1), (4, .int y3)] → W p l e { frames := 4, cells := 0, slots := 6 * 0, locals := 90 } s m ([.ref (adr G 30), .int a1] : List Value).toArray below meth c H locs 0 0 (vx_MQ below (hyQ G (.inr (some (.int res)), (Mc, M, Mo))) (hyXQ G (.inr (some (.int res)), (Mc, M, Mo))) ([.ref (adr G 30), .int a1] : List Value).toArray s 0 (6 * 0) (hyA G)) (F0 m 119 ls [])), W p l e { frames := 4, cells := 0, slots := 6 * 0, locals := 90 } s m ([.ref (adr G 30), .int a1] : List Value).toArray below meth c H locs 0 0 (vx_MQ below (hyQ G (.inr (some (.int res)), (Mc, M, Mo))) (hyXQ G (.inr (some (.int res)), (Mc, M, Mo))) ([.ref (adr G 30), .int a1] : List Value).toArray s 0 (6 * 0) (hyA G)) (F0 m 11 ls []) := by
    intro f
    induction f with
    | zero =>
      intro x2 x3 qL h H locs ls hP hS hl kk
      rw [Rf_columnOf_L11] at h
      cases h
    | succ f ih =>
      intro x2 x3 qL h H locs ls hP hS hl kk
      rw [Rf_columnOf_L11] at h
      refine lv_iload hx hb dX11_columnOf_11 (lv_at hl 4 rfl) ?_
      refine lv_aload_n hx hb dX11_columnOf_13 rfl (lv_at hl 0 rfl) ?_
      refine hy_get (T := (Mc, M, Mo)) (o := 30) (k := 25) (v := .int (M.1 30 25)) hx hb hown hts hX hP (by decide) rfl rfl inX11g (by decide) q_1217 rfl dX11_columnOf_14 ?_
      have K23 : ∀ (H : Heap) (locs : List Loc), (if (M.1 30 25) ≤ x3 then false else (!decide (24 ≤ x3))) = true → va_P G.1 vwCl (wld G (Mc, M, Mo)) H → va_S (hyA G) s.heap H locs → W p l e { frames := 4, cells := 0, slots := 6 * 0, locals := 90 } s m ([.ref (adr G 30), .int a1] : List Value).toArray below meth c H locs 0 0 (vx_MQ below (hyQ G (.inr (some (.int res)), (Mc, M, Mo))) (hyXQ G (.inr (some (.int res)), (Mc, M, Mo))) ([.ref (adr G 30), .int a1] : List Value).toArray s 0 (6 * 0) (hyA G)) (F0 m 27 ls []) := by
        intro H locs cb hP hS
        rw [if_pos cb] at h
        refine lv_aload_n hx hb dX11_columnOf_27 rfl (lv_at hl 0 rfl) ?_
        refine lv_iload_n hx hb dX11_columnOf_28 rfl (lv_at hl 1 rfl) ?_
        obtain ⟨v6, hv6, h⟩ := hy_bind h
        refine hy_ret (hy_rV0 (T := (Mc, M, Mo)) (v := some (.int (bI v6))) (T2 := (Mc, M, Mo)) (As := [.int a1]) (rest := []) (n := 0) hx hb hml hown hts hX hP hS hl (c_Rf_isSlurred Mc Mo a1 M hv6) m_Rf_isSlurred q_1396 (hy_recv hX hP 30 10 (by decide) rfl rfl) rfl rfl (Nat.le_of_ble_eq_true rfl) dX11_columnOf_29 ⟨Nat.le_of_ble_eq_true rfl, Nat.le_of_ble_eq_true rfl⟩ ⟨Nat.zero_le _, Nat.zero_le _⟩) hS (fun H locs hP hS => ?_)
        refine lv_if_ne (tgt := 119) hx hb dX11_columnOf_32 (by decide) (fun c7 => ?_) (fun c7 => ?_)
        · rw [if_pos (bI_1 c7)] at h
          exact kk x2 x3 (Option.some.inj h).symm _ _ ls hP hS (lv_sub hl [0, 1, 2, 3, 4] rfl)
        · rw [if_neg (bI_0 c7)] at h
          refine lv_iconst (v := 0) hx hb dX11_columnOf_35 rfl ?_
          refine lv_istore (lv' := [(5, .int 0), (0, .ref (adr G 30)), (1, .int a1), (2, .int x2), (3, .int v1), (4, .int x3)]) hx hb dX11_columnOf_36 hl (by decide) rfl (fun ls hl => ?_)
          have L21 : ∀ (f : Nat) (x8 : Int32) (x9 : Int32) (qL : (Int32 × Int32)) (h : Rf_columnOf_L38 a1 M v1 x3 f x8 x9 = some qL) (H : Heap) (locs : List Loc) (ls : Array Slot) (hP : va_P G.1 vwCl (wld G (Mc, M, Mo)) H) (hS : va_S (hyA G) s.heap H locs) (hl : lv_has ls 8 [(0, .ref (adr G 30)), (1, .int a1), (2, .int x8), (3, .int v1), (4, .int x3), (5, .int x9)]) (kk : ∀ (y8 : Int32) (y9 : Int32), qL = (y8, y9) → ∀ (H : Heap) (locs : List Loc) (ls : Array Slot), va_P G.1 vwCl (wld G (Mc, M, Mo)) H → va_S (hyA G) s.heap H locs → lv_has ls 8 [(0, .ref (adr G 30)), (1, .int a1), (2, .int y8), (3, .int v1), (4, .int x3), (5, .int y9)] → W p l e { frames := 4, cells := 0, slots := 6 * 0, locals := 90 } s m ([.ref (adr G 30), .int a1] : List Value).toArray below meth c H locs 0 0 (vx_MQ below (hyQ G (.inr (some (.int res)), (Mc, M, Mo))) (hyXQ G (.inr (some (.int res)), (Mc, M, Mo))) ([.ref (adr G 30), .int a1] : List Value).toArray s 0 (6 * 0) (hyA G)) (F0 m 113 ls [])), W p l e { frames := 4, cells := 0, slots := 6 * 0, locals := 90 } s m ([.ref (adr G 30), .int a1] : List Value).toArray below meth c H locs 0 0 (vx_MQ below (hyQ G (.inr (some (.int res)), (Mc, M, Mo))) (hyXQ G (.inr (some (.int res)), (Mc, M, Mo))) ([.ref (adr G 30), .int a1] : List Value).toArray s 0 (6 * 0) (hyA G)) (F0 m 38 ls []) := by
            intro f
            induction f with
            | zero =>
              intro x8 x9 qL h H locs ls hP hS hl kk
              rw [Rf_columnOf_L38] at h
              cases h
            | succ f ih =>
              intro x8 x9 qL h H locs ls hP hS hl kk
              rw [Rf_columnOf_L38] at h
              refine lv_iload hx hb dX11_columnOf_38 (lv_at hl 5 rfl) ?_
              refine lv_iconst (v := 4) hx hb dX11_columnOf_40 rfl ?_
              refine lv_icmp_ge (tgt := 113) hx hb dX11_columnOf_41 (by decide) (fun c10 => ?_) (fun c10 => ?_)
              · rw [if_pos c10] at h
                exact kk x8 x9 (Option.some.inj h).symm _ _ ls hP hS (lv_sub hl [0, 1, 2, 3, 4, 5] rfl)
              · rw [if_neg c10] at h
                refine lv_aload_n hx hb dX11_columnOf_44 rfl (lv_at hl 0 rfl) ?_
                refine hy_get (T := (Mc, M, Mo)) (o := 30) (k := 26) (v := .ref (adr G 46)) hx hb hown hts hX hP (by decide) rfl rfl inX11g (by decide) q_1218 rfl dX11_columnOf_45 ?_
                refine lv_iload hx hb dX11_columnOf_48 (lv_at hl 4 rfl) ?_
                obtain ⟨v11, hv11, h⟩ := hy_bind h
                obtain ⟨nv11, hv11⟩ := ldE_some hv11
                refine hy_iald (T := (Mc, M, Mo)) hx hb hX hP 46 80 (M.1 46) (by decide) rfl nv11 dX11_columnOf_50 ?_
                rw [hv11]
                refine lv_aload_n hx hb dX11_columnOf_51 rfl (lv_at hl 0 rfl) ?_
                refine hy_get (T := (Mc, M, Mo)) (o := 30) (k := 24) (v := .ref (adr G 45)) hx hb hown hts hX hP (by decide) rfl rfl inX11g (by decide) q_1216 rfl dX11_columnOf_52 ?_
                refine lv_iload_n hx hb dX11_columnOf_55 rfl (lv_at hl 1 rfl) ?_
                obtain ⟨v12, hv12, h⟩ := hy_bind h
                obtain ⟨nv12, hv12⟩ := ldE_some hv12
                refine hy_iald (T := (Mc, M, Mo)) hx hb hX hP 45 40 (M.1 45) (by decide) rfl nv12 dX11_columnOf_56 ?_
                rw [hv12]
                refine lv_icmp_ne (tgt := 113) hx hb dX11_columnOf_57 (by decide) (fun c13 => ?_) (fun c13 => ?_)
                · rw [if_neg c13] at h
                  exact kk x8 x9 (Option.some.inj h).symm _ _ ls hP hS (lv_sub hl [0, 1, 2, 3, 4, 5] rfl)
                · rw [if_pos (c13)] at h
                  refine lv_bipush (v := 24) hx hb dX11_columnOf_60 rfl ?_
                  refine lv_iload hx hb dX11_columnOf_62 (lv_at hl 5 rfl) ?_
                  refine lv_imul hx hb dX11_columnOf_64 ?_
                  refine lv_iload hx hb dX11_columnOf_65 (lv_at hl 4 rfl) ?_
                  refine lv_iadd hx hb dX11_columnOf_67 ?_
                  refine lv_istore (lv' := [(6, .int ((24 * x9) + x3)), (0, .ref (adr G 30)), (1, .int a1), (2, .int x8), (3, .int v1), (4, .int x3), (5, .int x9)]) hx hb dX11_columnOf_68 hl (by decide) rfl (fun ls hl => ?_)
                  refine lv_iload_n hx hb dX11_columnOf_70 rfl (lv_at hl 4 rfl) ?_
                  refine lv_aload_n hx hb dX11_columnOf_71 rfl (lv_at hl 1 rfl) ?_
                  refine lv_iload hx hb dX11_columnOf_72 (lv_at hl 0 rfl) ?_
                  refine lv_iconst (v := 0) hx hb dX11_columnOf_74 rfl ?_
                  obtain ⟨v14, hv14, h⟩ := hy_bind h
                  refine hy_ret (hy_rV0 (T := (Mc, M, Mo)) (v := some (.int v14)) (T2 := (Mc, M, Mo)) (As := [.int ((24 * x9) + x3), .int 0]) (rest := [.int v1]) (n := 0) hx hb hml hown hts hX hP hS hl (c_Rf_counts Mc Mo ((24 * x9) + x3) 0 M hv14) m_Rf_counts q_1400 (hy_recv hX hP 30 10 (by decide) rfl rfl) rfl rfl (Nat.le_of_ble_eq_true rfl) dX11_columnOf_75 ⟨Nat.le_of_ble_eq_true rfl, Nat.le_of_ble_eq_true rfl⟩ ⟨Nat.zero_le _, Nat.zero_le _⟩) hS (fun H locs hP hS => ?_)
                  refine lv_icmp_ge (tgt := 91) hx hb dX11_columnOf_78 (by decide) (fun c15 => ?_) (fun c15 => ?_)
                  · rw [if_pos c15] at h
                    refine lv_iconst (v := 0) hx hb dX11_columnOf_91 rfl ?_
                    refine lv_istore (lv' := [(7, .int 0), (6, .int ((24 * x9) + x3)), (0, .ref (adr G 30)), (1, .int a1), (2, .int x8), (3, .int v1), (4, .int x3), (5, .int x9)]) hx hb dX11_columnOf_92 hl (by decide) rfl (fun ls hl => ?_)
                    refine lv_iload hx hb dX11_columnOf_94 (lv_at hl 0 rfl) ?_
                    refine lv_iload_n hx hb dX11_columnOf_96 rfl (lv_at hl 4 rfl) ?_
                    have J17 : ∀ (H : Heap) (locs : List Loc) (ls : Array Slot) (u1 : Int32), u1 = (if 0 ≤ x8 then x8 else 0) → va_P G.1 vwCl (wld G (Mc, M, Mo)) H → va_S (hyA G) s.heap H locs → lv_has ls 8 [(0, .ref (adr G 30)), (1, .int a1), (2, .int x8), (3, .int v1), (4, .int x3), (5, .int x9), (6, .int ((24 * x9) + x3)), (7, .int 0)] → W p l e { frames := 4, cells := 0, slots := 6 * 0, locals := 90 } s m ([.ref (adr G 30), .int a1] : List Value).toArray below meth c H locs 0 0 (vx_MQ below (hyQ G (.inr (some (.int res)), (Mc, M, Mo))) (hyXQ G (.inr (some (.int res)), (Mc, M, Mo))) ([.ref (adr G 30), .int a1] : List Value).toArray s 0 (6 * 0) (hyA G)) (F0 m 106 ls [.int u1]) := by
                      intro H locs ls u1 eu1 hP hS hl
                      subst eu1
                      refine lv_istore_n (lv' := [(2, .int (if 0 ≤ x8 then x8 else 0)), (0, .ref (adr G 30)), (1, .int a1), (3, .int v1), (4, .int x3), (5, .int x9), (6, .int ((24 * x9) + x3)), (7, .int 0)]) hx hb dX11_columnOf_106 rfl hl (by decide) rfl (fun ls hl => ?_)
                      refine lv_iinc (v := (x9 + 1)) (lv' := [(5, .int (x9 + 1)), (2, .int (if 0 ≤ x8 then x8 else 0)), (0, .ref (adr G 30)), (1, .int a1), (3, .int v1), (4, .int x3), (6, .int ((24 * x9) + x3)), (7, .int 0)]) hx hb dX11_columnOf_107 hl (k := 5) rfl rfl (by decide) rfl (fun ls hl => ?_)
                      refine lv_goto (tgt := 38) hx hb dX11_columnOf_110 (by decide) ?_
                      exact ih (if 0 ≤ x8 then x8 else 0) (x9 + 1) _ h  _ _ ls hP hS (lv_sub hl [2, 3, 1, 4, 5, 0] rfl) kk
                    refine lv_icmp_le (tgt := 105) hx hb dX11_columnOf_97 (by decide) (fun c16 => ?_) (fun c16 => ?_)
                    · refine lv_iload_n hx hb dX11_columnOf_105 rfl (lv_at hl 4 rfl) ?_
                      exact J17 _ _ ls x8 (by rw [if_pos c16] <;> rfl) hP hS (lv_sub hl [2, 3, 4, 5, 6, 7, 1, 0] rfl)
                    · refine lv_iload hx hb dX11_columnOf_100 (lv_at hl 0 rfl) ?_
                      refine lv_goto (tgt := 106) hx hb dX11_columnOf_102 (by decide) ?_
                      exact J17 _ _ ls 0 (by rw [if_neg c16] <;> rfl) hP hS (lv_sub hl [2, 3, 4, 5, 6, 7, 1, 0] rfl)
                  · rw [if_neg c15] at h
                    refine lv_aload_n hx hb dX11_columnOf_81 rfl (lv_at hl 1 rfl) ?_
                    refine lv_iload hx hb dX11_columnOf_82 (lv_at hl 0 rfl) ?_
                    refine lv_iload_n hx hb dX11_columnOf_84 rfl (lv_at hl 4 rfl) ?_
                    obtain ⟨v18, hv18, h⟩ := hy_bind h
                    refine hy_ret (hy_rV0 (T := (Mc, M, Mo)) (v := some (.int v18)) (T2 := (Mc, M, Mo)) (As := [.int ((24 * x9) + x3), .int v1]) (rest := []) (n := 0) hx hb hml hown hts hX hP hS hl (c_Rf_sizeOf Mc Mo ((24 * x9) + x3) v1 M hv18) m_Rf_sizeOf q_1408 (hy_recv hX hP 30 10 (by decide) rfl rfl) rfl rfl (Nat.le_of_ble_eq_true rfl) dX11_columnOf_85 ⟨Nat.le_of_ble_eq_true rfl, Nat.le_of_ble_eq_true rfl⟩ ⟨Nat.zero_le _, Nat.zero_le _⟩) hS (fun H locs hP hS => ?_)
                    refine lv_goto (tgt := 92) hx hb dX11_columnOf_88 (by decide) ?_
                    refine lv_istore (lv' := [(7, .int v18), (6, .int ((24 * x9) + x3)), (0, .ref (adr G 30)), (1, .int a1), (2, .int x8), (3, .int v1), (4, .int x3), (5, .int x9)]) hx hb dX11_columnOf_92 hl (by decide) rfl (fun ls hl => ?_)
                    refine lv_iload hx hb dX11_columnOf_94 (lv_at hl 0 rfl) ?_
                    refine lv_iload_n hx hb dX11_columnOf_96 rfl (lv_at hl 4 rfl) ?_
                    have J20 : ∀ (H : Heap) (locs : List Loc) (ls : Array Slot) (u1 : Int32), u1 = (if v18 ≤ x8 then x8 else v18) → va_P G.1 vwCl (wld G (Mc, M, Mo)) H → va_S (hyA G) s.heap H locs → lv_has ls 8 [(0, .ref (adr G 30)), (1, .int a1), (2, .int x8), (3, .int v1), (4, .int x3), (5, .int x9), (6, .int ((24 * x9) + x3)), (7, .int v18)] → W p l e { frames := 4, cells := 0, slots := 6 * 0, locals := 90 } s m ([.ref (adr G 30), .int a1] : List Value).toArray below meth c H locs 0 0 (vx_MQ below (hyQ G (.inr (some (.int res)), (Mc, M, Mo))) (hyXQ G (.inr (some (.int res)), (Mc, M, Mo))) ([.ref (adr G 30), .int a1] : List Value).toArray s 0 (6 * 0) (hyA G)) (F0 m 106 ls [.int u1]) := by
                      intro H locs ls u1 eu1 hP hS hl
                      subst eu1
                      refine lv_istore_n (lv' := [(2, .int (if v18 ≤ x8 then x8 else v18)), (0, .ref (adr G 30)), (1, .int a1), (3, .int v1), (4, .int x3), (5, .int x9), (6, .int ((24 * x9) + x3)), (7, .int v18)]) hx hb dX11_columnOf_106 rfl hl (by decide) rfl (fun ls hl => ?_)
                      refine lv_iinc (v := (x9 + 1)) (lv' := [(5, .int (x9 + 1)), (2, .int (if v18 ≤ x8 then x8 else v18)), (0, .ref (adr G 30)), (1, .int a1), (3, .int v1), (4, .int x3), (6, .int ((24 * x9) + x3)), (7, .int v18)]) hx hb dX11_columnOf_107 hl (k := 5) rfl rfl (by decide) rfl (fun ls hl => ?_)
                      refine lv_goto (tgt := 38) hx hb dX11_columnOf_110 (by decide) ?_
                      exact ih (if v18 ≤ x8 then x8 else v18) (x9 + 1) _ h  _ _ ls hP hS (lv_sub hl [2, 3, 1, 4, 5, 0] rfl) kk
                    refine lv_icmp_le (tgt := 105) hx hb dX11_columnOf_97 (by decide) (fun c19 => ?_) (fun c19 => ?_)
                    · refine lv_iload_n hx hb dX11_columnOf_105 rfl (lv_at hl 4 rfl) ?_
                      exact J20 _ _ ls x8 (by rw [if_pos c19] <;> rfl) hP hS (lv_sub hl [2, 3, 4, 5, 6, 7, 1, 0] rfl)
                    · refine lv_iload hx hb dX11_columnOf_100 (lv_at hl 0 rfl) ?_
                      refine lv_goto (tgt := 106) hx hb dX11_columnOf_102 (by decide) ?_
                      exact J20 _ _ ls v18 (by rw [if_neg c19] <;> rfl) hP hS (lv_sub hl [2, 3, 4, 5, 6, 7, 1, 0] rfl)
          obtain ⟨q22, hq22, h⟩ := hy_bind h
          refine L21 hyFu x2 0 q22 hq22 _ _ ls hP hS (lv_sub hl [1, 2, 3, 4, 5, 0] rfl) ?_
          intro y8 y9 e9 H locs ls hP hS hl
          subst e9
          try dsimp only at h
          refine lv_iinc (v := (x3 + 1)) (lv' := [(4, .int (x3 + 1)), (0, .ref (adr G 30)), (1, .int a1), (2, .int y8), (3, .int v1), (5, .int y9)]) hx hb dX11_columnOf_113 hl (k := 4) rfl rfl (by decide) rfl (fun ls hl => ?_)
          refine lv_goto (tgt := 11) hx hb dX11_columnOf_116 (by decide) ?_
          exact ih y8 (x3 + 1) _ h  _ _ ls hP hS (lv_sub hl [1, 2, 3, 4, 0] rfl) kk
      have K24 : ∀ (H : Heap) (locs : List Loc), ¬ (if (M.1 30 25) ≤ x3 then false else (!decide (24 ≤ x3))) = true → va_P G.1 vwCl (wld G (Mc, M, Mo)) H → va_S (hyA G) s.heap H locs → W p l e { frames := 4, cells := 0, slots := 6 * 0, locals := 90 } s m ([.ref (adr G 30), .int a1] : List Value).toArray below meth c H locs 0 0 (vx_MQ below (hyQ G (.inr (some (.int res)), (Mc, M, Mo))) (hyXQ G (.inr (some (.int res)), (Mc, M, Mo))) ([.ref (adr G 30), .int a1] : List Value).toArray s 0 (6 * 0) (hyA G)) (F0 m 119 ls []) := by
        intro H locs cb hP hS
        rw [if_neg cb] at h
        exact kk x2 x3 (Option.some.inj h).symm _ _ ls hP hS (lv_sub hl [0, 1, 2, 3, 4] rfl)
      refine lv_icmp_ge (tgt := 119) hx hb dX11_columnOf_17 (by decide) (fun c4 => ?_) (fun c4 => ?_)
      · exact K24 _ _ (by rw [if_pos c4] <;> first | rfl | decide) hP hS
      · refine lv_iload hx hb dX11_columnOf_20 (lv_at hl 4 rfl) ?_
        refine lv_bipush (v := 24) hx hb dX11_columnOf_22 rfl ?_
        refine lv_icmp_ge (tgt := 119) hx hb dX11_columnOf_24 (by decide) (fun c5 => ?_) (fun c5 => ?_)
        · exact K24 _ _ (by rw [if_neg c4, decide_eq_true c5] <;> first | rfl | decide) hP hS
        · exact K23 _ _ (by rw [if_neg c4, decide_eq_false c5] <;> first | rfl | decide) hP hS
  obtain ⟨q26, hq26, h⟩ := hy_bind h
  refine L25 hyFu 2 0 q26 hq26 _ _ ls hP hS (lv_sub hl [3, 4, 2, 1, 0] rfl) ?_
  intro y2 y3 e9 H locs ls hP hS hl
  subst e9
  try dsimp only at h
  refine lv_iload_n hx hb dX11_columnOf_119 rfl (lv_at hl 2 rfl) ?_
  refine lv_iconst (v := 1) hx hb dX11_columnOf_120 rfl ?_
  refine lv_iadd hx hb dX11_columnOf_121 ?_
  exact hy_iret (T := (Mc, M, Mo)) hx hb hr hlocks hP hS (Nat.zero_le _) (Nat.zero_le _) (by rw [← (Option.some.inj h)] <;> rfl) dX11_columnOf_122
set_option maxHeartbeats 1000000 in
set_option maxRecDepth 100000 in
theorem c_Rf_lay {l : Launch} {G : hyG} (Mc Mo : hyM) (M : hyM) {res : hyM} (h : Rf_lay M = some res) : hyC l yX11_lay (.code yX11_lay cX11_lay 4 none) 5 117 (0) G [.ref (adr G 30)] (Mc, M, Mo) (.inr none, (Mc, res, Mo)) := by
  refine hy_of (by decide +kernel) (Nat.le_of_ble_eq_true rfl) ?_
  intro p e s m below meth c hx hb hml hown hts hr hlocks ht hX hP hS ls hl
  have hl : lv_has ls 4 [(0, .ref (adr G 30))] := hl
  rw [Rf_lay] at h
  refine lv_aload_n hx hb dX11_lay_0 rfl (lv_at hl 0 rfl) ?_
  obtain ⟨M1, hM1, h⟩ := hy_bind h
  refine hy_ret (hy_rV0 (T := (Mc, M, Mo)) (v := none) (T2 := (Mc, M1, Mo)) (As := []) (rest := []) (n := 0) hx hb hml hown hts hX hP hS hl (c_Rf_laySung Mc Mo M hM1) m_Rf_laySung q_1360 (hy_recv hX hP 30 10 (by decide) rfl rfl) rfl rfl (Nat.le_of_ble_eq_true rfl) dX11_lay_1 ⟨Nat.le_of_ble_eq_true rfl, Nat.le_of_ble_eq_true rfl⟩ ⟨Nat.zero_le _, Nat.zero_le _⟩) hS (fun H locs hP hS => ?_)
  refine lv_iconst (v := 0) hx hb dX11_lay_4 rfl ?_
  refine lv_istore_n (lv' := [(1, .int 0), (0, .ref (adr G 30))]) hx hb dX11_lay_5 rfl hl (by decide) rfl (fun ls hl => ?_)
  have L7 : ∀ (f : Nat) (x2 : Int32) (M3 : hyM) (qL : (Int32 × hyM)) (h : Rf_lay_L6  f x2 M3 = some qL) (H : Heap) (locs : List Loc) (ls : Array Slot) (hP : va_P G.1 vwCl (wld G (Mc, M3, Mo)) H) (hS : va_S (hyA G) s.heap H locs) (hl : lv_has ls 4 [(0, .ref (adr G 30)), (1, .int x2)]) (kk : ∀ (y2 : Int32) (NM3 : hyM), qL = (y2, NM3) → ∀ (H : Heap) (locs : List Loc) (ls : Array Slot), va_P G.1 vwCl (wld G (Mc, NM3, Mo)) H → va_S (hyA G) s.heap H locs → lv_has ls 4 [(0, .ref (adr G 30)), (1, .int y2)] → W p l e { frames := 5, cells := 0, slots := 6 * 0, locals := 117 } s m ([.ref (adr G 30)] : List Value).toArray below meth c H locs 0 0 (vx_MQ below (hyQ G (.inr none, (Mc, res, Mo))) (hyXQ G (.inr none, (Mc, res, Mo))) ([.ref (adr G 30)] : List Value).toArray s 0 (6 * 0) (hyA G)) (F0 m 31 ls [])), W p l e { frames := 5, cells := 0, slots := 6 * 0, locals := 117 } s m ([.ref (adr G 30)] : List Value).toArray below meth c H locs 0 0 (vx_MQ below (hyQ G (.inr none, (Mc, res, Mo))) (hyXQ G (.inr none, (Mc, res, Mo))) ([.ref (adr G 30)] : List Value).toArray s 0 (6 * 0) (hyA G)) (F0 m 6 ls []) := by
    intro f
    induction f with
    | zero =>
      intro x2 M3 qL h H locs ls hP hS hl kk
      rw [Rf_lay_L6] at h
      cases h
    | succ f ih =>
      intro x2 M3 qL h H locs ls hP hS hl kk
      rw [Rf_lay_L6] at h
      refine lv_iload_n hx hb dX11_lay_6 rfl (lv_at hl 1 rfl) ?_
      refine lv_aload_n hx hb dX11_lay_7 rfl (lv_at hl 0 rfl) ?_
      refine hy_get (T := (Mc, M3, Mo)) (o := 30) (k := 2) (v := .int (M3.1 30 2)) hx hb hown hts hX hP (by decide) rfl rfl inX11g (by decide) q_1194 rfl dX11_lay_8 ?_
      refine lv_icmp_ge (tgt := 31) hx hb dX11_lay_11 (by decide) (fun c4 => ?_) (fun c4 => ?_)
      · rw [if_pos c4] at h
        exact kk x2 M3 (Option.some.inj h).symm _ _ ls hP hS (lv_sub hl [0, 1] rfl)
      · rw [if_neg c4] at h
        refine lv_aload_n hx hb dX11_lay_14 rfl (lv_at hl 0 rfl) ?_
        refine hy_get (T := (Mc, M3, Mo)) (o := 30) (k := 27) (v := .ref (adr G 47)) hx hb hown hts hX hP (by decide) rfl rfl inX11g (by decide) q_1219 rfl dX11_lay_15 ?_
        refine lv_iload_n hx hb dX11_lay_18 rfl (lv_at hl 1 rfl) ?_
        refine lv_aload_n hx hb dX11_lay_19 rfl (lv_at hl 0 rfl) ?_
        refine lv_iload_n hx hb dX11_lay_20 rfl (lv_at hl 1 rfl) ?_
        obtain ⟨v5, hv5, h⟩ := hy_bind h
        refine hy_ret (hy_rV0 (T := (Mc, M3, Mo)) (v := some (.int v5)) (T2 := (Mc, M3, Mo)) (As := [.int x2]) (rest := [.int x2, .ref (adr G 47)]) (n := 0) hx hb hml hown hts hX hP hS hl (c_Rf_columnOf Mc Mo x2 M3 hv5) m_Rf_columnOf q_1388 (hy_recv hX hP 30 10 (by decide) rfl rfl) rfl rfl (Nat.le_of_ble_eq_true rfl) dX11_lay_21 ⟨Nat.le_of_ble_eq_true rfl, Nat.le_of_ble_eq_true rfl⟩ ⟨Nat.zero_le _, Nat.zero_le _⟩) hS (fun H locs hP hS => ?_)
        obtain ⟨M6, hM6, h⟩ := hy_bind h
        obtain ⟨nM6, hM6⟩ := stE_some hM6
        refine hy_iast (T := (Mc, M3, Mo)) (T2 := (Mc, (wI M3 47 x2.toNatClampNeg v5), Mo)) hx hb hX hP hS 47 40 (by decide) (fun _ _ => rfl) nM6 rfl dX11_lay_24 (fun H locs hP hS => ?_)
        rw [hM6] at hP
        refine lv_iinc (v := (x2 + 1)) (lv' := [(1, .int (x2 + 1)), (0, .ref (adr G 30))]) hx hb dX11_lay_25 hl (k := 1) rfl rfl (by decide) rfl (fun ls hl => ?_)
        refine lv_goto (tgt := 6) hx hb dX11_lay_28 (by decide) ?_
        exact ih (x2 + 1) M6 _ h  _ _ ls hP hS (lv_sub hl [1, 0] rfl) kk
  obtain ⟨q37, hq37, h⟩ := hy_bind h
  refine L7 hyFu 0 M1 q37 hq37 _ _ ls hP hS (lv_sub hl [1, 0] rfl) ?_
  intro y2 NM3 e9 H locs ls hP hS hl
  subst e9
  try dsimp only at h
  refine lv_aload_n hx hb dX11_lay_31 rfl (lv_at hl 0 rfl) ?_
  refine lv_iconst (v := 0) hx hb dX11_lay_32 rfl ?_
  refine hy_putI (ty := .int) (T := (Mc, NM3, Mo)) (T2 := (Mc, (wI NM3 30 30 0), Mo)) (o := 30) (k := 30) hx hb hown hts hX hP hS (by decide) rfl rfl rfl rfl inX11g tyX11_ok nmX11 (by decide) q_1222 rfl rfl rfl rfl (Nat.le_of_ble_eq_true rfl) dX11_lay_33 (fun H locs hP hS => ?_)
  obtain ⟨M8, hM8, h⟩ := hy_bind h
  rw [Option.some.inj hM8] at hP
  refine lv_iconst (v := 0) hx hb dX11_lay_36 rfl ?_
  refine lv_istore_n (lv' := [(1, .int 0), (0, .ref (adr G 30))]) hx hb dX11_lay_37 rfl hl (by decide) rfl (fun ls hl => ?_)
  refine lv_iconst (v := 0) hx hb dX11_lay_38 rfl ?_
  refine lv_istore_n (lv' := [(2, .int 0), (1, .int 0), (0, .ref (adr G 30))]) hx hb dX11_lay_39 rfl hl (by decide) rfl (fun ls hl => ?_)
  have L35 : ∀ (f : Nat) (x9 : Int32) (x10 : Int32) (M11 : hyM) (qL : (Int32 × Int32 × hyM)) (h : Rf_lay_L40  f x9 x10 M11 = some qL) (H : Heap) (locs : List Loc) (ls : Array Slot) (hP : va_P G.1 vwCl (wld G (Mc, M11, Mo)) H) (hS : va_S (hyA G) s.heap H locs) (hl : lv_has ls 4 [(0, .ref (adr G 30)), (1, .int x9), (2, .int x10)]) (kk : ∀ (y9 : Int32) (y10 : Int32) (NM11 : hyM), qL = (y9, y10, NM11) → ∀ (H : Heap) (locs : List Loc) (ls : Array Slot), va_P G.1 vwCl (wld G (Mc, NM11, Mo)) H → va_S (hyA G) s.heap H locs → lv_has ls 4 [(0, .ref (adr G 30)), (1, .int y9), (2, .int y10)] → W p l e { frames := 5, cells := 0, slots := 6 * 0, locals := 117 } s m ([.ref (adr G 30)] : List Value).toArray below meth c H locs 0 0 (vx_MQ below (hyQ G (.inr none, (Mc, res, Mo))) (hyXQ G (.inr none, (Mc, res, Mo))) ([.ref (adr G 30)] : List Value).toArray s 0 (6 * 0) (hyA G)) (F0 m 151 ls [])), W p l e { frames := 5, cells := 0, slots := 6 * 0, locals := 117 } s m ([.ref (adr G 30)] : List Value).toArray below meth c H locs 0 0 (vx_MQ below (hyQ G (.inr none, (Mc, res, Mo))) (hyXQ G (.inr none, (Mc, res, Mo))) ([.ref (adr G 30)] : List Value).toArray s 0 (6 * 0) (hyA G)) (F0 m 40 ls []) := by
    intro f
    induction f with
    | zero =>
      intro x9 x10 M11 qL h H locs ls hP hS hl kk
      rw [Rf_lay_L40] at h
      cases h
    | succ f ih =>
      intro x9 x10 M11 qL h H locs ls hP hS hl kk
      rw [Rf_lay_L40] at h
      refine lv_iload_n hx hb dX11_lay_40 rfl (lv_at hl 2 rfl) ?_
      refine lv_aload_n hx hb dX11_lay_41 rfl (lv_at hl 0 rfl) ?_
      refine hy_get (T := (Mc, M11, Mo)) (o := 30) (k := 21) (v := .int (M11.1 30 21)) hx hb hown hts hX hP (by decide) rfl rfl inX11g (by decide) q_1213 rfl dX11_lay_42 ?_
      refine lv_icmp_ge (tgt := 151) hx hb dX11_lay_45 (by decide) (fun c12 => ?_) (fun c12 => ?_)
      · rw [if_pos c12] at h
        exact kk x9 x10 M11 (Option.some.inj h).symm _ _ ls hP hS (lv_sub hl [0, 1, 2] rfl)
      · rw [if_neg c12] at h
        refine lv_aload_n hx hb dX11_lay_48 rfl (lv_at hl 0 rfl) ?_
        refine hy_get (T := (Mc, M11, Mo)) (o := 30) (k := 28) (v := .ref (adr G 48)) hx hb hown hts hX hP (by decide) rfl rfl inX11g (by decide) q_1220 rfl dX11_lay_49 ?_
        refine lv_iload_n hx hb dX11_lay_52 rfl (lv_at hl 2 rfl) ?_
        refine lv_iconst (v := 0) hx hb dX11_lay_53 rfl ?_
        obtain ⟨M13, hM13, h⟩ := hy_bind h
        obtain ⟨nM13, hM13⟩ := stE_some hM13
        refine hy_iast (T := (Mc, M11, Mo)) (T2 := (Mc, (wI M11 48 x10.toNatClampNeg 0), Mo)) hx hb hX hP hS 48 40 (by decide) (fun _ _ => rfl) nM13 rfl dX11_lay_54 (fun H locs hP hS => ?_)
        rw [hM13] at hP
        refine lv_aload_n hx hb dX11_lay_55 rfl (lv_at hl 0 rfl) ?_
        refine hy_get (T := (Mc, M13, Mo)) (o := 30) (k := 22) (v := .ref (adr G 43)) hx hb hown hts hX hP (by decide) rfl rfl inX11g (by decide) q_1214 rfl dX11_lay_56 ?_
        refine lv_iload_n hx hb dX11_lay_59 rfl (lv_at hl 2 rfl) ?_
        obtain ⟨v14, hv14, h⟩ := hy_bind h
        obtain ⟨nv14, hv14⟩ := ldE_some hv14
        refine hy_iald (T := (Mc, M13, Mo)) hx hb hX hP 43 40 (M13.1 43) (by decide) rfl nv14 dX11_lay_60 ?_
        rw [hv14]
        refine lv_istore_n (lv' := [(3, .int v14), (0, .ref (adr G 30)), (1, .int x9), (2, .int x10)]) hx hb dX11_lay_61 rfl hl (by decide) rfl (fun ls hl => ?_)
        have L22 : ∀ (f : Nat) (x15 : Int32) (M16 : hyM) (qL : (Int32 × hyM)) (h : Rf_lay_L62 x10 f x15 M16 = some qL) (H : Heap) (locs : List Loc) (ls : Array Slot) (hP : va_P G.1 vwCl (wld G (Mc, M16, Mo)) H) (hS : va_S (hyA G) s.heap H locs) (hl : lv_has ls 4 [(0, .ref (adr G 30)), (1, .int x9), (2, .int x10), (3, .int x15)]) (kk : ∀ (y15 : Int32) (NM16 : hyM), qL = (y15, NM16) → ∀ (H : Heap) (locs : List Loc) (ls : Array Slot), va_P G.1 vwCl (wld G (Mc, NM16, Mo)) H → va_S (hyA G) s.heap H locs → lv_has ls 4 [(0, .ref (adr G 30)), (1, .int x9), (2, .int x10), (3, .int y15)] → W p l e { frames := 5, cells := 0, slots := 6 * 0, locals := 117 } s m ([.ref (adr G 30)] : List Value).toArray below meth c H locs 0 0 (vx_MQ below (hyQ G (.inr none, (Mc, res, Mo))) (hyXQ G (.inr none, (Mc, res, Mo))) ([.ref (adr G 30)] : List Value).toArray s 0 (6 * 0) (hyA G)) (F0 m 93 ls [])), W p l e { frames := 5, cells := 0, slots := 6 * 0, locals := 117 } s m ([.ref (adr G 30)] : List Value).toArray below meth c H locs 0 0 (vx_MQ below (hyQ G (.inr none, (Mc, res, Mo))) (hyXQ G (.inr none, (Mc, res, Mo))) ([.ref (adr G 30)] : List Value).toArray s 0 (6 * 0) (hyA G)) (F0 m 62 ls []) := by
          intro f
          induction f with
          | zero =>
            intro x15 M16 qL h H locs ls hP hS hl kk
            rw [Rf_lay_L62] at h
            cases h
          | succ f ih =>
            intro x15 M16 qL h H locs ls hP hS hl kk
            rw [Rf_lay_L62] at h
            refine lv_iload_n hx hb dX11_lay_62 rfl (lv_at hl 3 rfl) ?_
            refine lv_aload_n hx hb dX11_lay_63 rfl (lv_at hl 0 rfl) ?_
            refine hy_get (T := (Mc, M16, Mo)) (o := 30) (k := 23) (v := .ref (adr G 44)) hx hb hown hts hX hP (by decide) rfl rfl inX11g (by decide) q_1215 rfl dX11_lay_64 ?_
            refine lv_iload_n hx hb dX11_lay_67 rfl (lv_at hl 2 rfl) ?_
            obtain ⟨v17, hv17, h⟩ := hy_bind h
            obtain ⟨nv17, hv17⟩ := ldE_some hv17
            refine hy_iald (T := (Mc, M16, Mo)) hx hb hX hP 44 40 (M16.1 44) (by decide) rfl nv17 dX11_lay_68 ?_
            rw [hv17]
            refine lv_icmp_gt (tgt := 93) hx hb dX11_lay_69 (by decide) (fun c18 => ?_) (fun c18 => ?_)
            · rw [if_pos c18] at h
              exact kk x15 M16 (Option.some.inj h).symm _ _ ls hP hS (lv_sub hl [0, 1, 2, 3] rfl)
            · rw [if_neg c18] at h
              refine lv_aload_n hx hb dX11_lay_72 rfl (lv_at hl 0 rfl) ?_
              refine hy_get (T := (Mc, M16, Mo)) (o := 30) (k := 28) (v := .ref (adr G 48)) hx hb hown hts hX hP (by decide) rfl rfl inX11g (by decide) q_1220 rfl dX11_lay_73 ?_
              refine lv_iload_n hx hb dX11_lay_76 rfl (lv_at hl 2 rfl) ?_
              refine lv_dup2_11 hx hb dX11_lay_77 rfl rfl ?_
              obtain ⟨v19, hv19, h⟩ := hy_bind h
              obtain ⟨nv19, hv19⟩ := ldE_some hv19
              refine hy_iald (T := (Mc, M16, Mo)) hx hb hX hP 48 40 (M16.1 48) (by decide) rfl nv19 dX11_lay_78 ?_
              rw [hv19]
              refine lv_aload_n hx hb dX11_lay_79 rfl (lv_at hl 0 rfl) ?_
              refine hy_get (T := (Mc, M16, Mo)) (o := 30) (k := 27) (v := .ref (adr G 47)) hx hb hown hts hX hP (by decide) rfl rfl inX11g (by decide) q_1219 rfl dX11_lay_80 ?_
              refine lv_iload_n hx hb dX11_lay_83 rfl (lv_at hl 3 rfl) ?_
              obtain ⟨v20, hv20, h⟩ := hy_bind h
              obtain ⟨nv20, hv20⟩ := ldE_some hv20
              refine hy_iald (T := (Mc, M16, Mo)) hx hb hX hP 47 40 (M16.1 47) (by decide) rfl nv20 dX11_lay_84 ?_
              rw [hv20]
              refine lv_iadd hx hb dX11_lay_85 ?_
              obtain ⟨M21, hM21, h⟩ := hy_bind h
              obtain ⟨nM21, hM21⟩ := stE_some hM21
              refine hy_iast (T := (Mc, M16, Mo)) (T2 := (Mc, (wI M16 48 x10.toNatClampNeg (v19 + v20)), Mo)) hx hb hX hP hS 48 40 (by decide) (fun _ _ => rfl) nM21 rfl dX11_lay_86 (fun H locs hP hS => ?_)
              rw [hM21] at hP
              refine lv_iinc (v := (x15 + 1)) (lv' := [(3, .int (x15 + 1)), (0, .ref (adr G 30)), (1, .int x9), (2, .int x10)]) hx hb dX11_lay_87 hl (k := 3) rfl rfl (by decide) rfl (fun ls hl => ?_)
              refine lv_goto (tgt := 62) hx hb dX11_lay_90 (by decide) ?_
              exact ih (x15 + 1) M21 _ h  _ _ ls hP hS (lv_sub hl [1, 2, 3, 0] rfl) kk
        obtain ⟨q34, hq34, h⟩ := hy_bind h
        refine L22 hyFu v14 M13 q34 hq34 _ _ ls hP hS (lv_sub hl [1, 2, 3, 0] rfl) ?_
        intro y15 NM16 e9 H locs ls hP hS hl
        subst e9
        try dsimp only at h
        refine lv_iload_n hx hb dX11_lay_93 rfl (lv_at hl 2 rfl) ?_
        refine lv_if_eq (tgt := 112) hx hb dX11_lay_94 (by decide) (fun c23 => ?_) (fun c23 => ?_)
        · rw [if_pos c23] at h
          refine lv_aload_n hx hb dX11_lay_112 rfl (lv_at hl 0 rfl) ?_
          refine lv_dup hx hb dX11_lay_113 rfl ?_
          refine hy_get (T := (Mc, NM16, Mo)) (o := 30) (k := 30) (v := .int (NM16.1 30 30)) hx hb hown hts hX hP (by decide) rfl rfl inX11g (by decide) q_1222 rfl dX11_lay_114 ?_
          refine lv_iconst (v := 1) hx hb dX11_lay_117 rfl ?_
          refine lv_iadd hx hb dX11_lay_118 ?_
          refine hy_putI (ty := .int) (T := (Mc, NM16, Mo)) (T2 := (Mc, (wI NM16 30 30 ((NM16.1 30 30) + 1)), Mo)) (o := 30) (k := 30) hx hb hown hts hX hP hS (by decide) rfl rfl rfl rfl inX11g tyX11_ok nmX11 (by decide) q_1222 rfl rfl rfl rfl (Nat.le_of_ble_eq_true rfl) dX11_lay_119 (fun H locs hP hS => ?_)
          obtain ⟨M24, hM24, h⟩ := hy_bind h
          rw [Option.some.inj hM24] at hP
          refine lv_iconst (v := 0) hx hb dX11_lay_122 rfl ?_
          refine lv_istore_n (lv' := [(1, .int 0), (0, .ref (adr G 30)), (2, .int x10), (3, .int y15)]) hx hb dX11_lay_123 rfl hl (by decide) rfl (fun ls hl => ?_)
          refine lv_iload_n hx hb dX11_lay_124 rfl (lv_at hl 0 rfl) ?_
          refine lv_aload_n hx hb dX11_lay_125 rfl (lv_at hl 1 rfl) ?_
          refine hy_get (T := (Mc, M24, Mo)) (o := 30) (k := 28) (v := .ref (adr G 48)) hx hb hown hts hX hP (by decide) rfl rfl inX11g (by decide) q_1220 rfl dX11_lay_126 ?_
          refine lv_iload_n hx hb dX11_lay_129 rfl (lv_at hl 2 rfl) ?_
          obtain ⟨v25, hv25, h⟩ := hy_bind h
          obtain ⟨nv25, hv25⟩ := ldE_some hv25
          refine hy_iald (T := (Mc, M24, Mo)) hx hb hX hP 48 40 (M24.1 48) (by decide) rfl nv25 dX11_lay_130 ?_
          rw [hv25]
          refine lv_iadd hx hb dX11_lay_131 ?_
          refine lv_istore_n (lv' := [(1, .int (0 + v25)), (0, .ref (adr G 30)), (2, .int x10), (3, .int y15)]) hx hb dX11_lay_132 rfl hl (by decide) rfl (fun ls hl => ?_)
          refine lv_aload_n hx hb dX11_lay_133 rfl (lv_at hl 1 rfl) ?_
          refine hy_get (T := (Mc, M24, Mo)) (o := 30) (k := 29) (v := .ref (adr G 49)) hx hb hown hts hX hP (by decide) rfl rfl inX11g (by decide) q_1221 rfl dX11_lay_134 ?_
          refine lv_iload_n hx hb dX11_lay_137 rfl (lv_at hl 2 rfl) ?_
          refine lv_aload_n hx hb dX11_lay_138 rfl (lv_at hl 1 rfl) ?_
          refine hy_get (T := (Mc, M24, Mo)) (o := 30) (k := 30) (v := .int (M24.1 30 30)) hx hb hown hts hX hP (by decide) rfl rfl inX11g (by decide) q_1222 rfl dX11_lay_139 ?_
          refine lv_iconst (v := 1) hx hb dX11_lay_142 rfl ?_
          refine lv_isub hx hb dX11_lay_143 ?_
          obtain ⟨M26, hM26, h⟩ := hy_bind h
          obtain ⟨nM26, hM26⟩ := stE_some hM26
          refine hy_iast (T := (Mc, M24, Mo)) (T2 := (Mc, (wI M24 49 x10.toNatClampNeg ((M24.1 30 30) - 1)), Mo)) hx hb hX hP hS 49 40 (by decide) (fun _ _ => rfl) nM26 rfl dX11_lay_144 (fun H locs hP hS => ?_)
          rw [hM26] at hP
          refine lv_iinc (v := (x10 + 1)) (lv' := [(2, .int (x10 + 1)), (1, .int (0 + v25)), (0, .ref (adr G 30)), (3, .int y15)]) hx hb dX11_lay_145 hl (k := 2) rfl rfl (by decide) rfl (fun ls hl => ?_)
          refine lv_goto (tgt := 40) hx hb dX11_lay_148 (by decide) ?_
          exact ih (0 + v25) (x10 + 1) M26 _ h  _ _ ls hP hS (lv_sub hl [2, 1, 0] rfl) kk
        · rw [if_neg c23] at h
          refine lv_iload_n hx hb dX11_lay_97 rfl (lv_at hl 1 rfl) ?_
          refine lv_aload_n hx hb dX11_lay_98 rfl (lv_at hl 0 rfl) ?_
          refine hy_get (T := (Mc, NM16, Mo)) (o := 30) (k := 28) (v := .ref (adr G 48)) hx hb hown hts hX hP (by decide) rfl rfl inX11g (by decide) q_1220 rfl dX11_lay_99 ?_
          refine lv_iload_n hx hb dX11_lay_102 rfl (lv_at hl 2 rfl) ?_
          obtain ⟨v27, hv27, h⟩ := hy_bind h
          obtain ⟨nv27, hv27⟩ := ldE_some hv27
          refine hy_iald (T := (Mc, NM16, Mo)) hx hb hX hP 48 40 (NM16.1 48) (by decide) rfl nv27 dX11_lay_103 ?_
          rw [hv27]
          refine lv_iadd hx hb dX11_lay_104 ?_
          refine lv_aload_n hx hb dX11_lay_105 rfl (lv_at hl 0 rfl) ?_
          refine hy_get (T := (Mc, NM16, Mo)) (o := 30) (k := 13) (v := .int (NM16.1 30 13)) hx hb hown hts hX hP (by decide) rfl rfl inX11g (by decide) q_1205 rfl dX11_lay_106 ?_
          refine lv_icmp_le (tgt := 124) hx hb dX11_lay_109 (by decide) (fun c28 => ?_) (fun c28 => ?_)
          · rw [if_pos c28] at h
            refine lv_iload_n hx hb dX11_lay_124 rfl (lv_at hl 1 rfl) ?_
            refine lv_aload_n hx hb dX11_lay_125 rfl (lv_at hl 0 rfl) ?_
            refine hy_get (T := (Mc, NM16, Mo)) (o := 30) (k := 28) (v := .ref (adr G 48)) hx hb hown hts hX hP (by decide) rfl rfl inX11g (by decide) q_1220 rfl dX11_lay_126 ?_
            refine lv_iload_n hx hb dX11_lay_129 rfl (lv_at hl 2 rfl) ?_
            obtain ⟨v29, hv29, h⟩ := hy_bind h
            obtain ⟨nv29, hv29⟩ := ldE_some hv29
            refine hy_iald (T := (Mc, NM16, Mo)) hx hb hX hP 48 40 (NM16.1 48) (by decide) rfl nv29 dX11_lay_130 ?_
            rw [hv29]
            refine lv_iadd hx hb dX11_lay_131 ?_
            refine lv_istore_n (lv' := [(1, .int (x9 + v29)), (0, .ref (adr G 30)), (2, .int x10), (3, .int y15)]) hx hb dX11_lay_132 rfl hl (by decide) rfl (fun ls hl => ?_)
            refine lv_aload_n hx hb dX11_lay_133 rfl (lv_at hl 1 rfl) ?_
            refine hy_get (T := (Mc, NM16, Mo)) (o := 30) (k := 29) (v := .ref (adr G 49)) hx hb hown hts hX hP (by decide) rfl rfl inX11g (by decide) q_1221 rfl dX11_lay_134 ?_
            refine lv_iload_n hx hb dX11_lay_137 rfl (lv_at hl 2 rfl) ?_
            refine lv_aload_n hx hb dX11_lay_138 rfl (lv_at hl 1 rfl) ?_
            refine hy_get (T := (Mc, NM16, Mo)) (o := 30) (k := 30) (v := .int (NM16.1 30 30)) hx hb hown hts hX hP (by decide) rfl rfl inX11g (by decide) q_1222 rfl dX11_lay_139 ?_
            refine lv_iconst (v := 1) hx hb dX11_lay_142 rfl ?_
            refine lv_isub hx hb dX11_lay_143 ?_
            obtain ⟨M30, hM30, h⟩ := hy_bind h
            obtain ⟨nM30, hM30⟩ := stE_some hM30
            refine hy_iast (T := (Mc, NM16, Mo)) (T2 := (Mc, (wI NM16 49 x10.toNatClampNeg ((NM16.1 30 30) - 1)), Mo)) hx hb hX hP hS 49 40 (by decide) (fun _ _ => rfl) nM30 rfl dX11_lay_144 (fun H locs hP hS => ?_)
            rw [hM30] at hP
            refine lv_iinc (v := (x10 + 1)) (lv' := [(2, .int (x10 + 1)), (1, .int (x9 + v29)), (0, .ref (adr G 30)), (3, .int y15)]) hx hb dX11_lay_145 hl (k := 2) rfl rfl (by decide) rfl (fun ls hl => ?_)
            refine lv_goto (tgt := 40) hx hb dX11_lay_148 (by decide) ?_
            exact ih (x9 + v29) (x10 + 1) M30 _ h  _ _ ls hP hS (lv_sub hl [2, 1, 0] rfl) kk
          · rw [if_neg c28] at h
            refine lv_aload_n hx hb dX11_lay_112 rfl (lv_at hl 0 rfl) ?_
            refine lv_dup hx hb dX11_lay_113 rfl ?_
            refine hy_get (T := (Mc, NM16, Mo)) (o := 30) (k := 30) (v := .int (NM16.1 30 30)) hx hb hown hts hX hP (by decide) rfl rfl inX11g (by decide) q_1222 rfl dX11_lay_114 ?_
            refine lv_iconst (v := 1) hx hb dX11_lay_117 rfl ?_
            refine lv_iadd hx hb dX11_lay_118 ?_
            refine hy_putI (ty := .int) (T := (Mc, NM16, Mo)) (T2 := (Mc, (wI NM16 30 30 ((NM16.1 30 30) + 1)), Mo)) (o := 30) (k := 30) hx hb hown hts hX hP hS (by decide) rfl rfl rfl rfl inX11g tyX11_ok nmX11 (by decide) q_1222 rfl rfl rfl rfl (Nat.le_of_ble_eq_true rfl) dX11_lay_119 (fun H locs hP hS => ?_)
            obtain ⟨M31, hM31, h⟩ := hy_bind h
            rw [Option.some.inj hM31] at hP
            refine lv_iconst (v := 0) hx hb dX11_lay_122 rfl ?_
            refine lv_istore_n (lv' := [(1, .int 0), (0, .ref (adr G 30)), (2, .int x10), (3, .int y15)]) hx hb dX11_lay_123 rfl hl (by decide) rfl (fun ls hl => ?_)
            refine lv_iload_n hx hb dX11_lay_124 rfl (lv_at hl 0 rfl) ?_
            refine lv_aload_n hx hb dX11_lay_125 rfl (lv_at hl 1 rfl) ?_
            refine hy_get (T := (Mc, M31, Mo)) (o := 30) (k := 28) (v := .ref (adr G 48)) hx hb hown hts hX hP (by decide) rfl rfl inX11g (by decide) q_1220 rfl dX11_lay_126 ?_
            refine lv_iload_n hx hb dX11_lay_129 rfl (lv_at hl 2 rfl) ?_
            obtain ⟨v32, hv32, h⟩ := hy_bind h
            obtain ⟨nv32, hv32⟩ := ldE_some hv32
            refine hy_iald (T := (Mc, M31, Mo)) hx hb hX hP 48 40 (M31.1 48) (by decide) rfl nv32 dX11_lay_130 ?_
            rw [hv32]
            refine lv_iadd hx hb dX11_lay_131 ?_
            refine lv_istore_n (lv' := [(1, .int (0 + v32)), (0, .ref (adr G 30)), (2, .int x10), (3, .int y15)]) hx hb dX11_lay_132 rfl hl (by decide) rfl (fun ls hl => ?_)
            refine lv_aload_n hx hb dX11_lay_133 rfl (lv_at hl 1 rfl) ?_
            refine hy_get (T := (Mc, M31, Mo)) (o := 30) (k := 29) (v := .ref (adr G 49)) hx hb hown hts hX hP (by decide) rfl rfl inX11g (by decide) q_1221 rfl dX11_lay_134 ?_
            refine lv_iload_n hx hb dX11_lay_137 rfl (lv_at hl 2 rfl) ?_
            refine lv_aload_n hx hb dX11_lay_138 rfl (lv_at hl 1 rfl) ?_
            refine hy_get (T := (Mc, M31, Mo)) (o := 30) (k := 30) (v := .int (M31.1 30 30)) hx hb hown hts hX hP (by decide) rfl rfl inX11g (by decide) q_1222 rfl dX11_lay_139 ?_
            refine lv_iconst (v := 1) hx hb dX11_lay_142 rfl ?_
            refine lv_isub hx hb dX11_lay_143 ?_
            obtain ⟨M33, hM33, h⟩ := hy_bind h
            obtain ⟨nM33, hM33⟩ := stE_some hM33
            refine hy_iast (T := (Mc, M31, Mo)) (T2 := (Mc, (wI M31 49 x10.toNatClampNeg ((M31.1 30 30) - 1)), Mo)) hx hb hX hP hS 49 40 (by decide) (fun _ _ => rfl) nM33 rfl dX11_lay_144 (fun H locs hP hS => ?_)
            rw [hM33] at hP
            refine lv_iinc (v := (x10 + 1)) (lv' := [(2, .int (x10 + 1)), (1, .int (0 + v32)), (0, .ref (adr G 30)), (3, .int y15)]) hx hb dX11_lay_145 hl (k := 2) rfl rfl (by decide) rfl (fun ls hl => ?_)
            refine lv_goto (tgt := 40) hx hb dX11_lay_148 (by decide) ?_
            exact ih (0 + v32) (x10 + 1) M33 _ h  _ _ ls hP hS (lv_sub hl [2, 1, 0] rfl) kk
  obtain ⟨q36, hq36, h⟩ := hy_bind h
  refine L35 hyFu 0 0 M8 q36 hq36 _ _ ls hP hS (lv_sub hl [2, 1, 0] rfl) ?_
  intro y9 y10 NM11 e9 H locs ls hP hS hl
  subst e9
  try dsimp only at h
  exact hy_vret (T := (Mc, NM11, Mo)) hx hb hr hlocks hP hS (Nat.zero_le _) (Nat.zero_le _) (by rw [← (Option.some.inj h)] <;> rfl) dX11_lay_151
set_option maxHeartbeats 1000000 in
set_option maxRecDepth 100000 in
theorem c_Rf_begin {l : Launch} {G : hyG} (Mc Mo : hyM) (a1 : Int32) (M : hyM) {res : (Int32 × hyM)} (h : Rf_begin a1 M = some res) : hyC l yX11_begin (.code yX11_begin cX11_begin 4 (some .int)) 1 22 (0) G [.ref (adr G 30), .int a1] (Mc, M, Mo) (.inr (some (.int res.1)), (Mc, res.2, Mo)) := by
  refine hy_of (by decide +kernel) (Nat.le_of_ble_eq_true rfl) ?_
  intro p e s m below meth c hx hb hml hown hts hr hlocks ht hX hP hS ls hl
  have hl : lv_has ls 4 [(0, .ref (adr G 30)), (1, .int a1)] := hl
  rw [Rf_begin] at h
  refine lv_aload_n hx hb dX11_begin_0 rfl (lv_at hl 0 rfl) ?_
  refine lv_iload_n hx hb dX11_begin_1 rfl (lv_at hl 1 rfl) ?_
  refine lv_iconst (v := 0) hx hb dX11_begin_2 rfl ?_
  refine lv_bipush (v := 11) hx hb dX11_begin_3 rfl ?_
  refine hy_ret (hy_rS0 (T := (Mc, M, Mo)) (v := some (.int (bI (Rf_within a1 0 11 M)))) (T2 := (Mc, M, Mo)) (As := [.int a1, .int 0, .int 11]) (rest := [.ref (adr G 30)]) (n := 0) hx hb hml hown hts hX hP hS hl (c_Rf_within Mc Mo a1 0 11 M rfl) m_Rf_within q_1310 rfl rfl (Nat.le_of_ble_eq_true rfl) dX11_begin_5 ⟨Nat.le_of_ble_eq_true rfl, Nat.le_of_ble_eq_true rfl⟩ ⟨Nat.zero_le _, Nat.zero_le _⟩) hS (fun H locs hP hS => ?_)
  have J16 : ∀ (H : Heap) (locs : List Loc) (ls : Array Slot) (u1 : Int32), u1 = (bI (!(Rf_within a1 0 11 M))) → va_P G.1 vwCl (wld G (Mc, M, Mo)) H → va_S (hyA G) s.heap H locs → lv_has ls 4 [(0, .ref (adr G 30)), (1, .int a1)] → W p l e { frames := 1, cells := 0, slots := 6 * 0, locals := 22 } s m ([.ref (adr G 30), .int a1] : List Value).toArray below meth c H locs 0 0 (vx_MQ below (hyQ G (.inr (some (.int res.1)), (Mc, res.2, Mo))) (hyXQ G (.inr (some (.int res.1)), (Mc, res.2, Mo))) ([.ref (adr G 30), .int a1] : List Value).toArray s 0 (6 * 0) (hyA G)) (F0 m 16 ls [.int u1, .ref (adr G 30)]) := by
    intro H locs ls u1 eu1 hP hS hl
    subst eu1
    refine hy_putI (ty := .int) (T := (Mc, M, Mo)) (T2 := (Mc, (wI M 30 0 (bI (!(Rf_within a1 0 11 M)))), Mo)) (o := 30) (k := 0) hx hb hown hts hX hP hS (by decide) rfl rfl rfl rfl inX11g tyX11_ok nmX11 (by decide) q_1192 rfl rfl rfl rfl (Nat.le_of_ble_eq_true rfl) dX11_begin_16 (fun H locs hP hS => ?_)
    obtain ⟨M2, hM2, h⟩ := hy_bind h
    rw [Option.some.inj hM2] at hP
    refine lv_aload_n hx hb dX11_begin_19 rfl (lv_at hl 0 rfl) ?_
    refine hy_get (T := (Mc, M2, Mo)) (o := 30) (k := 0) (v := .int (M2.1 30 0)) hx hb hown hts hX hP (by decide) rfl rfl inX11g (by decide) q_1192 rfl dX11_begin_20 ?_
    refine lv_if_le (tgt := 28) hx hb dX11_begin_23 (by decide) (fun c3 => ?_) (fun c3 => ?_)
    · rw [if_pos c3] at h
      refine lv_aload_n hx hb dX11_begin_28 rfl (lv_at hl 0 rfl) ?_
      refine hy_get (T := (Mc, M2, Mo)) (o := 30) (k := 2) (v := .int (M2.1 30 2)) hx hb hown hts hX hP (by decide) rfl rfl inX11g (by decide) q_1194 rfl dX11_begin_29 ?_
      refine lv_istore_n (lv' := [(2, .int (M2.1 30 2)), (0, .ref (adr G 30)), (1, .int a1)]) hx hb dX11_begin_32 rfl hl (by decide) rfl (fun ls hl => ?_)
      refine lv_aload_n hx hb dX11_begin_33 rfl (lv_at hl 1 rfl) ?_
      refine lv_iload_n hx hb dX11_begin_34 rfl (lv_at hl 2 rfl) ?_
      refine hy_putI (ty := .int) (T := (Mc, M2, Mo)) (T2 := (Mc, (wI M2 30 1 a1), Mo)) (o := 30) (k := 1) hx hb hown hts hX hP hS (by decide) rfl rfl rfl rfl inX11g tyX11_ok nmX11 (by decide) q_1193 rfl rfl rfl rfl (Nat.le_of_ble_eq_true rfl) dX11_begin_35 (fun H locs hP hS => ?_)
      obtain ⟨M4, hM4, h⟩ := hy_bind h
      rw [Option.some.inj hM4] at hP
      refine lv_aload_n hx hb dX11_begin_38 rfl (lv_at hl 1 rfl) ?_
      refine lv_iconst (v := 0) hx hb dX11_begin_39 rfl ?_
      refine hy_putI (ty := .int) (T := (Mc, M4, Mo)) (T2 := (Mc, (wI M4 30 2 0), Mo)) (o := 30) (k := 2) hx hb hown hts hX hP hS (by decide) rfl rfl rfl rfl inX11g tyX11_ok nmX11 (by decide) q_1194 rfl rfl rfl rfl (Nat.le_of_ble_eq_true rfl) dX11_begin_40 (fun H locs hP hS => ?_)
      obtain ⟨M5, hM5, h⟩ := hy_bind h
      rw [Option.some.inj hM5] at hP
      refine lv_aload_n hx hb dX11_begin_43 rfl (lv_at hl 1 rfl) ?_
      refine lv_iconst (v := 0) hx hb dX11_begin_44 rfl ?_
      refine hy_putI (ty := .int) (T := (Mc, M5, Mo)) (T2 := (Mc, (wI M5 30 7 0), Mo)) (o := 30) (k := 7) hx hb hown hts hX hP hS (by decide) rfl rfl rfl rfl inX11g tyX11_ok nmX11 (by decide) q_1199 rfl rfl rfl rfl (Nat.le_of_ble_eq_true rfl) dX11_begin_45 (fun H locs hP hS => ?_)
      obtain ⟨M6, hM6, h⟩ := hy_bind h
      rw [Option.some.inj hM6] at hP
      refine lv_aload_n hx hb dX11_begin_48 rfl (lv_at hl 1 rfl) ?_
      refine lv_iconst (v := 4) hx hb dX11_begin_49 rfl ?_
      refine hy_putI (ty := .int) (T := (Mc, M6, Mo)) (T2 := (Mc, (wI M6 30 11 4), Mo)) (o := 30) (k := 11) hx hb hown hts hX hP hS (by decide) rfl rfl rfl rfl inX11g tyX11_ok nmX11 (by decide) q_1203 rfl rfl rfl rfl (Nat.le_of_ble_eq_true rfl) dX11_begin_50 (fun H locs hP hS => ?_)
      obtain ⟨M7, hM7, h⟩ := hy_bind h
      rw [Option.some.inj hM7] at hP
      refine lv_aload_n hx hb dX11_begin_53 rfl (lv_at hl 1 rfl) ?_
      refine lv_iconst (v := 0) hx hb dX11_begin_54 rfl ?_
      refine hy_putI (ty := .int) (T := (Mc, M7, Mo)) (T2 := (Mc, (wI M7 30 12 0), Mo)) (o := 30) (k := 12) hx hb hown hts hX hP hS (by decide) rfl rfl rfl rfl inX11g tyX11_ok nmX11 (by decide) q_1204 rfl rfl rfl rfl (Nat.le_of_ble_eq_true rfl) dX11_begin_55 (fun H locs hP hS => ?_)
      obtain ⟨M8, hM8, h⟩ := hy_bind h
      rw [Option.some.inj hM8] at hP
      refine lv_aload_n hx hb dX11_begin_58 rfl (lv_at hl 1 rfl) ?_
      refine lv_bipush (v := 80) hx hb dX11_begin_59 rfl ?_
      refine hy_putI (ty := .int) (T := (Mc, M8, Mo)) (T2 := (Mc, (wI M8 30 13 80), Mo)) (o := 30) (k := 13) hx hb hown hts hX hP hS (by decide) rfl rfl rfl rfl inX11g tyX11_ok nmX11 (by decide) q_1205 rfl rfl rfl rfl (Nat.le_of_ble_eq_true rfl) dX11_begin_61 (fun H locs hP hS => ?_)
      obtain ⟨M9, hM9, h⟩ := hy_bind h
      rw [Option.some.inj hM9] at hP
      refine lv_iconst (v := 0) hx hb dX11_begin_64 rfl ?_
      refine lv_istore_n (lv' := [(3, .int 0), (2, .int (M2.1 30 2)), (0, .ref (adr G 30)), (1, .int a1)]) hx hb dX11_begin_65 rfl hl (by decide) rfl (fun ls hl => ?_)
      have L14 : ∀ (f : Nat) (x10 : Int32) (M11 : hyM) (qL : (Int32 × hyM)) (h : Rf_begin_L66  f x10 M11 = some qL) (H : Heap) (locs : List Loc) (ls : Array Slot) (hP : va_P G.1 vwCl (wld G (Mc, M11, Mo)) H) (hS : va_S (hyA G) s.heap H locs) (hl : lv_has ls 4 [(0, .ref (adr G 30)), (1, .int a1), (2, .int (M2.1 30 2)), (3, .int x10)]) (kk : ∀ (y10 : Int32) (NM11 : hyM), qL = (y10, NM11) → ∀ (H : Heap) (locs : List Loc) (ls : Array Slot), va_P G.1 vwCl (wld G (Mc, NM11, Mo)) H → va_S (hyA G) s.heap H locs → lv_has ls 4 [(0, .ref (adr G 30)), (1, .int a1), (2, .int (M2.1 30 2)), (3, .int y10)] → W p l e { frames := 1, cells := 0, slots := 6 * 0, locals := 22 } s m ([.ref (adr G 30), .int a1] : List Value).toArray below meth c H locs 0 0 (vx_MQ below (hyQ G (.inr (some (.int res.1)), (Mc, res.2, Mo))) (hyXQ G (.inr (some (.int res.1)), (Mc, res.2, Mo))) ([.ref (adr G 30), .int a1] : List Value).toArray s 0 (6 * 0) (hyA G)) (F0 m 85 ls [])), W p l e { frames := 1, cells := 0, slots := 6 * 0, locals := 22 } s m ([.ref (adr G 30), .int a1] : List Value).toArray below meth c H locs 0 0 (vx_MQ below (hyQ G (.inr (some (.int res.1)), (Mc, res.2, Mo))) (hyXQ G (.inr (some (.int res.1)), (Mc, res.2, Mo))) ([.ref (adr G 30), .int a1] : List Value).toArray s 0 (6 * 0) (hyA G)) (F0 m 66 ls []) := by
        intro f
        induction f with
        | zero =>
          intro x10 M11 qL h H locs ls hP hS hl kk
          rw [Rf_begin_L66] at h
          cases h
        | succ f ih =>
          intro x10 M11 qL h H locs ls hP hS hl kk
          rw [Rf_begin_L66] at h
          refine lv_iload_n hx hb dX11_begin_66 rfl (lv_at hl 3 rfl) ?_
          refine lv_bipush (v := 96) hx hb dX11_begin_67 rfl ?_
          refine lv_icmp_ge (tgt := 85) hx hb dX11_begin_69 (by decide) (fun c12 => ?_) (fun c12 => ?_)
          · rw [if_pos c12] at h
            exact kk x10 M11 (Option.some.inj h).symm _ _ ls hP hS (lv_sub hl [0, 1, 2, 3] rfl)
          · rw [if_neg c12] at h
            refine lv_aload_n hx hb dX11_begin_72 rfl (lv_at hl 0 rfl) ?_
            refine hy_get (T := (Mc, M11, Mo)) (o := 30) (k := 14) (v := .ref (adr G 38)) hx hb hown hts hX hP (by decide) rfl rfl inX11g (by decide) q_1206 rfl dX11_begin_73 ?_
            refine lv_iload_n hx hb dX11_begin_76 rfl (lv_at hl 3 rfl) ?_
            refine lv_iconst (v := 0) hx hb dX11_begin_77 rfl ?_
            obtain ⟨M13, hM13, h⟩ := hy_bind h
            obtain ⟨nM13, hM13⟩ := stE_some hM13
            refine hy_iast (T := (Mc, M11, Mo)) (T2 := (Mc, (wI M11 38 x10.toNatClampNeg 0), Mo)) hx hb hX hP hS 38 96 (by decide) (fun _ _ => rfl) nM13 rfl dX11_begin_78 (fun H locs hP hS => ?_)
            rw [hM13] at hP
            refine lv_iinc (v := (x10 + 1)) (lv' := [(3, .int (x10 + 1)), (0, .ref (adr G 30)), (1, .int a1), (2, .int (M2.1 30 2))]) hx hb dX11_begin_79 hl (k := 3) rfl rfl (by decide) rfl (fun ls hl => ?_)
            refine lv_goto (tgt := 66) hx hb dX11_begin_82 (by decide) ?_
            exact ih (x10 + 1) M13 _ h  _ _ ls hP hS (lv_sub hl [1, 2, 3, 0] rfl) kk
      obtain ⟨q15, hq15, h⟩ := hy_bind h
      refine L14 hyFu 0 M9 q15 hq15 _ _ ls hP hS (lv_sub hl [2, 3, 1, 0] rfl) ?_
      intro y10 NM11 e9 H locs ls hP hS hl
      subst e9
      try dsimp only at h
      refine lv_iload_n hx hb dX11_begin_85 rfl (lv_at hl 2 rfl) ?_
      exact hy_iret (T := (Mc, NM11, Mo)) hx hb hr hlocks hP hS (Nat.zero_le _) (Nat.zero_le _) (by rw [← (Option.some.inj h)] <;> rfl) dX11_begin_86
    · rw [if_neg c3] at h
      refine lv_iconst (v := 0) hx hb dX11_begin_26 rfl ?_
      exact hy_iret (T := (Mc, M2, Mo)) hx hb hr hlocks hP hS (Nat.zero_le _) (Nat.zero_le _) (by rw [← (Option.some.inj h)] <;> rfl) dX11_begin_27
  refine lv_if_eq (tgt := 15) hx hb dX11_begin_8 (by decide) (fun c1 => ?_) (fun c1 => ?_)
  · refine lv_iconst (v := 1) hx hb dX11_begin_15 rfl ?_
    exact J16 _ _ ls 1 (by rw [(bI_z c1)] <;> rfl) hP hS (lv_sub hl [0, 1] rfl)
  · refine lv_iconst (v := 0) hx hb dX11_begin_11 rfl ?_
    refine lv_goto (tgt := 16) hx hb dX11_begin_12 (by decide) ?_
    exact J16 _ _ ls 0 (by rw [(bI_1 c1)] <;> rfl) hP hS (lv_sub hl [0, 1] rfl)
