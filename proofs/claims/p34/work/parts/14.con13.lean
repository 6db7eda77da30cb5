set_option maxHeartbeats 1000000 in
set_option maxRecDepth 100000 in
theorem c_La_settle {l : Launch} {G : hyG} (Mc Mo : hyM) (M : hyM) {res : hyM} (h : La_settle M = some res) : hyC l yL_settle (.code yL_settle cL_settle 6 none) 3 67 (0) G [.ref (adr G 30), .ref (adr G 31), .ref (adr G 32)] (Mc, M, Mo) (.inr none, (Mc, res, Mo)) := by
  refine hy_of (by decide +kernel) (Nat.le_of_ble_eq_true rfl) ?_
  intro p e s m below meth c hx hb hml hown hts hr hlocks ht hX hP hS ls hl
  have hl : lv_has ls 6 [(0, .ref (adr G 30)), (1, .ref (adr G 31)), (2, .ref (adr G 32))] := hl
  rw [La_settle] at h
  refine lv_iconst (v := 0) hx hb dL_settle_0 rfl ?_
  refine lv_istore_n (lv' := [(3, .int 0), (0, .ref (adr G 30)), (1, .ref (adr G 31)), (2, .ref (adr G 32))]) hx hb dL_settle_1 rfl hl (by decide) rfl (fun ls hl => ?_)
  refine lv_iconst (v := 0) hx hb dL_settle_2 rfl ?_
  refine lv_istore (lv' := [(4, .int 0), (3, .int 0), (0, .ref (adr G 30)), (1, .ref (adr G 31)), (2, .ref (adr G 32))]) hx hb dL_settle_3 hl (by decide) rfl (fun ls hl => ?_)
  have L16 : ∀ (f : Nat) (x1 : Int32) (x2 : Int32) (M3 : hyM) (qL : (Int32 × Int32 × hyM)) (h : La_settle_L5  f x1 x2 M3 = some qL) (H : Heap) (locs : List Loc) (ls : Array Slot) (hP : va_P G.1 vwCl (wld G (Mc, M3, Mo)) H) (hS : va_S (hyA G) s.heap H locs) (hl : lv_has ls 6 [(0, .ref (adr G 30)), (1, .ref (adr G 31)), (2, .ref (adr G 32)), (3, .int x1), (4, .int x2)]) (kk : ∀ (y1 : Int32) (y2 : Int32) (NM3 : hyM), qL = (y1, y2, NM3) → ∀ (H : Heap) (locs : List Loc) (ls : Array Slot), va_P G.1 vwCl (wld G (Mc, NM3, Mo)) H → va_S (hyA G) s.heap H locs → lv_has ls 6 [(0, .ref (adr G 30)), (1, .ref (adr G 31)), (2, .ref (adr G 32)), (3, .int y1), (4, .int y2)] → W p l e { frames := 3, cells := 0, slots := 6 * 0, locals := 67 } s m ([.ref (adr G 30), .ref (adr G 31), .ref (adr G 32)] : List Value).toArray below meth c H locs 0 0 (vx_MQ below (hyQ G (.inr none, (Mc, res, Mo))) (hyXQ G (.inr none, (Mc, res, Mo))) ([.ref (adr G 30), .ref (adr G 31), .ref (adr G 32)] : List Value).toArray s 0 (6 * 0) (hyA G)) (F0 m 73 ls [])), W p l e { frames := 3, cells := 0, slots := 6 * 0, locals := 67 } s m ([.ref (adr G 30), .ref (adr G 31), .ref (adr G 32)] : List Value).toArray below meth c H locs 0 0 (vx_MQ below (hyQ G (.inr none, (Mc, res, Mo))) (hyXQ G (.inr none, (Mc, res, Mo))) ([.ref (adr G 30), .ref (adr G 31), .ref (adr G 32)] : List Value).toArray s 0 (6 * 0) (hyA G)) (F0 m 5 ls []) := by
    intro f
    induction f with
    | zero =>
      intro x1 x2 M3 qL h H locs ls hP hS hl kk
      rw [La_settle_L5] at h
      cases h
    | succ f ih =>
      intro x1 x2 M3 qL h H locs ls hP hS hl kk
      rw [La_settle_L5] at h
      refine lv_iload hx hb dL_settle_5 (lv_at hl 4 rfl) ?_
      refine lv_aload_n hx hb dL_settle_7 rfl (lv_at hl 0 rfl) ?_
      refine lv_iconst (v := 5) hx hb dL_settle_8 rfl ?_
      obtain ⟨v4, hv4, h⟩ := hy_bind h
      obtain ⟨nv4, hv4⟩ := ldE_some hv4
      refine hy_iald (T := (Mc, M3, Mo)) hx hb hX hP 30 6 (M3.1 30) (hy34 G (by decide)) rfl nv4 dL_settle_9 ?_
      rw [hv4]
      refine lv_icmp_ge (tgt := 73) hx hb dL_settle_10 (by decide) (fun c5 => ?_) (fun c5 => ?_)
      · rw [if_pos c5] at h
        exact kk x1 x2 M3 (Option.some.inj h).symm _ _ ls hP hS (lv_sub hl [0, 1, 2, 3, 4] rfl)
      · rw [if_neg c5] at h
        refine lv_aload_n hx hb dL_settle_13 rfl (lv_at hl 2 rfl) ?_
        refine lv_iconst (v := 3) hx hb dL_settle_14 rfl ?_
        refine lv_iload hx hb dL_settle_15 (lv_at hl 4 rfl) ?_
        refine lv_imul hx hb dL_settle_17 ?_
        refine lv_iconst (v := 1) hx hb dL_settle_18 rfl ?_
        refine lv_iadd hx hb dL_settle_19 ?_
        obtain ⟨v6, hv6, h⟩ := hy_bind h
        obtain ⟨nv6, hv6⟩ := ldE_some hv6
        refine hy_iald (T := (Mc, M3, Mo)) hx hb hX hP 32 9 (M3.1 32) (hy34 G (by decide)) rfl nv6 dL_settle_20 ?_
        rw [hv6]
        refine lv_aload_n hx hb dL_settle_21 rfl (lv_at hl 0 rfl) ?_
        refine lv_aload_n hx hb dL_settle_22 rfl (lv_at hl 1 rfl) ?_
        obtain ⟨v7, hv7, h⟩ := hy_bind h
        refine hy_ret (hy_rS0 (T := (Mc, M3, Mo)) (v := some (.int v7)) (T2 := (Mc, M3, Mo)) (As := [.ref (adr G 30), .ref (adr G 31)]) (rest := [.int v6]) (n := 0) hx hb hml hown hts hX hP hS hl (c_La_phrases Mc Mo M3 hv7) m_La_phrases q_650 rfl rfl (Nat.le_of_ble_eq_true rfl) dL_settle_23 ⟨Nat.le_of_ble_eq_true rfl, Nat.le_of_ble_eq_true rfl⟩ ⟨Nat.zero_le _, Nat.zero_le _⟩) hS (fun H locs hP hS => ?_)
        refine lv_icmp_lt (tgt := 32) hx hb dL_settle_26 (by decide) (fun c8 => ?_) (fun c8 => ?_)
        · rw [if_pos c8] at h
          refine lv_iconst (v := 0) hx hb dL_settle_32 rfl ?_
          refine lv_istore (lv' := [(5, .int 0), (0, .ref (adr G 30)), (1, .ref (adr G 31)), (2, .ref (adr G 32)), (3, .int x1), (4, .int x2)]) hx hb dL_settle_33 hl (by decide) rfl (fun ls hl => ?_)
          have L14 : ∀ (f : Nat) (x9 : Int32) (M10 : hyM) (qL : (Int32 × hyM)) (h : La_settle_L35 x1 x2 f x9 M10 = some qL) (H : Heap) (locs : List Loc) (ls : Array Slot) (hP : va_P G.1 vwCl (wld G (Mc, M10, Mo)) H) (hS : va_S (hyA G) s.heap H locs) (hl : lv_has ls 6 [(0, .ref (adr G 30)), (1, .ref (adr G 31)), (2, .ref (adr G 32)), (3, .int x1), (4, .int x2), (5, .int x9)]) (kk : ∀ (y9 : Int32) (NM10 : hyM), qL = (y9, NM10) → ∀ (H : Heap) (locs : List Loc) (ls : Array Slot), va_P G.1 vwCl (wld G (Mc, NM10, Mo)) H → va_S (hyA G) s.heap H locs → lv_has ls 6 [(0, .ref (adr G 30)), (1, .ref (adr G 31)), (2, .ref (adr G 32)), (3, .int x1), (4, .int x2), (5, .int y9)] → W p l e { frames := 3, cells := 0, slots := 6 * 0, locals := 67 } s m ([.ref (adr G 30), .ref (adr G 31), .ref (adr G 32)] : List Value).toArray below meth c H locs 0 0 (vx_MQ below (hyQ G (.inr none, (Mc, res, Mo))) (hyXQ G (.inr none, (Mc, res, Mo))) ([.ref (adr G 30), .ref (adr G 31), .ref (adr G 32)] : List Value).toArray s 0 (6 * 0) (hyA G)) (F0 m 64 ls [])), W p l e { frames := 3, cells := 0, slots := 6 * 0, locals := 67 } s m ([.ref (adr G 30), .ref (adr G 31), .ref (adr G 32)] : List Value).toArray below meth c H locs 0 0 (vx_MQ below (hyQ G (.inr none, (Mc, res, Mo))) (hyXQ G (.inr none, (Mc, res, Mo))) ([.ref (adr G 30), .ref (adr G 31), .ref (adr G 32)] : List Value).toArray s 0 (6 * 0) (hyA G)) (F0 m 35 ls []) := by
            intro f
            induction f with
            | zero =>
              intro x9 M10 qL h H locs ls hP hS hl kk
              rw [La_settle_L35] at h
              cases h
            | succ f ih =>
              intro x9 M10 qL h H locs ls hP hS hl kk
              rw [La_settle_L35] at h
              refine lv_iload hx hb dL_settle_35 (lv_at hl 5 rfl) ?_
              refine lv_iconst (v := 3) hx hb dL_settle_37 rfl ?_
              refine lv_icmp_ge (tgt := 64) hx hb dL_settle_38 (by decide) (fun c11 => ?_) (fun c11 => ?_)
              · rw [if_pos c11] at h
                exact kk x9 M10 (Option.some.inj h).symm _ _ ls hP hS (lv_sub hl [0, 1, 2, 3, 4, 5] rfl)
              · rw [if_neg c11] at h
                refine lv_aload_n hx hb dL_settle_41 rfl (lv_at hl 2 rfl) ?_
                refine lv_iconst (v := 3) hx hb dL_settle_42 rfl ?_
                refine lv_iload_n hx hb dL_settle_43 rfl (lv_at hl 3 rfl) ?_
                refine lv_imul hx hb dL_settle_44 ?_
                refine lv_iload hx hb dL_settle_45 (lv_at hl 5 rfl) ?_
                refine lv_iadd hx hb dL_settle_47 ?_
                refine lv_aload_n hx hb dL_settle_48 rfl (lv_at hl 2 rfl) ?_
                refine lv_iconst (v := 3) hx hb dL_settle_49 rfl ?_
                refine lv_iload hx hb dL_settle_50 (lv_at hl 4 rfl) ?_
                refine lv_imul hx hb dL_settle_52 ?_
                refine lv_iload hx hb dL_settle_53 (lv_at hl 5 rfl) ?_
                refine lv_iadd hx hb dL_settle_55 ?_
                obtain ⟨v12, hv12, h⟩ := hy_bind h
                obtain ⟨nv12, hv12⟩ := ldE_some hv12
                refine hy_iald (T := (Mc, M10, Mo)) hx hb hX hP 32 9 (M10.1 32) (hy34 G (by decide)) rfl nv12 dL_settle_56 ?_
                rw [hv12]
                obtain ⟨M13, hM13, h⟩ := hy_bind h
                obtain ⟨nM13, hM13⟩ := stE_some hM13
                refine hy_iast (T := (Mc, M10, Mo)) (T2 := (Mc, (wI M10 32 ((3 * x1) + x9).toNatClampNeg v12), Mo)) hx hb hX hP hS 32 9 (hy34 G (by decide)) (fun _ _ => rfl) nM13 rfl dL_settle_57 (fun H locs hP hS => ?_)
                rw [hM13] at hP
                refine lv_iinc (v := (x9 + 1)) (lv' := [(5, .int (x9 + 1)), (0, .ref (adr G 30)), (1, .ref (adr G 31)), (2, .ref (adr G 32)), (3, .int x1), (4, .int x2)]) hx hb dL_settle_58 hl (k := 5) rfl rfl (by decide) rfl (fun ls hl => ?_)
                refine lv_goto (tgt := 35) hx hb dL_settle_61 (by decide) ?_
                exact ih (x9 + 1) M13 _ h  _ _ ls hP hS (lv_sub hl [1, 2, 3, 4, 5, 0] rfl) kk
          obtain ⟨q15, hq15, h⟩ := hy_bind h
          refine L14 hyFu 0 M3 q15 hq15 _ _ ls hP hS (lv_sub hl [1, 2, 3, 4, 5, 0] rfl) ?_
          intro y9 NM10 e9 H locs ls hP hS hl
          subst e9
          try dsimp only at h
          refine lv_iinc (v := (x1 + 1)) (lv' := [(3, .int (x1 + 1)), (0, .ref (adr G 30)), (1, .ref (adr G 31)), (2, .ref (adr G 32)), (4, .int x2), (5, .int y9)]) hx hb dL_settle_64 hl (k := 3) rfl rfl (by decide) rfl (fun ls hl => ?_)
          refine lv_iinc (v := (x2 + 1)) (lv' := [(4, .int (x2 + 1)), (3, .int (x1 + 1)), (0, .ref (adr G 30)), (1, .ref (adr G 31)), (2, .ref (adr G 32)), (5, .int y9)]) hx hb dL_settle_67 hl (k := 4) rfl rfl (by decide) rfl (fun ls hl => ?_)
          refine lv_goto (tgt := 5) hx hb dL_settle_70 (by decide) ?_
          exact ih (x1 + 1) (x2 + 1) NM10 _ h  _ _ ls hP hS (lv_sub hl [2, 3, 4, 1, 0] rfl) kk
        · rw [if_neg c8] at h
          refine lv_goto (tgt := 67) hx hb dL_settle_29 (by decide) ?_
          refine lv_iinc (v := (x2 + 1)) (lv' := [(4, .int (x2 + 1)), (0, .ref (adr G 30)), (1, .ref (adr G 31)), (2, .ref (adr G 32)), (3, .int x1)]) hx hb dL_settle_67 hl (k := 4) rfl rfl (by decide) rfl (fun ls hl => ?_)
          refine lv_goto (tgt := 5) hx hb dL_settle_70 (by decide) ?_
          exact ih x1 (x2 + 1) M3 _ h  _ _ ls hP hS (lv_sub hl [1, 2, 3, 4, 0] rfl) kk
  obtain ⟨q18, hq18, h⟩ := hy_bind h
  refine L16 hyFu 0 0 M q18 hq18 _ _ ls hP hS (lv_sub hl [2, 3, 4, 1, 0] rfl) ?_
  intro y1 y2 NM3 e9 H locs ls hP hS hl
  subst e9
  try dsimp only at h
  refine lv_aload_n hx hb dL_settle_73 rfl (lv_at hl 0 rfl) ?_
  refine lv_iconst (v := 5) hx hb dL_settle_74 rfl ?_
  refine lv_iload_n hx hb dL_settle_75 rfl (lv_at hl 3 rfl) ?_
  obtain ⟨M17, hM17, h⟩ := hy_bind h
  obtain ⟨nM17, hM17⟩ := stE_some hM17
  refine hy_iast (T := (Mc, NM3, Mo)) (T2 := (Mc, (wI NM3 30 (5 : Int32).toNatClampNeg y1), Mo)) hx hb hX hP hS 30 6 (hy34 G (by decide)) (fun _ _ => rfl) nM17 rfl dL_settle_76 (fun H locs hP hS => ?_)
  rw [hM17] at hP
  exact hy_vret (T := (Mc, M17, Mo)) hx hb hr hlocks hP hS (Nat.zero_le _) (Nat.zero_le _) (by rw [← (Option.some.inj h)] <;> rfl) dL_settle_77
set_option maxHeartbeats 1000000 in
set_option maxRecDepth 100000 in
theorem c_La_line {l : Launch} {G : hyG} (hlt : l.stackTraces = false) (Mo : hyM) (a1 : Int32) (a2 : Int32) (C : hyM) (M : hyM) {res : (Bool × hyM × hyM)} (h : La_line a1 a2 C M = some res) : hyC l yL_line (.code yL_line cL_line 13 (some .boolean)) 8 160 (0) G [.ref (adr G 0), .int a1, .int a2, .ref (adr G 33)] (C, M, Mo) (.inr (some (.int (bI res.1))), (res.2.1, res.2.2, Mo)) := by
  refine hy_of (by decide +kernel) (Nat.le_of_ble_eq_true rfl) ?_
  intro p e s m below meth c hx hb hml hown hts hr hlocks ht hX hP hS ls hl
  have hl : lv_has ls 13 [(0, .ref (adr G 0)), (1, .int a1), (2, .int a2), (3, .ref (adr G 33))] := hl
  rw [La_line] at h
  refine lv_iload_n hx hb dL_line_0 rfl (lv_at hl 1 rfl) ?_
  refine lv_iconst (v := 2) hx hb dL_line_1 rfl ?_
  obtain ⟨v1, hv1, h⟩ := hy_bind h
  refine hy_ret (hy_rS0 (T := (C, M, Mo)) (v := some (.int v1)) (T2 := (C, M, Mo)) (As := [.int a1, .int 2]) (rest := []) (n := 0) hx hb hml hown hts hX hP hS hl (c_La_at C Mo a1 2 M hv1) m_La_at q_641 rfl rfl (Nat.le_of_ble_eq_true rfl) dL_line_2 ⟨Nat.le_of_ble_eq_true rfl, Nat.le_of_ble_eq_true rfl⟩ ⟨by decide, by decide⟩) hS (fun H locs hP hS => ?_)
  refine lv_istore (lv' := [(4, .int v1), (0, .ref (adr G 0)), (1, .int a1), (2, .int a2), (3, .ref (adr G 33))]) hx hb dL_line_5 hl (by decide) rfl (fun ls hl => ?_)
  refine lv_iload_n hx hb dL_line_7 rfl (lv_at hl 2 rfl) ?_
  refine lv_iconst (v := 1) hx hb dL_line_8 rfl ?_
  refine lv_ishr hx hb dL_line_9 ?_
  refine lv_bipush (v := 8) hx hb dL_line_10 rfl ?_
  obtain ⟨v2, hv2, h⟩ := hy_bind h
  refine hy_ret (hy_rS0 (T := (C, M, Mo)) (v := some (.int v2)) (T2 := (C, M, Mo)) (As := [.int (a1 >>> (1 &&& 31)), .int 8]) (rest := []) (n := 0) hx hb hml hown hts hX hP hS hl (c_La_at C Mo (a1 >>> (1 &&& 31)) 8 M hv2) m_La_at q_641 rfl rfl (Nat.le_of_ble_eq_true rfl) dL_line_12 ⟨Nat.le_of_ble_eq_true rfl, Nat.le_of_ble_eq_true rfl⟩ ⟨by decide, by decide⟩) hS (fun H locs hP hS => ?_)
  refine lv_istore (lv' := [(5, .int v2), (4, .int v1), (0, .ref (adr G 0)), (1, .int a1), (2, .int a2), (3, .ref (adr G 33))]) hx hb dL_line_15 hl (by decide) rfl (fun ls hl => ?_)
  refine lv_iconst (v := 1) hx hb dL_line_17 rfl ?_
  refine lv_iload_n hx hb dL_line_18 rfl (lv_at hl 3 rfl) ?_
  refine lv_iconst (v := 4) hx hb dL_line_19 rfl ?_
  refine lv_ishr hx hb dL_line_20 ?_
  refine lv_bipush (v := 6) hx hb dL_line_21 rfl ?_
  obtain ⟨v3, hv3, h⟩ := hy_bind h
  refine hy_ret (hy_rS0 (T := (C, M, Mo)) (v := some (.int v3)) (T2 := (C, M, Mo)) (As := [.int (a1 >>> (4 &&& 31)), .int 6]) (rest := [.int 1]) (n := 0) hx hb hml hown hts hX hP hS hl (c_La_at C Mo (a1 >>> (4 &&& 31)) 6 M hv3) m_La_at q_641 rfl rfl (Nat.le_of_ble_eq_true rfl) dL_line_23 ⟨Nat.le_of_ble_eq_true rfl, Nat.le_of_ble_eq_true rfl⟩ ⟨by decide, by decide⟩) hS (fun H locs hP hS => ?_)
  refine lv_iadd hx hb dL_line_26 ?_
  refine lv_istore (lv' := [(6, .int (1 + v3)), (5, .int v2), (4, .int v1), (0, .ref (adr G 0)), (1, .int a1), (2, .int a2), (3, .ref (adr G 33))]) hx hb dL_line_27 hl (by decide) rfl (fun ls hl => ?_)
  refine lv_iconst (v := 0) hx hb dL_line_29 rfl ?_
  refine lv_istore (lv' := [(7, .int 0), (6, .int (1 + v3)), (5, .int v2), (4, .int v1), (0, .ref (adr G 0)), (1, .int a1), (2, .int a2), (3, .ref (adr G 33))]) hx hb dL_line_30 hl (by decide) rfl (fun ls hl => ?_)
  refine lv_iconst (v := 0) hx hb dL_line_32 rfl ?_
  refine lv_istore (lv' := [(8, .int 0), (7, .int 0), (6, .int (1 + v3)), (5, .int v2), (4, .int v1), (0, .ref (adr G 0)), (1, .int a1), (2, .int a2), (3, .ref (adr G 33))]) hx hb dL_line_33 hl (by decide) rfl (fun ls hl => ?_)
  refine lv_aload_n hx hb dL_line_35 rfl (lv_at hl 5 rfl) ?_
  obtain ⟨⟨v4, C5⟩, hv4, h⟩ := hy_bind h
  try dsimp only at h
  refine hy_ret (hy_rV0 (T := (C, M, Mo)) (v := some (.int v4)) (T2 := (C5, M, Mo)) (As := []) (rest := []) (n := 0) hx hb hml hown hts hX hP hS hl (c_Hp_clearInput M Mo C (Option.some.inj hv4)) m_Hp_clearInput q_875 (hy_recv hX hP 0 9 (by decide) rfl rfl) rfl rfl (Nat.le_of_ble_eq_true rfl) dL_line_36 ⟨Nat.le_of_ble_eq_true rfl, Nat.le_of_ble_eq_true rfl⟩ ⟨by decide, by decide⟩) hS (fun H locs hP hS => ?_)
  refine lv_pop hx hb dL_line_39 rfl ?_
  refine lv_iconst (v := 0) hx hb dL_line_40 rfl ?_
  refine lv_istore (lv' := [(9, .int 0), (8, .int 0), (7, .int 0), (6, .int (1 + v3)), (5, .int v2), (4, .int v1), (0, .ref (adr G 0)), (1, .int a1), (2, .int a2), (3, .ref (adr G 33))]) hx hb dL_line_41 hl (by decide) rfl (fun ls hl => ?_)
  have L105 : ∀ (f : Nat) (x6 : Int32) (x7 : Int32) (x8 : Int32) (C9 : hyM) (qL : ((Bool × hyM × hyM) ⊕ (Int32 × Int32 × Int32 × hyM))) (h : La_line_L43 a1 a2 M v3 f x6 x7 x8 C9 = some qL) (hq : ∀ r9, qL = .inl r9 → res = r9) (H : Heap) (locs : List Loc) (ls : Array Slot) (hP : va_P G.1 vwCl (wld G (C9, M, Mo)) H) (hS : va_S (hyA G) s.heap H locs) (hl : lv_has ls 13 [(0, .ref (adr G 0)), (1, .int a1), (2, .int a2), (3, .ref (adr G 33)), (4, .int v1), (5, .int v2), (6, .int (1 + v3)), (7, .int x6), (8, .int x7), (9, .int x8)]) (kk : ∀ (y6 : Int32) (y7 : Int32) (y8 : Int32) (NC9 : hyM), qL = .inr (y6, y7, y8, NC9) → ∀ (H : Heap) (locs : List Loc) (ls : Array Slot), va_P G.1 vwCl (wld G (NC9, M, Mo)) H → va_S (hyA G) s.heap H locs → lv_has ls 13 [(0, .ref (adr G 0)), (1, .int a1), (2, .int a2), (3, .ref (adr G 33)), (4, .int v1), (5, .int v2), (6, .int (1 + v3)), (7, .int y6), (8, .int y7), (9, .int y8)] → W p l e { frames := 8, cells := 0, slots := 6 * 0, locals := 160 } s m ([.ref (adr G 0), .int a1, .int a2, .ref (adr G 33)] : List Value).toArray below meth c H locs 0 0 (vx_MQ below (hyQ G (.inr (some (.int (bI res.1))), (res.2.1, res.2.2, Mo))) (hyXQ G (.inr (some (.int (bI res.1))), (res.2.1, res.2.2, Mo))) ([.ref (adr G 0), .int a1, .int a2, .ref (adr G 33)] : List Value).toArray s 0 (6 * 0) (hyA G)) (F0 m 258 ls [])), W p l e { frames := 8, cells := 0, slots := 6 * 0, locals := 160 } s m ([.ref (adr G 0), .int a1, .int a2, .ref (adr G 33)] : List Value).toArray below meth c H locs 0 0 (vx_MQ below (hyQ G (.inr (some (.int (bI res.1))), (res.2.1, res.2.2, Mo))) (hyXQ G (.inr (some (.int (bI res.1))), (res.2.1, res.2.2, Mo))) ([.ref (adr G 0), .int a1, .int a2, .ref (adr G 33)] : List Value).toArray s 0 (6 * 0) (hyA G)) (F0 m 43 ls []) := by
    intro f
    induction f with
    | zero =>
      intro x6 x7 x8 C9 qL h hq H locs ls hP hS hl kk
      rw [La_line_L43] at h
      cases h
    | succ f ih =>
      intro x6 x7 x8 C9 qL h hq H locs ls hP hS hl kk
      rw [La_line_L43] at h
      refine lv_iload hx hb dL_line_43 (lv_at hl 9 rfl) ?_
      refine lv_iload hx hb dL_line_45 (lv_at hl 6 rfl) ?_
      refine lv_icmp_ge (tgt := 258) hx hb dL_line_47 (by decide) (fun c10 => ?_) (fun c10 => ?_)
      · rw [if_pos c10] at h
        exact kk x6 x7 x8 C9 (Option.some.inj h).symm _ _ ls hP hS (lv_sub hl [0, 1, 2, 3, 4, 5, 6, 7, 8, 9] rfl)
      · rw [if_neg c10] at h
        refine lv_iconst (v := 1) hx hb dL_line_50 rfl ?_
        refine lv_iload_n hx hb dL_line_51 rfl (lv_at hl 2 rfl) ?_
        refine lv_iconst (v := 3) hx hb dL_line_52 rfl ?_
        refine lv_iload hx hb dL_line_53 (lv_at hl 9 rfl) ?_
        refine lv_imul hx hb dL_line_55 ?_
        refine lv_ishr hx hb dL_line_56 ?_
        refine lv_iload hx hb dL_line_57 (lv_at hl 9 rfl) ?_
        refine lv_iadd hx hb dL_line_59 ?_
        refine lv_iload_n hx hb dL_line_60 rfl (lv_at hl 2 rfl) ?_
        refine lv_bipush (v := 20) hx hb dL_line_61 rfl ?_
        refine lv_ishr hx hb dL_line_63 ?_
        refine lv_iconst (v := 4) hx hb dL_line_64 rfl ?_
        obtain ⟨v11, hv11, h⟩ := hy_bind h
        refine hy_ret (hy_rS0 (T := (C9, M, Mo)) (v := some (.int v11)) (T2 := (C9, M, Mo)) (As := [.int (a2 >>> (20 &&& 31)), .int 4]) (rest := [.int ((a2 >>> ((3 * x8) &&& 31)) + x8), .int 1]) (n := 0) hx hb hml hown hts hX hP hS hl (c_La_at C9 Mo (a2 >>> (20 &&& 31)) 4 M hv11) m_La_at q_641 rfl rfl (Nat.le_of_ble_eq_true rfl) dL_line_65 ⟨Nat.le_of_ble_eq_true rfl, Nat.le_of_ble_eq_true rfl⟩ ⟨by decide, by decide⟩) hS (fun H locs hP hS => ?_)
        have J104 : ∀ (H : Heap) (locs : List Loc) (ls : Array Slot) (u1 : Int32), u1 = ((if v11 = 0 then 9 else 4) : Int32) → va_P G.1 vwCl (wld G (C9, M, Mo)) H → va_S (hyA G) s.heap H locs → lv_has ls 13 [(0, .ref (adr G 0)), (1, .int a1), (2, .int a2), (3, .ref (adr G 33)), (4, .int v1), (5, .int v2), (6, .int (1 + v3)), (7, .int x6), (8, .int x7), (9, .int x8)] → W p l e { frames := 8, cells := 0, slots := 6 * 0, locals := 160 } s m ([.ref (adr G 0), .int a1, .int a2, .ref (adr G 33)] : List Value).toArray below meth c H locs 0 0 (vx_MQ below (hyQ G (.inr (some (.int (bI res.1))), (res.2.1, res.2.2, Mo))) (hyXQ G (.inr (some (.int (bI res.1))), (res.2.1, res.2.2, Mo))) ([.ref (adr G 0), .int a1, .int a2, .ref (adr G 33)] : List Value).toArray s 0 (6 * 0) (hyA G)) (F0 m 77 ls [.int u1, .int ((a2 >>> ((3 * x8) &&& 31)) + x8), .int 1]) := by
          intro H locs ls u1 eu1 hP hS hl
          subst eu1
          obtain ⟨v13, hv13, h⟩ := hy_bind h
          refine hy_ret (hy_rS0 (T := (C9, M, Mo)) (v := some (.int v13)) (T2 := (C9, M, Mo)) (As := [.int ((a2 >>> ((3 * x8) &&& 31)) + x8), .int ((if v11 = 0 then 9 else 4) : Int32)]) (rest := [.int 1]) (n := 0) hx hb hml hown hts hX hP hS hl (c_La_at C9 Mo ((a2 >>> ((3 * x8) &&& 31)) + x8) ((if v11 = 0 then 9 else 4) : Int32) M hv13) m_La_at q_641 rfl rfl (Nat.le_of_ble_eq_true rfl) dL_line_77 ⟨Nat.le_of_ble_eq_true rfl, Nat.le_of_ble_eq_true rfl⟩ ⟨by decide, by decide⟩) hS (fun H locs hP hS => ?_)
          refine lv_iadd hx hb dL_line_80 ?_
          refine lv_istore (lv' := [(10, .int (1 + v13)), (0, .ref (adr G 0)), (1, .int a1), (2, .int a2), (3, .ref (adr G 33)), (4, .int v1), (5, .int v2), (6, .int (1 + v3)), (7, .int x6), (8, .int x7), (9, .int x8)]) hx hb dL_line_81 hl (by decide) rfl (fun ls hl => ?_)
          refine lv_iload hx hb dL_line_83 (lv_at hl 10 rfl) ?_
          refine lv_iload hx hb dL_line_85 (lv_at hl 7 rfl) ?_
          refine lv_iconst (v := 1) hx hb dL_line_87 rfl ?_
          refine lv_isub hx hb dL_line_88 ?_
          refine lv_icmp_eq (tgt := 106) hx hb dL_line_89 (by decide) (fun c14 => ?_) (fun c14 => ?_)
          · rw [if_pos c14] at h
            refine lv_iconst (v := 1) hx hb dL_line_106 rfl ?_
            refine lv_goto (tgt := 111) hx hb dL_line_107 (by decide) ?_
            refine lv_istore (lv' := [(11, .int 1), (10, .int (1 + v13)), (0, .ref (adr G 0)), (1, .int a1), (2, .int a2), (3, .ref (adr G 33)), (4, .int v1), (5, .int v2), (6, .int (1 + v3)), (7, .int x6), (8, .int x7), (9, .int x8)]) hx hb dL_line_111 hl (by decide) rfl (fun ls hl => ?_)
            refine lv_iload hx hb dL_line_113 (lv_at hl 10 rfl) ?_
            refine lv_iload hx hb dL_line_115 (lv_at hl 1 rfl) ?_
            refine lv_iconst (v := 4) hx hb dL_line_117 rfl ?_
            refine lv_iload hx hb dL_line_118 (lv_at hl 11 rfl) ?_
            refine lv_imul hx hb dL_line_120 ?_
            refine lv_ishl hx hb dL_line_121 ?_
            refine lv_iload hx hb dL_line_122 (lv_at hl 0 rfl) ?_
            refine lv_if_eq (tgt := 137) hx hb dL_line_124 (by decide) (fun c16 => by first | exact absurd c16 (by decide) | exact absurd (by decide) c16) (fun c16 => ?_)
            refine lv_iconst (v := 1) hx hb dL_line_127 rfl ?_
            refine lv_bipush (v := 24) hx hb dL_line_128 rfl ?_
            refine lv_iload hx hb dL_line_130 (lv_at hl 11 rfl) ?_
            refine lv_iadd hx hb dL_line_132 ?_
            refine lv_ishl hx hb dL_line_133 ?_
            refine lv_goto (tgt := 138) hx hb dL_line_134 (by decide) ?_
            refine lv_ior hx hb dL_line_138 ?_
            refine lv_ior hx hb dL_line_139 ?_
            refine lv_istore (lv' := [(8, .int (x7 ||| (((1 + v13) <<< ((4 * x8) &&& 31)) ||| ((1 : Int32) <<< ((24 + x8) &&& 31))))), (11, .int 1), (10, .int (1 + v13)), (0, .ref (adr G 0)), (1, .int a1), (2, .int a2), (3, .ref (adr G 33)), (4, .int v1), (5, .int v2), (6, .int (1 + v3)), (7, .int x6), (9, .int x8)]) hx hb dL_line_140 hl (by decide) rfl (fun ls hl => ?_)
            refine lv_iconst (v := 0) hx hb dL_line_142 rfl ?_
            refine lv_istore (lv' := [(12, .int 0), (8, .int (x7 ||| (((1 + v13) <<< ((4 * x8) &&& 31)) ||| ((1 : Int32) <<< ((24 + x8) &&& 31))))), (11, .int 1), (10, .int (1 + v13)), (0, .ref (adr G 0)), (1, .int a1), (2, .int a2), (3, .ref (adr G 33)), (4, .int v1), (5, .int v2), (6, .int (1 + v3)), (7, .int x6), (9, .int x8)]) hx hb dL_line_143 hl (by decide) rfl (fun ls hl => ?_)
            have L60 : ∀ (f : Nat) (x46 : Int32) (x47 : Int32) (C48 : hyM) (qL : ((Bool × hyM × hyM) ⊕ (Int32 × Int32 × hyM))) (h : La_line_L145b a2 M v13 f x46 x47 C48 = some qL) (hq : ∀ r9, qL = .inl r9 → res = r9) (H : Heap) (locs : List Loc) (ls : Array Slot) (hP : va_P G.1 vwCl (wld G (C48, M, Mo)) H) (hS : va_S (hyA G) s.heap H locs) (hl : lv_has ls 13 [(0, .ref (adr G 0)), (1, .int a1), (2, .int a2), (3, .ref (adr G 33)), (4, .int v1), (5, .int v2), (6, .int (1 + v3)), (7, .int x46), (8, .int (x7 ||| (((1 + v13) <<< ((4 * x8) &&& 31)) ||| ((1 : Int32) <<< ((24 + x8) &&& 31))))), (9, .int x8), (10, .int (1 + v13)), (11, .int 1), (12, .int x47)]) (kk : ∀ (y46 : Int32) (y47 : Int32) (NC48 : hyM), qL = .inr (y46, y47, NC48) → ∀ (H : Heap) (locs : List Loc) (ls : Array Slot), va_P G.1 vwCl (wld G (NC48, M, Mo)) H → va_S (hyA G) s.heap H locs → lv_has ls 13 [(0, .ref (adr G 0)), (1, .int a1), (2, .int a2), (3, .ref (adr G 33)), (4, .int v1), (5, .int v2), (6, .int (1 + v3)), (7, .int y46), (8, .int (x7 ||| (((1 + v13) <<< ((4 * x8) &&& 31)) ||| ((1 : Int32) <<< ((24 + x8) &&& 31))))), (9, .int x8), (10, .int (1 + v13)), (11, .int 1), (12, .int y47)] → W p l e { frames := 8, cells := 0, slots := 6 * 0, locals := 160 } s m ([.ref (adr G 0), .int a1, .int a2, .ref (adr G 33)] : List Value).toArray below meth c H locs 0 0 (vx_MQ below (hyQ G (.inr (some (.int (bI res.1))), (res.2.1, res.2.2, Mo))) (hyXQ G (.inr (some (.int (bI res.1))), (res.2.1, res.2.2, Mo))) ([.ref (adr G 0), .int a1, .int a2, .ref (adr G 33)] : List Value).toArray s 0 (6 * 0) (hyA G)) (F0 m 204 ls [])), W p l e { frames := 8, cells := 0, slots := 6 * 0, locals := 160 } s m ([.ref (adr G 0), .int a1, .int a2, .ref (adr G 33)] : List Value).toArray below meth c H locs 0 0 (vx_MQ below (hyQ G (.inr (some (.int (bI res.1))), (res.2.1, res.2.2, Mo))) (hyXQ G (.inr (some (.int (bI res.1))), (res.2.1, res.2.2, Mo))) ([.ref (adr G 0), .int a1, .int a2, .ref (adr G 33)] : List Value).toArray s 0 (6 * 0) (hyA G)) (F0 m 145 ls []) := by
              intro f
              induction f with
              | zero =>
                intro x46 x47 C48 qL h hq H locs ls hP hS hl kk
                rw [La_line_L145b] at h
                cases h
              | succ f ih =>
                intro x46 x47 C48 qL h hq H locs ls hP hS hl kk
                rw [La_line_L145b] at h
                refine lv_iload hx hb dL_line_145 (lv_at hl 12 rfl) ?_
                refine lv_iload hx hb dL_line_147 (lv_at hl 10 rfl) ?_
                refine lv_icmp_ge (tgt := 204) hx hb dL_line_149 (by decide) (fun c49 => ?_) (fun c49 => ?_)
                · rw [if_pos c49] at h
                  exact kk x46 x47 C48 (Option.some.inj h).symm _ _ ls hP hS (lv_sub hl [0, 1, 2, 3, 4, 5, 6, 7, 8, 9, 10, 11, 12] rfl)
                · rw [if_neg c49] at h
                  refine lv_aload_n hx hb dL_line_152 rfl (lv_at hl 0 rfl) ?_
                  refine lv_iload hx hb dL_line_153 (lv_at hl 12 rfl) ?_
                  refine lv_if_ne (tgt := 166) hx hb dL_line_155 (by decide) (fun c50 => ?_) (fun c50 => ?_)
                  · rw [if_neg c50] at h
                    refine lv_iload_n hx hb dL_line_166 rfl (lv_at hl 2 rfl) ?_
                    refine lv_iload hx hb dL_line_167 (lv_at hl 12 rfl) ?_
                    refine lv_ishr hx hb dL_line_169 ?_
                    refine lv_bipush (v := 9) hx hb dL_line_170 rfl ?_
                    obtain ⟨v51, hv51, h⟩ := hy_bind h
                    refine hy_ret (hy_rS0 (T := (C48, M, Mo)) (v := some (.int v51)) (T2 := (C48, M, Mo)) (As := [.int (a2 >>> (x47 &&& 31)), .int 9]) (rest := [.ref (adr G 0)]) (n := 0) hx hb hml hown hts hX hP hS hl (c_La_at C48 Mo (a2 >>> (x47 &&& 31)) 9 M hv51) m_La_at q_641 rfl rfl (Nat.le_of_ble_eq_true rfl) dL_line_172 ⟨Nat.le_of_ble_eq_true rfl, Nat.le_of_ble_eq_true rfl⟩ ⟨by decide, by decide⟩) hS (fun H locs hP hS => ?_)
                    have J56 : ∀ (H : Heap) (locs : List Loc) (ls : Array Slot) (u1 : Int32), u1 = ((if v51 = 0 then 39 else 77) : Int32) → va_P G.1 vwCl (wld G (C48, M, Mo)) H → va_S (hyA G) s.heap H locs → lv_has ls 13 [(0, .ref (adr G 0)), (1, .int a1), (2, .int a2), (3, .ref (adr G 33)), (4, .int v1), (5, .int v2), (6, .int (1 + v3)), (7, .int x46), (8, .int (x7 ||| (((1 + v13) <<< ((4 * x8) &&& 31)) ||| ((1 : Int32) <<< ((24 + x8) &&& 31))))), (9, .int x8), (10, .int (1 + v13)), (11, .int 1), (12, .int x47)] → W p l e { frames := 8, cells := 0, slots := 6 * 0, locals := 160 } s m ([.ref (adr G 0), .int a1, .int a2, .ref (adr G 33)] : List Value).toArray below meth c H locs 0 0 (vx_MQ below (hyQ G (.inr (some (.int (bI res.1))), (res.2.1, res.2.2, Mo))) (hyXQ G (.inr (some (.int (bI res.1))), (res.2.1, res.2.2, Mo))) ([.ref (adr G 0), .int a1, .int a2, .ref (adr G 33)] : List Value).toArray s 0 (6 * 0) (hyA G)) (F0 m 185 ls [.int u1, .ref (adr G 0)]) := by
                      intro H locs ls u1 eu1 hP hS hl
                      subst eu1
                      obtain ⟨⟨v53, C54⟩, hv53, h⟩ := hy_bind h
                      try dsimp only at h
                      refine hy_ret (hy_rV0 (T := (C48, M, Mo)) (v := some (.int v53)) (T2 := (C54, M, Mo)) (As := [.int ((if v51 = 0 then 39 else 77) : Int32)]) (rest := []) (n := 0) hx hb hml hown hts hX hP hS hl (c_Hp_append hlt M Mo ((if v51 = 0 then 39 else 77) : Int32) C48 (res := (.inr v53, C54)) (rtM_some hv53)) m_Hp_append q_879 (hy_recv hX hP 0 9 (by decide) rfl rfl) rfl rfl (Nat.le_of_ble_eq_true rfl) dL_line_185 ⟨Nat.le_of_ble_eq_true rfl, Nat.le_of_ble_eq_true rfl⟩ ⟨by decide, by decide⟩) hS (fun H locs hP hS => ?_)
                      refine lv_iinc (v := (x46 + 1)) (lv' := [(7, .int (x46 + 1)), (0, .ref (adr G 0)), (1, .int a1), (2, .int a2), (3, .ref (adr G 33)), (4, .int v1), (5, .int v2), (6, .int (1 + v3)), (8, .int (x7 ||| (((1 + v13) <<< ((4 * x8) &&& 31)) ||| ((1 : Int32) <<< ((24 + x8) &&& 31))))), (9, .int x8), (10, .int (1 + v13)), (11, .int 1), (12, .int x47)]) hx hb dL_line_188 hl (k := 7) rfl rfl (by decide) rfl (fun ls hl => ?_)
                      refine lv_iload hx hb dL_line_191 (lv_at hl 0 rfl) ?_
                      refine lv_icmp_eq (tgt := 198) hx hb dL_line_193 (by decide) (fun c55 => ?_) (fun c55 => ?_)
                      · rw [if_pos c55] at h
                        refine lv_iinc (v := (x47 + 1)) (lv' := [(12, .int (x47 + 1)), (7, .int (x46 + 1)), (0, .ref (adr G 0)), (1, .int a1), (2, .int a2), (3, .ref (adr G 33)), (4, .int v1), (5, .int v2), (6, .int (1 + v3)), (8, .int (x7 ||| (((1 + v13) <<< ((4 * x8) &&& 31)) ||| ((1 : Int32) <<< ((24 + x8) &&& 31))))), (9, .int x8), (10, .int (1 + v13)), (11, .int 1)]) hx hb dL_line_198 hl (k := 12) rfl rfl (by decide) rfl (fun ls hl => ?_)
                        refine lv_goto (tgt := 145) hx hb dL_line_201 (by decide) ?_
                        exact ih (x46 + 1) (x47 + 1) C54 _ h hq _ _ ls hP hS (lv_sub hl [2, 3, 4, 5, 6, 7, 8, 1, 9, 10, 11, 12, 0] rfl) kk
                      · rw [if_neg c55] at h
                        refine lv_iconst (v := 0) hx hb dL_line_196 rfl ?_
                        exact hy_zret (T := (C54, M, Mo)) hx hb hr hlocks hP hS (by decide) (by decide) (bI_nar false) (by rw [← (hq _ (Option.some.inj h).symm).symm] <;> rfl) dL_line_197
                    refine lv_if_ne (tgt := 183) hx hb dL_line_175 (by decide) (fun c52 => ?_) (fun c52 => ?_)
                    · refine lv_bipush (v := 77) hx hb dL_line_183 rfl ?_
                      exact J56 _ _ ls 77 (by rw [if_neg c52] <;> rfl) hP hS (lv_sub hl [0, 1, 2, 3, 4, 5, 6, 7, 8, 9, 10, 11, 12] rfl)
                    · refine lv_bipush (v := 39) hx hb dL_line_178 rfl ?_
                      refine lv_goto (tgt := 185) hx hb dL_line_180 (by decide) ?_
                      exact J56 _ _ ls 39 (by rw [if_pos c52] <;> rfl) hP hS (lv_sub hl [0, 1, 2, 3, 4, 5, 6, 7, 8, 9, 10, 11, 12] rfl)
                  · rw [if_pos (c50)] at h
                    refine lv_bipush (v := 97) hx hb dL_line_158 rfl ?_
                    refine lv_iload hx hb dL_line_160 (lv_at hl 10 rfl) ?_
                    refine lv_iadd hx hb dL_line_162 ?_
                    refine lv_goto (tgt := 185) hx hb dL_line_163 (by decide) ?_
                    obtain ⟨⟨v57, C58⟩, hv57, h⟩ := hy_bind h
                    try dsimp only at h
                    refine hy_ret (hy_rV0 (T := (C48, M, Mo)) (v := some (.int v57)) (T2 := (C58, M, Mo)) (As := [.int (97 + (1 + v13))]) (rest := []) (n := 0) hx hb hml hown hts hX hP hS hl (c_Hp_append hlt M Mo (97 + (1 + v13)) C48 (res := (.inr v57, C58)) (rtM_some hv57)) m_Hp_append q_879 (hy_recv hX hP 0 9 (by decide) rfl rfl) rfl rfl (Nat.le_of_ble_eq_true rfl) dL_line_185 ⟨Nat.le_of_ble_eq_true rfl, Nat.le_of_ble_eq_true rfl⟩ ⟨by decide, by decide⟩) hS (fun H locs hP hS => ?_)
                    refine lv_iinc (v := (x46 + 1)) (lv' := [(7, .int (x46 + 1)), (0, .ref (adr G 0)), (1, .int a1), (2, .int a2), (3, .ref (adr G 33)), (4, .int v1), (5, .int v2), (6, .int (1 + v3)), (8, .int (x7 ||| (((1 + v13) <<< ((4 * x8) &&& 31)) ||| ((1 : Int32) <<< ((24 + x8) &&& 31))))), (9, .int x8), (10, .int (1 + v13)), (11, .int 1), (12, .int x47)]) hx hb dL_line_188 hl (k := 7) rfl rfl (by decide) rfl (fun ls hl => ?_)
                    refine lv_iload hx hb dL_line_191 (lv_at hl 0 rfl) ?_
                    refine lv_icmp_eq (tgt := 198) hx hb dL_line_193 (by decide) (fun c59 => ?_) (fun c59 => ?_)
                    · rw [if_pos c59] at h
                      refine lv_iinc (v := (x47 + 1)) (lv' := [(12, .int (x47 + 1)), (7, .int (x46 + 1)), (0, .ref (adr G 0)), (1, .int a1), (2, .int a2), (3, .ref (adr G 33)), (4, .int v1), (5, .int v2), (6, .int (1 + v3)), (8, .int (x7 ||| (((1 + v13) <<< ((4 * x8) &&& 31)) ||| ((1 : Int32) <<< ((24 + x8) &&& 31))))), (9, .int x8), (10, .int (1 + v13)), (11, .int 1)]) hx hb dL_line_198 hl (k := 12) rfl rfl (by decide) rfl (fun ls hl => ?_)
                      refine lv_goto (tgt := 145) hx hb dL_line_201 (by decide) ?_
                      exact ih (x46 + 1) (x47 + 1) C58 _ h hq _ _ ls hP hS (lv_sub hl [2, 3, 4, 5, 6, 7, 8, 1, 9, 10, 11, 12, 0] rfl) kk
                    · rw [if_neg c59] at h
                      refine lv_iconst (v := 0) hx hb dL_line_196 rfl ?_
                      exact hy_zret (T := (C58, M, Mo)) hx hb hr hlocks hP hS (by decide) (by decide) (bI_nar false) (by rw [← (hq _ (Option.some.inj h).symm).symm] <;> rfl) dL_line_197
            obtain ⟨q74, hq74, h⟩ := hy_bind h
            refine L60 hyFu x6 0 C9 q74 hq74 (fun r9 e9 => by subst e9; exact (hq _ (Option.some.inj h).symm)) _ _ ls hP hS (lv_sub hl [4, 5, 6, 7, 8, 9, 10, 11, 1, 12, 3, 2, 0] rfl) ?_
            intro y46 y47 NC48 e9 H locs ls hP hS hl
            subst e9
            try dsimp only at h
            refine lv_iload hx hb dL_line_204 (lv_at hl 9 rfl) ?_
            refine lv_iload hx hb dL_line_206 (lv_at hl 6 rfl) ?_
            refine lv_iconst (v := 1) hx hb dL_line_208 rfl ?_
            refine lv_isub hx hb dL_line_209 ?_
            refine lv_icmp_ne (tgt := 216) hx hb dL_line_210 (by decide) (fun c61 => ?_) (fun c61 => ?_)
            · rw [if_neg c61] at h
              refine lv_aload_n hx hb dL_line_216 rfl (lv_at hl 0 rfl) ?_
              refine lv_iload hx hb dL_line_217 (lv_at hl 11 rfl) ?_
              refine lv_if_eq (tgt := 227) hx hb dL_line_219 (by decide) (fun c63 => by first | exact absurd c63 (by decide) | exact absurd (by decide) c63) (fun c63 => ?_)
              refine lv_bipush (v := 32) hx hb dL_line_222 rfl ?_
              refine lv_goto (tgt := 229) hx hb dL_line_224 (by decide) ?_
              obtain ⟨⟨v69, C70⟩, hv69, h⟩ := hy_bind h
              try dsimp only at h
              refine hy_ret (hy_rV0 (T := (NC48, M, Mo)) (v := some (.int v69)) (T2 := (C70, M, Mo)) (As := [.int 32]) (rest := []) (n := 0) hx hb hml hown hts hX hP hS hl (c_Hp_append hlt M Mo 32 NC48 (res := (.inr v69, C70)) (rtM_some hv69)) m_Hp_append q_879 (hy_recv hX hP 0 9 (by decide) rfl rfl) rfl rfl (Nat.le_of_ble_eq_true rfl) dL_line_229 ⟨Nat.le_of_ble_eq_true rfl, Nat.le_of_ble_eq_true rfl⟩ ⟨by decide, by decide⟩) hS (fun H locs hP hS => ?_)
              refine lv_iinc (v := (y46 + 1)) (lv' := [(7, .int (y46 + 1)), (0, .ref (adr G 0)), (1, .int a1), (2, .int a2), (3, .ref (adr G 33)), (4, .int v1), (5, .int v2), (6, .int (1 + v3)), (8, .int (x7 ||| (((1 + v13) <<< ((4 * x8) &&& 31)) ||| ((1 : Int32) <<< ((24 + x8) &&& 31))))), (9, .int x8), (10, .int (1 + v13)), (11, .int 1), (12, .int y47)]) hx hb dL_line_232 hl (k := 7) rfl rfl (by decide) rfl (fun ls hl => ?_)
              refine lv_iload hx hb dL_line_235 (lv_at hl 0 rfl) ?_
              refine lv_icmp_ne (tgt := 250) hx hb dL_line_237 (by decide) (fun c71 => ?_) (fun c71 => ?_)
              · rw [if_neg c71] at h
                refine lv_iconst (v := 0) hx hb dL_line_250 rfl ?_
                exact hy_zret (T := (C70, M, Mo)) hx hb hr hlocks hP hS (by decide) (by decide) (bI_nar false) (by rw [← (hq _ (Option.some.inj h).symm).symm] <;> rfl) dL_line_251
              · rw [if_pos (c71)] at h
                refine lv_aload_n hx hb dL_line_240 rfl (lv_at hl 1 rfl) ?_
                refine lv_iconst (v := 0) hx hb dL_line_241 rfl ?_
                obtain ⟨v72, hv72, h⟩ := hy_bind h
                refine hy_ret (hy_rV0 (T := (C70, M, Mo)) (v := some (.int v72)) (T2 := (C70, M, Mo)) (As := [.int 0]) (rest := []) (n := 0) hx hb hml hown hts hX hP hS hl (c_Hp_firstError M Mo false C70 hv72) m_Hp_firstError q_904 (hy_recv hX hP 0 9 (by decide) rfl rfl) rfl rfl (Nat.le_of_ble_eq_true rfl) dL_line_242 ⟨Nat.le_of_ble_eq_true rfl, Nat.le_of_ble_eq_true rfl⟩ ⟨by decide, by decide⟩) hS (fun H locs hP hS => ?_)
                refine lv_iload hx hb dL_line_245 (lv_at hl 0 rfl) ?_
                refine lv_icmp_eq (tgt := 252) hx hb dL_line_247 (by decide) (fun c73 => ?_) (fun c73 => ?_)
                · rw [if_pos c73] at h
                  refine lv_iinc (v := (x8 + 1)) (lv' := [(9, .int (x8 + 1)), (7, .int (y46 + 1)), (0, .ref (adr G 0)), (1, .int a1), (2, .int a2), (3, .ref (adr G 33)), (4, .int v1), (5, .int v2), (6, .int (1 + v3)), (8, .int (x7 ||| (((1 + v13) <<< ((4 * x8) &&& 31)) ||| ((1 : Int32) <<< ((24 + x8) &&& 31))))), (10, .int (1 + v13)), (11, .int 1), (12, .int y47)]) hx hb dL_line_252 hl (k := 9) rfl rfl (by decide) rfl (fun ls hl => ?_)
                  refine lv_goto (tgt := 43) hx hb dL_line_255 (by decide) ?_
                  exact ih (y46 + 1) (x7 ||| (((1 + v13) <<< ((4 * x8) &&& 31)) ||| ((1 : Int32) <<< ((24 + x8) &&& 31)))) (x8 + 1) C70 _ h hq _ _ ls hP hS (lv_sub hl [2, 3, 4, 5, 6, 7, 8, 1, 9, 0] rfl) kk
                · rw [if_neg c73] at h
                  refine lv_iconst (v := 0) hx hb dL_line_250 rfl ?_
                  exact hy_zret (T := (C70, M, Mo)) hx hb hr hlocks hP hS (by decide) (by decide) (bI_nar false) (by rw [← (hq _ (Option.some.inj h).symm).symm] <;> rfl) dL_line_251
            · rw [if_pos (c61)] at h
              refine lv_goto (tgt := 252) hx hb dL_line_213 (by decide) ?_
              refine lv_iinc (v := (x8 + 1)) (lv' := [(9, .int (x8 + 1)), (0, .ref (adr G 0)), (1, .int a1), (2, .int a2), (3, .ref (adr G 33)), (4, .int v1), (5, .int v2), (6, .int (1 + v3)), (7, .int y46), (8, .int (x7 ||| (((1 + v13) <<< ((4 * x8) &&& 31)) ||| ((1 : Int32) <<< ((24 + x8) &&& 31))))), (10, .int (1 + v13)), (11, .int 1), (12, .int y47)]) hx hb dL_line_252 hl (k := 9) rfl rfl (by decide) rfl (fun ls hl => ?_)
              refine lv_goto (tgt := 43) hx hb dL_line_255 (by decide) ?_
              exact ih y46 (x7 ||| (((1 + v13) <<< ((4 * x8) &&& 31)) ||| ((1 : Int32) <<< ((24 + x8) &&& 31)))) (x8 + 1) NC48 _ h hq _ _ ls hP hS (lv_sub hl [1, 2, 3, 4, 5, 6, 7, 8, 9, 0] rfl) kk
          · rw [if_neg c14] at h
            refine lv_iload_n hx hb dL_line_92 rfl (lv_at hl 2 rfl) ?_
            refine lv_iload hx hb dL_line_93 (lv_at hl 10 rfl) ?_
            refine lv_bipush (v := 7) hx hb dL_line_95 rfl ?_
            refine lv_iadd hx hb dL_line_97 ?_
            refine lv_ishr hx hb dL_line_98 ?_
            refine lv_iconst (v := 2) hx hb dL_line_99 rfl ?_
            obtain ⟨v75, hv75, h⟩ := hy_bind h
            refine hy_ret (hy_rS0 (T := (C9, M, Mo)) (v := some (.int v75)) (T2 := (C9, M, Mo)) (As := [.int (a1 >>> ((x8 + 7) &&& 31)), .int 2]) (rest := []) (n := 0) hx hb hml hown hts hX hP hS hl (c_La_at C9 Mo (a1 >>> ((x8 + 7) &&& 31)) 2 M hv75) m_La_at q_641 rfl rfl (Nat.le_of_ble_eq_true rfl) dL_line_100 ⟨Nat.le_of_ble_eq_true rfl, Nat.le_of_ble_eq_true rfl⟩ ⟨by decide, by decide⟩) hS (fun H locs hP hS => ?_)
            have J103 : ∀ (H : Heap) (locs : List Loc) (ls : Array Slot) (u1 : Int32), u1 = (bI (decide (v75 = 0))) → va_P G.1 vwCl (wld G (C9, M, Mo)) H → va_S (hyA G) s.heap H locs → lv_has ls 13 [(0, .ref (adr G 0)), (1, .int a1), (2, .int a2), (3, .ref (adr G 33)), (4, .int v1), (5, .int v2), (6, .int (1 + v3)), (7, .int x6), (8, .int x7), (9, .int x8), (10, .int (1 + v13))] → W p l e { frames := 8, cells := 0, slots := 6 * 0, locals := 160 } s m ([.ref (adr G 0), .int a1, .int a2, .ref (adr G 33)] : List Value).toArray below meth c H locs 0 0 (vx_MQ below (hyQ G (.inr (some (.int (bI res.1))), (res.2.1, res.2.2, Mo))) (hyXQ G (.inr (some (.int (bI res.1))), (res.2.1, res.2.2, Mo))) ([.ref (adr G 0), .int a1, .int a2, .ref (adr G 33)] : List Value).toArray s 0 (6 * 0) (hyA G)) (F0 m 111 ls [.int u1]) := by
              intro H locs ls u1 eu1 hP hS hl
              subst eu1
              refine lv_istore (lv' := [(11, .int (bI (decide (v75 = 0)))), (0, .ref (adr G 0)), (1, .int a1), (2, .int a2), (3, .ref (adr G 33)), (4, .int v1), (5, .int v2), (6, .int (1 + v3)), (7, .int x6), (8, .int x7), (9, .int x8), (10, .int (1 + v13))]) hx hb dL_line_111 hl (by decide) rfl (fun ls hl => ?_)
              refine lv_iload hx hb dL_line_113 (lv_at hl 9 rfl) ?_
              refine lv_iload hx hb dL_line_115 (lv_at hl 11 rfl) ?_
              refine lv_iconst (v := 4) hx hb dL_line_117 rfl ?_
              refine lv_iload hx hb dL_line_118 (lv_at hl 10 rfl) ?_
              refine lv_imul hx hb dL_line_120 ?_
              refine lv_ishl hx hb dL_line_121 ?_
              refine lv_iload hx hb dL_line_122 (lv_at hl 0 rfl) ?_
              have J102 : ∀ (H : Heap) (locs : List Loc) (ls : Array Slot) (u1 : Int32), u1 = ((if (decide (v75 = 0)) then ((1 : Int32) <<< ((24 + x8) &&& 31)) else 0) : Int32) → va_P G.1 vwCl (wld G (C9, M, Mo)) H → va_S (hyA G) s.heap H locs → lv_has ls 13 [(0, .ref (adr G 0)), (1, .int a1), (2, .int a2), (3, .ref (adr G 33)), (4, .int v1), (5, .int v2), (6, .int (1 + v3)), (7, .int x6), (8, .int x7), (9, .int x8), (10, .int (1 + v13)), (11, .int (bI (decide (v75 = 0))))] → W p l e { frames := 8, cells := 0, slots := 6 * 0, locals := 160 } s m ([.ref (adr G 0), .int a1, .int a2, .ref (adr G 33)] : List Value).toArray below meth c H locs 0 0 (vx_MQ below (hyQ G (.inr (some (.int (bI res.1))), (res.2.1, res.2.2, Mo))) (hyXQ G (.inr (some (.int (bI res.1))), (res.2.1, res.2.2, Mo))) ([.ref (adr G 0), .int a1, .int a2, .ref (adr G 33)] : List Value).toArray s 0 (6 * 0) (hyA G)) (F0 m 138 ls [.int u1, .int ((1 + v13) <<< ((4 * x8) &&& 31)), .int x7]) := by
                intro H locs ls u1 eu1 hP hS hl
                subst eu1
                refine lv_ior hx hb dL_line_138 ?_
                refine lv_ior hx hb dL_line_139 ?_
                refine lv_istore (lv' := [(8, .int (x7 ||| (((1 + v13) <<< ((4 * x8) &&& 31)) ||| ((if (decide (v75 = 0)) then ((1 : Int32) <<< ((24 + x8) &&& 31)) else 0) : Int32)))), (0, .ref (adr G 0)), (1, .int a1), (2, .int a2), (3, .ref (adr G 33)), (4, .int v1), (5, .int v2), (6, .int (1 + v3)), (7, .int x6), (9, .int x8), (10, .int (1 + v13)), (11, .int (bI (decide (v75 = 0))))]) hx hb dL_line_140 hl (by decide) rfl (fun ls hl => ?_)
                refine lv_iconst (v := 0) hx hb dL_line_142 rfl ?_
                refine lv_istore (lv' := [(12, .int 0), (8, .int (x7 ||| (((1 + v13) <<< ((4 * x8) &&& 31)) ||| ((if (decide (v75 = 0)) then ((1 : Int32) <<< ((24 + x8) &&& 31)) else 0) : Int32)))), (0, .ref (adr G 0)), (1, .int a1), (2, .int a2), (3, .ref (adr G 33)), (4, .int v1), (5, .int v2), (6, .int (1 + v3)), (7, .int x6), (9, .int x8), (10, .int (1 + v13)), (11, .int (bI (decide (v75 = 0))))]) hx hb dL_line_143 hl (by decide) rfl (fun ls hl => ?_)
                have L92 : ∀ (f : Nat) (x78 : Int32) (x79 : Int32) (C80 : hyM) (qL : ((Bool × hyM × hyM) ⊕ (Int32 × Int32 × hyM))) (h : La_line_L145bb a2 M v13 f x78 x79 C80 = some qL) (hq : ∀ r9, qL = .inl r9 → res = r9) (H : Heap) (locs : List Loc) (ls : Array Slot) (hP : va_P G.1 vwCl (wld G (C80, M, Mo)) H) (hS : va_S (hyA G) s.heap H locs) (hl : lv_has ls 13 [(0, .ref (adr G 0)), (1, .int a1), (2, .int a2), (3, .ref (adr G 33)), (4, .int v1), (5, .int v2), (6, .int (1 + v3)), (7, .int x78), (8, .int (x7 ||| (((1 + v13) <<< ((4 * x8) &&& 31)) ||| ((if (decide (v75 = 0)) then ((1 : Int32) <<< ((24 + x8) &&& 31)) else 0) : Int32)))), (9, .int x8), (10, .int (1 + v13)), (11, .int (bI (decide (v75 = 0)))), (12, .int x79)]) (kk : ∀ (y78 : Int32) (y79 : Int32) (NC80 : hyM), qL = .inr (y78, y79, NC80) → ∀ (H : Heap) (locs : List Loc) (ls : Array Slot), va_P G.1 vwCl (wld G (NC80, M, Mo)) H → va_S (hyA G) s.heap H locs → lv_has ls 13 [(0, .ref (adr G 0)), (1, .int a1), (2, .int a2), (3, .ref (adr G 33)), (4, .int v1), (5, .int v2), (6, .int (1 + v3)), (7, .int y78), (8, .int (x7 ||| (((1 + v13) <<< ((4 * x8) &&& 31)) ||| ((if (decide (v75 = 0)) then ((1 : Int32) <<< ((24 + x8) &&& 31)) else 0) : Int32)))), (9, .int x8), (10, .int (1 + v13)), (11, .int (bI (decide (v75 = 0)))), (12, .int y79)] → W p l e { frames := 8, cells := 0, slots := 6 * 0, locals := 160 } s m ([.ref (adr G 0), .int a1, .int a2, .ref (adr G 33)] : List Value).toArray below meth c H locs 0 0 (vx_MQ below (hyQ G (.inr (some (.int (bI res.1))), (res.2.1, res.2.2, Mo))) (hyXQ G (.inr (some (.int (bI res.1))), (res.2.1, res.2.2, Mo))) ([.ref (adr G 0), .int a1, .int a2, .ref (adr G 33)] : List Value).toArray s 0 (6 * 0) (hyA G)) (F0 m 204 ls [])), W p l e { frames := 8, cells := 0, slots := 6 * 0, locals := 160 } s m ([.ref (adr G 0), .int a1, .int a2, .ref (adr G 33)] : List Value).toArray below meth c H locs 0 0 (vx_MQ below (hyQ G (.inr (some (.int (bI res.1))), (res.2.1, res.2.2, Mo))) (hyXQ G (.inr (some (.int (bI res.1))), (res.2.1, res.2.2, Mo))) ([.ref (adr G 0), .int a1, .int a2, .ref (adr G 33)] : List Value).toArray s 0 (6 * 0) (hyA G)) (F0 m 145 ls []) := by
                  intro f
                  induction f with
                  | zero =>
                    intro x78 x79 C80 qL h hq H locs ls hP hS hl kk
                    rw [La_line_L145bb] at h
                    cases h
                  | succ f ih =>
                    intro x78 x79 C80 qL h hq H locs ls hP hS hl kk
                    rw [La_line_L145bb] at h
                    refine lv_iload hx hb dL_line_145 (lv_at hl 12 rfl) ?_
                    refine lv_iload hx hb dL_line_147 (lv_at hl 10 rfl) ?_
                    refine lv_icmp_ge (tgt := 204) hx hb dL_line_149 (by decide) (fun c81 => ?_) (fun c81 => ?_)
                    · rw [if_pos c81] at h
                      exact kk x78 x79 C80 (Option.some.inj h).symm _ _ ls hP hS (lv_sub hl [0, 1, 2, 3, 4, 5, 6, 7, 8, 9, 10, 11, 12] rfl)
                    · rw [if_neg c81] at h
                      refine lv_aload_n hx hb dL_line_152 rfl (lv_at hl 0 rfl) ?_
                      refine lv_iload hx hb dL_line_153 (lv_at hl 12 rfl) ?_
                      refine lv_if_ne (tgt := 166) hx hb dL_line_155 (by decide) (fun c82 => ?_) (fun c82 => ?_)
                      · rw [if_neg c82] at h
                        refine lv_iload_n hx hb dL_line_166 rfl (lv_at hl 2 rfl) ?_
                        refine lv_iload hx hb dL_line_167 (lv_at hl 12 rfl) ?_
                        refine lv_ishr hx hb dL_line_169 ?_
                        refine lv_bipush (v := 9) hx hb dL_line_170 rfl ?_
                        obtain ⟨v83, hv83, h⟩ := hy_bind h
                        refine hy_ret (hy_rS0 (T := (C80, M, Mo)) (v := some (.int v83)) (T2 := (C80, M, Mo)) (As := [.int (a2 >>> (x79 &&& 31)), .int 9]) (rest := [.ref (adr G 0)]) (n := 0) hx hb hml hown hts hX hP hS hl (c_La_at C80 Mo (a2 >>> (x79 &&& 31)) 9 M hv83) m_La_at q_641 rfl rfl (Nat.le_of_ble_eq_true rfl) dL_line_172 ⟨Nat.le_of_ble_eq_true rfl, Nat.le_of_ble_eq_true rfl⟩ ⟨by decide, by decide⟩) hS (fun H locs hP hS => ?_)
                        have J88 : ∀ (H : Heap) (locs : List Loc) (ls : Array Slot) (u1 : Int32), u1 = ((if v83 = 0 then 39 else 77) : Int32) → va_P G.1 vwCl (wld G (C80, M, Mo)) H → va_S (hyA G) s.heap H locs → lv_has ls 13 [(0, .ref (adr G 0)), (1, .int a1), (2, .int a2), (3, .ref (adr G 33)), (4, .int v1), (5, .int v2), (6, .int (1 + v3)), (7, .int x78), (8, .int (x7 ||| (((1 + v13) <<< ((4 * x8) &&& 31)) ||| ((if (decide (v75 = 0)) then ((1 : Int32) <<< ((24 + x8) &&& 31)) else 0) : Int32)))), (9, .int x8), (10, .int (1 + v13)), (11, .int (bI (decide (v75 = 0)))), (12, .int x79)] → W p l e { frames := 8, cells := 0, slots := 6 * 0, locals := 160 } s m ([.ref (adr G 0), .int a1, .int a2, .ref (adr G 33)] : List Value).toArray below meth c H locs 0 0 (vx_MQ below (hyQ G (.inr (some (.int (bI res.1))), (res.2.1, res.2.2, Mo))) (hyXQ G (.inr (some (.int (bI res.1))), (res.2.1, res.2.2, Mo))) ([.ref (adr G 0), .int a1, .int a2, .ref (adr G 33)] : List Value).toArray s 0 (6 * 0) (hyA G)) (F0 m 185 ls [.int u1, .ref (adr G 0)]) := by
                          intro H locs ls u1 eu1 hP hS hl
                          subst eu1
                          obtain ⟨⟨v85, C86⟩, hv85, h⟩ := hy_bind h
                          try dsimp only at h
                          refine hy_ret (hy_rV0 (T := (C80, M, Mo)) (v := some (.int v85)) (T2 := (C86, M, Mo)) (As := [.int ((if v83 = 0 then 39 else 77) : Int32)]) (rest := []) (n := 0) hx hb hml hown hts hX hP hS hl (c_Hp_append hlt M Mo ((if v83 = 0 then 39 else 77) : Int32) C80 (res := (.inr v85, C86)) (rtM_some hv85)) m_Hp_append q_879 (hy_recv hX hP 0 9 (by decide) rfl rfl) rfl rfl (Nat.le_of_ble_eq_true rfl) dL_line_185 ⟨Nat.le_of_ble_eq_true rfl, Nat.le_of_ble_eq_true rfl⟩ ⟨by decide, by decide⟩) hS (fun H locs hP hS => ?_)
                          refine lv_iinc (v := (x78 + 1)) (lv' := [(7, .int (x78 + 1)), (0, .ref (adr G 0)), (1, .int a1), (2, .int a2), (3, .ref (adr G 33)), (4, .int v1), (5, .int v2), (6, .int (1 + v3)), (8, .int (x7 ||| (((1 + v13) <<< ((4 * x8) &&& 31)) ||| ((if (decide (v75 = 0)) then ((1 : Int32) <<< ((24 + x8) &&& 31)) else 0) : Int32)))), (9, .int x8), (10, .int (1 + v13)), (11, .int (bI (decide (v75 = 0)))), (12, .int x79)]) hx hb dL_line_188 hl (k := 7) rfl rfl (by decide) rfl (fun ls hl => ?_)
                          refine lv_iload hx hb dL_line_191 (lv_at hl 0 rfl) ?_
                          refine lv_icmp_eq (tgt := 198) hx hb dL_line_193 (by decide) (fun c87 => ?_) (fun c87 => ?_)
                          · rw [if_pos c87] at h
                            refine lv_iinc (v := (x79 + 1)) (lv' := [(12, .int (x79 + 1)), (7, .int (x78 + 1)), (0, .ref (adr G 0)), (1, .int a1), (2, .int a2), (3, .ref (adr G 33)), (4, .int v1), (5, .int v2), (6, .int (1 + v3)), (8, .int (x7 ||| (((1 + v13) <<< ((4 * x8) &&& 31)) ||| ((if (decide (v75 = 0)) then ((1 : Int32) <<< ((24 + x8) &&& 31)) else 0) : Int32)))), (9, .int x8), (10, .int (1 + v13)), (11, .int (bI (decide (v75 = 0))))]) hx hb dL_line_198 hl (k := 12) rfl rfl (by decide) rfl (fun ls hl => ?_)
                            refine lv_goto (tgt := 145) hx hb dL_line_201 (by decide) ?_
                            exact ih (x78 + 1) (x79 + 1) C86 _ h hq _ _ ls hP hS (lv_sub hl [2, 3, 4, 5, 6, 7, 8, 1, 9, 10, 11, 12, 0] rfl) kk
                          · rw [if_neg c87] at h
                            refine lv_iconst (v := 0) hx hb dL_line_196 rfl ?_
                            exact hy_zret (T := (C86, M, Mo)) hx hb hr hlocks hP hS (by decide) (by decide) (bI_nar false) (by rw [← (hq _ (Option.some.inj h).symm).symm] <;> rfl) dL_line_197
                        refine lv_if_ne (tgt := 183) hx hb dL_line_175 (by decide) (fun c84 => ?_) (fun c84 => ?_)
                        · refine lv_bipush (v := 77) hx hb dL_line_183 rfl ?_
                          exact J88 _ _ ls 77 (by rw [if_neg c84] <;> rfl) hP hS (lv_sub hl [0, 1, 2, 3, 4, 5, 6, 7, 8, 9, 10, 11, 12] rfl)
                        · refine lv_bipush (v := 39) hx hb dL_line_178 rfl ?_
                          refine lv_goto (tgt := 185) hx hb dL_line_180 (by decide) ?_
                          exact J88 _ _ ls 39 (by rw [if_pos c84] <;> rfl) hP hS (lv_sub hl [0, 1, 2, 3, 4, 5, 6, 7, 8, 9, 10, 11, 12] rfl)
                      · rw [if_pos (c82)] at h
                        refine lv_bipush (v := 97) hx hb dL_line_158 rfl ?_
                        refine lv_iload hx hb dL_line_160 (lv_at hl 10 rfl) ?_
                        refine lv_iadd hx hb dL_line_162 ?_
                        refine lv_goto (tgt := 185) hx hb dL_line_163 (by decide) ?_
                        obtain ⟨⟨v89, C90⟩, hv89, h⟩ := hy_bind h
                        try dsimp only at h
                        refine hy_ret (hy_rV0 (T := (C80, M, Mo)) (v := some (.int v89)) (T2 := (C90, M, Mo)) (As := [.int (97 + (1 + v13))]) (rest := []) (n := 0) hx hb hml hown hts hX hP hS hl (c_Hp_append hlt M Mo (97 + (1 + v13)) C80 (res := (.inr v89, C90)) (rtM_some hv89)) m_Hp_append q_879 (hy_recv hX hP 0 9 (by decide) rfl rfl) rfl rfl (Nat.le_of_ble_eq_true rfl) dL_line_185 ⟨Nat.le_of_ble_eq_true rfl, Nat.le_of_ble_eq_true rfl⟩ ⟨by decide, by decide⟩) hS (fun H locs hP hS => ?_)
                        refine lv_iinc (v := (x78 + 1)) (lv' := [(7, .int (x78 + 1)), (0, .ref (adr G 0)), (1, .int a1), (2, .int a2), (3, .ref (adr G 33)), (4, .int v1), (5, .int v2), (6, .int (1 + v3)), (8, .int (x7 ||| (((1 + v13) <<< ((4 * x8) &&& 31)) ||| ((if (decide (v75 = 0)) then ((1 : Int32) <<< ((24 + x8) &&& 31)) else 0) : Int32)))), (9, .int x8), (10, .int (1 + v13)), (11, .int (bI (decide (v75 = 0)))), (12, .int x79)]) hx hb dL_line_188 hl (k := 7) rfl rfl (by decide) rfl (fun ls hl => ?_)
                        refine lv_iload hx hb dL_line_191 (lv_at hl 0 rfl) ?_
                        refine lv_icmp_eq (tgt := 198) hx hb dL_line_193 (by decide) (fun c91 => ?_) (fun c91 => ?_)
                        · rw [if_pos c91] at h
                          refine lv_iinc (v := (x79 + 1)) (lv' := [(12, .int (x79 + 1)), (7, .int (x78 + 1)), (0, .ref (adr G 0)), (1, .int a1), (2, .int a2), (3, .ref (adr G 33)), (4, .int v1), (5, .int v2), (6, .int (1 + v3)), (8, .int (x7 ||| (((1 + v13) <<< ((4 * x8) &&& 31)) ||| ((if (decide (v75 = 0)) then ((1 : Int32) <<< ((24 + x8) &&& 31)) else 0) : Int32)))), (9, .int x8), (10, .int (1 + v13)), (11, .int (bI (decide (v75 = 0))))]) hx hb dL_line_198 hl (k := 12) rfl rfl (by decide) rfl (fun ls hl => ?_)
                          refine lv_goto (tgt := 145) hx hb dL_line_201 (by decide) ?_
                          exact ih (x78 + 1) (x79 + 1) C90 _ h hq _ _ ls hP hS (lv_sub hl [2, 3, 4, 5, 6, 7, 8, 1, 9, 10, 11, 12, 0] rfl) kk
                        · rw [if_neg c91] at h
                          refine lv_iconst (v := 0) hx hb dL_line_196 rfl ?_
                          exact hy_zret (T := (C90, M, Mo)) hx hb hr hlocks hP hS (by decide) (by decide) (bI_nar false) (by rw [← (hq _ (Option.some.inj h).symm).symm] <;> rfl) dL_line_197
                obtain ⟨q101, hq101, h⟩ := hy_bind h
                refine L92 hyFu x6 0 C9 q101 hq101 (fun r9 e9 => by subst e9; exact (hq _ (Option.some.inj h).symm)) _ _ ls hP hS (lv_sub hl [2, 3, 4, 5, 6, 7, 8, 9, 1, 10, 11, 12, 0] rfl) ?_
                intro y78 y79 NC80 e9 H locs ls hP hS hl
                subst e9
                try dsimp only at h
                refine lv_iload hx hb dL_line_204 (lv_at hl 9 rfl) ?_
                refine lv_iload hx hb dL_line_206 (lv_at hl 6 rfl) ?_
                refine lv_iconst (v := 1) hx hb dL_line_208 rfl ?_
                refine lv_isub hx hb dL_line_209 ?_
                refine lv_icmp_ne (tgt := 216) hx hb dL_line_210 (by decide) (fun c93 => ?_) (fun c93 => ?_)
                · rw [if_neg c93] at h
                  refine lv_aload_n hx hb dL_line_216 rfl (lv_at hl 0 rfl) ?_
                  refine lv_iload hx hb dL_line_217 (lv_at hl 11 rfl) ?_
                  have J100 : ∀ (H : Heap) (locs : List Loc) (ls : Array Slot) (u1 : Int32), u1 = ((if (decide (v75 = 0)) then 32 else 45) : Int32) → va_P G.1 vwCl (wld G (NC80, M, Mo)) H → va_S (hyA G) s.heap H locs → lv_has ls 13 [(0, .ref (adr G 0)), (1, .int a1), (2, .int a2), (3, .ref (adr G 33)), (4, .int v1), (5, .int v2), (6, .int (1 + v3)), (7, .int y78), (8, .int (x7 ||| (((1 + v13) <<< ((4 * x8) &&& 31)) ||| ((if (decide (v75 = 0)) then ((1 : Int32) <<< ((24 + x8) &&& 31)) else 0) : Int32)))), (9, .int x8), (10, .int (1 + v13)), (11, .int (bI (decide (v75 = 0)))), (12, .int y79)] → W p l e { frames := 8, cells := 0, slots := 6 * 0, locals := 160 } s m ([.ref (adr G 0), .int a1, .int a2, .ref (adr G 33)] : List Value).toArray below meth c H locs 0 0 (vx_MQ below (hyQ G (.inr (some (.int (bI res.1))), (res.2.1, res.2.2, Mo))) (hyXQ G (.inr (some (.int (bI res.1))), (res.2.1, res.2.2, Mo))) ([.ref (adr G 0), .int a1, .int a2, .ref (adr G 33)] : List Value).toArray s 0 (6 * 0) (hyA G)) (F0 m 229 ls [.int u1, .ref (adr G 0)]) := by
                    intro H locs ls u1 eu1 hP hS hl
                    subst eu1
                    obtain ⟨⟨v95, C96⟩, hv95, h⟩ := hy_bind h
                    try dsimp only at h
                    refine hy_ret (hy_rV0 (T := (NC80, M, Mo)) (v := some (.int v95)) (T2 := (C96, M, Mo)) (As := [.int ((if (decide (v75 = 0)) then 32 else 45) : Int32)]) (rest := []) (n := 0) hx hb hml hown hts hX hP hS hl (c_Hp_append hlt M Mo ((if (decide (v75 = 0)) then 32 else 45) : Int32) NC80 (res := (.inr v95, C96)) (rtM_some hv95)) m_Hp_append q_879 (hy_recv hX hP 0 9 (by decide) rfl rfl) rfl rfl (Nat.le_of_ble_eq_true rfl) dL_line_229 ⟨Nat.le_of_ble_eq_true rfl, Nat.le_of_ble_eq_true rfl⟩ ⟨by decide, by decide⟩) hS (fun H locs hP hS => ?_)
                    refine lv_iinc (v := (y78 + 1)) (lv' := [(7, .int (y78 + 1)), (0, .ref (adr G 0)), (1, .int a1), (2, .int a2), (3, .ref (adr G 33)), (4, .int v1), (5, .int v2), (6, .int (1 + v3)), (8, .int (x7 ||| (((1 + v13) <<< ((4 * x8) &&& 31)) ||| ((if (decide (v75 = 0)) then ((1 : Int32) <<< ((24 + x8) &&& 31)) else 0) : Int32)))), (9, .int x8), (10, .int (1 + v13)), (11, .int (bI (decide (v75 = 0)))), (12, .int y79)]) hx hb dL_line_232 hl (k := 7) rfl rfl (by decide) rfl (fun ls hl => ?_)
                    refine lv_iload hx hb dL_line_235 (lv_at hl 0 rfl) ?_
                    refine lv_icmp_ne (tgt := 250) hx hb dL_line_237 (by decide) (fun c97 => ?_) (fun c97 => ?_)
                    · rw [if_neg c97] at h
                      refine lv_iconst (v := 0) hx hb dL_line_250 rfl ?_
                      exact hy_zret (T := (C96, M, Mo)) hx hb hr hlocks hP hS (by decide) (by decide) (bI_nar false) (by rw [← (hq _ (Option.some.inj h).symm).symm] <;> rfl) dL_line_251
                    · rw [if_pos (c97)] at h
                      refine lv_aload_n hx hb dL_line_240 rfl (lv_at hl 1 rfl) ?_
                      refine lv_iconst (v := 0) hx hb dL_line_241 rfl ?_
                      obtain ⟨v98, hv98, h⟩ := hy_bind h
                      refine hy_ret (hy_rV0 (T := (C96, M, Mo)) (v := some (.int v98)) (T2 := (C96, M, Mo)) (As := [.int 0]) (rest := []) (n := 0) hx hb hml hown hts hX hP hS hl (c_Hp_firstError M Mo false C96 hv98) m_Hp_firstError q_904 (hy_recv hX hP 0 9 (by decide) rfl rfl) rfl rfl (Nat.le_of_ble_eq_true rfl) dL_line_242 ⟨Nat.le_of_ble_eq_true rfl, Nat.le_of_ble_eq_true rfl⟩ ⟨by decide, by decide⟩) hS (fun H locs hP hS => ?_)
                      refine lv_iload hx hb dL_line_245 (lv_at hl 0 rfl) ?_
                      refine lv_icmp_eq (tgt := 252) hx hb dL_line_247 (by decide) (fun c99 => ?_) (fun c99 => ?_)
                      · rw [if_pos c99] at h
                        refine lv_iinc (v := (x8 + 1)) (lv' := [(9, .int (x8 + 1)), (7, .int (y78 + 1)), (0, .ref (adr G 0)), (1, .int a1), (2, .int a2), (3, .ref (adr G 33)), (4, .int v1), (5, .int v2), (6, .int (1 + v3)), (8, .int (x7 ||| (((1 + v13) <<< ((4 * x8) &&& 31)) ||| ((if (decide (v75 = 0)) then ((1 : Int32) <<< ((24 + x8) &&& 31)) else 0) : Int32)))), (10, .int (1 + v13)), (11, .int (bI (decide (v75 = 0)))), (12, .int y79)]) hx hb dL_line_252 hl (k := 9) rfl rfl (by decide) rfl (fun ls hl => ?_)
                        refine lv_goto (tgt := 43) hx hb dL_line_255 (by decide) ?_
                        exact ih (y78 + 1) (x7 ||| (((1 + v13) <<< ((4 * x8) &&& 31)) ||| ((if (decide (v75 = 0)) then ((1 : Int32) <<< ((24 + x8) &&& 31)) else 0) : Int32))) (x8 + 1) C96 _ h hq _ _ ls hP hS (lv_sub hl [2, 3, 4, 5, 6, 7, 8, 1, 9, 0] rfl) kk
                      · rw [if_neg c99] at h
                        refine lv_iconst (v := 0) hx hb dL_line_250 rfl ?_
                        exact hy_zret (T := (C96, M, Mo)) hx hb hr hlocks hP hS (by decide) (by decide) (bI_nar false) (by rw [← (hq _ (Option.some.inj h).symm).symm] <;> rfl) dL_line_251
                  refine lv_if_eq (tgt := 227) hx hb dL_line_219 (by decide) (fun c94 => ?_) (fun c94 => ?_)
                  · refine lv_bipush (v := 45) hx hb dL_line_227 rfl ?_
                    exact J100 _ _ ls 45 (by rw [if_neg (bI_0 c94)] <;> rfl) hP hS (lv_sub hl [0, 1, 2, 3, 4, 5, 6, 7, 8, 9, 10, 11, 12] rfl)
                  · refine lv_bipush (v := 32) hx hb dL_line_222 rfl ?_
                    refine lv_goto (tgt := 229) hx hb dL_line_224 (by decide) ?_
                    exact J100 _ _ ls 32 (by rw [if_pos (bI_1 c94)] <;> rfl) hP hS (lv_sub hl [0, 1, 2, 3, 4, 5, 6, 7, 8, 9, 10, 11, 12] rfl)
                · rw [if_pos (c93)] at h
                  refine lv_goto (tgt := 252) hx hb dL_line_213 (by decide) ?_
                  refine lv_iinc (v := (x8 + 1)) (lv' := [(9, .int (x8 + 1)), (0, .ref (adr G 0)), (1, .int a1), (2, .int a2), (3, .ref (adr G 33)), (4, .int v1), (5, .int v2), (6, .int (1 + v3)), (7, .int y78), (8, .int (x7 ||| (((1 + v13) <<< ((4 * x8) &&& 31)) ||| ((if (decide (v75 = 0)) then ((1 : Int32) <<< ((24 + x8) &&& 31)) else 0) : Int32)))), (10, .int (1 + v13)), (11, .int (bI (decide (v75 = 0)))), (12, .int y79)]) hx hb dL_line_252 hl (k := 9) rfl rfl (by decide) rfl (fun ls hl => ?_)
                  refine lv_goto (tgt := 43) hx hb dL_line_255 (by decide) ?_
                  exact ih y78 (x7 ||| (((1 + v13) <<< ((4 * x8) &&& 31)) ||| ((if (decide (v75 = 0)) then ((1 : Int32) <<< ((24 + x8) &&& 31)) else 0) : Int32))) (x8 + 1) NC80 _ h hq _ _ ls hP hS (lv_sub hl [1, 2, 3, 4, 5, 6, 7, 8, 9, 0] rfl) kk
              refine lv_if_eq (tgt := 137) hx hb dL_line_124 (by decide) (fun c77 => ?_) (fun c77 => ?_)
              · refine lv_iconst (v := 0) hx hb dL_line_137 rfl ?_
                exact J102 _ _ ls 0 (by rw [if_neg (bI_0 c77)] <;> rfl) hP hS (lv_sub hl [1, 2, 3, 4, 5, 6, 7, 8, 9, 10, 11, 0] rfl)
              · refine lv_iconst (v := 1) hx hb dL_line_127 rfl ?_
                refine lv_bipush (v := 24) hx hb dL_line_128 rfl ?_
                refine lv_iload hx hb dL_line_130 (lv_at hl 10 rfl) ?_
                refine lv_iadd hx hb dL_line_132 ?_
                refine lv_ishl hx hb dL_line_133 ?_
                refine lv_goto (tgt := 138) hx hb dL_line_134 (by decide) ?_
                exact J102 _ _ ls ((1 : Int32) <<< ((24 + x8) &&& 31)) (by rw [if_pos (bI_1 c77)] <;> rfl) hP hS (lv_sub hl [1, 2, 3, 4, 5, 6, 7, 8, 9, 10, 11, 0] rfl)
            refine lv_if_ne (tgt := 110) hx hb dL_line_103 (by decide) (fun c76 => ?_) (fun c76 => ?_)
            · refine lv_iconst (v := 0) hx hb dL_line_110 rfl ?_
              exact J103 _ _ ls 0 (by rw [decide_eq_false c76] <;> rfl) hP hS (lv_sub hl [1, 2, 3, 4, 5, 6, 7, 8, 9, 10, 0] rfl)
            · refine lv_iconst (v := 1) hx hb dL_line_106 rfl ?_
              refine lv_goto (tgt := 111) hx hb dL_line_107 (by decide) ?_
              exact J103 _ _ ls 1 (by rw [decide_eq_true c76] <;> rfl) hP hS (lv_sub hl [1, 2, 3, 4, 5, 6, 7, 8, 9, 10, 0] rfl)
        refine lv_if_ne (tgt := 76) hx hb dL_line_68 (by decide) (fun c12 => ?_) (fun c12 => ?_)
        · refine lv_iconst (v := 4) hx hb dL_line_76 rfl ?_
          exact J104 _ _ ls 4 (by rw [if_neg c12] <;> rfl) hP hS (lv_sub hl [0, 1, 2, 3, 4, 5, 6, 7, 8, 9] rfl)
        · refine lv_bipush (v := 9) hx hb dL_line_71 rfl ?_
          refine lv_goto (tgt := 77) hx hb dL_line_73 (by decide) ?_
          exact J104 _ _ ls 9 (by rw [if_pos c12] <;> rfl) hP hS (lv_sub hl [0, 1, 2, 3, 4, 5, 6, 7, 8, 9] rfl)
  obtain ⟨q116, hq116, h⟩ := hy_bind h
  refine L105 hyFu 0 0 0 C5 q116 hq116 (fun r9 e9 => by subst e9; exact (Option.some.inj h).symm) _ _ ls hP hS (lv_sub hl [6, 7, 8, 9, 5, 4, 3, 2, 1, 0] rfl) ?_
  intro y6 y7 y8 NC9 e9 H locs ls hP hS hl
  subst e9
  try dsimp only at h
  refine lv_aload_n hx hb dL_line_258 rfl (lv_at hl 3 rfl) ?_
  refine lv_bipush (v := 8) hx hb dL_line_259 rfl ?_
  refine lv_iload hx hb dL_line_261 (lv_at hl 4 rfl) ?_
  refine lv_imul hx hb dL_line_263 ?_
  refine lv_iload hx hb dL_line_264 (lv_at hl 5 rfl) ?_
  refine lv_iadd hx hb dL_line_266 ?_
  refine lv_iload hx hb dL_line_267 (lv_at hl 8 rfl) ?_
  obtain ⟨M106, hM106, h⟩ := hy_bind h
  obtain ⟨nM106, hM106⟩ := stE_some hM106
  refine hy_iast (T := (NC9, M, Mo)) (T2 := (NC9, (wI M 33 ((8 * v1) + v2).toNatClampNeg y7), Mo)) hx hb hX hP hS 33 16 (hy34 G (by decide)) (fun _ _ => rfl) nM106 rfl dL_line_269 (fun H locs hP hS => ?_)
  rw [hM106] at hP
  refine lv_aload_n hx hb dL_line_270 rfl (lv_at hl 0 rfl) ?_
  refine lv_iconst (v := 0) hx hb dL_line_271 rfl ?_
  obtain ⟨v107, hv107, h⟩ := hy_bind h
  refine hy_ret (hy_rV0 (T := (NC9, M106, Mo)) (v := some (.int v107)) (T2 := (NC9, M106, Mo)) (As := [.int 0]) (rest := []) (n := 0) hx hb hml hown hts hX hP hS hl (c_Hp_firstError M106 Mo false NC9 hv107) m_Hp_firstError q_904 (hy_recv hX hP 0 9 (by decide) rfl rfl) rfl rfl (Nat.le_of_ble_eq_true rfl) dL_line_272 ⟨Nat.le_of_ble_eq_true rfl, Nat.le_of_ble_eq_true rfl⟩ ⟨by decide, by decide⟩) hS (fun H locs hP hS => ?_)
  refine lv_iload hx hb dL_line_275 (lv_at hl 7 rfl) ?_
  refine lv_icmp_ne (tgt := 304) hx hb dL_line_277 (by decide) (fun c108 => ?_) (fun c108 => ?_)
  · rw [if_neg c108] at h
    refine lv_iconst (v := 0) hx hb dL_line_304 rfl ?_
    exact hy_zret (T := (NC9, M106, Mo)) hx hb hr hlocks hP hS (by decide) (by decide) (bI_nar false) (by rw [← (Option.some.inj h)] <;> rfl) dL_line_305
  · rw [if_pos (c108)] at h
    refine lv_aload_n hx hb dL_line_280 rfl (lv_at hl 0 rfl) ?_
    refine lv_iload hx hb dL_line_281 (lv_at hl 4 rfl) ?_
    refine lv_iload hx hb dL_line_283 (lv_at hl 5 rfl) ?_
    obtain ⟨⟨v109, C110⟩, hv109, h⟩ := hy_bind h
    try dsimp only at h
    refine hy_ret (hy_rV0 (T := (NC9, M106, Mo)) (v := some (.int v109)) (T2 := (C110, M106, Mo)) (As := [.int v1, .int v2]) (rest := []) (n := 0) hx hb hml hown hts hX hP hS hl (c_Hp_setLine hlt M106 Mo v1 v2 NC9 (res := (.inr v109, C110)) (rtMb_some hv109)) m_Hp_setLine q_1070 (hy_recv hX hP 0 9 (by decide) rfl rfl) rfl rfl (Nat.le_of_ble_eq_true rfl) dL_line_285 ⟨Nat.le_of_ble_eq_true rfl, Nat.le_of_ble_eq_true rfl⟩ ⟨by decide, by decide⟩) hS (fun H locs hP hS => ?_)
    refine lv_iload hx hb dL_line_288 (lv_at hl 6 rfl) ?_
    refine lv_icmp_ne (tgt := 304) hx hb dL_line_290 (by decide) (fun c111 => ?_) (fun c111 => ?_)
    · rw [if_neg c111] at h
      refine lv_iconst (v := 0) hx hb dL_line_304 rfl ?_
      exact hy_zret (T := (C110, M106, Mo)) hx hb hr hlocks hP hS (by decide) (by decide) (bI_nar false) (by rw [← (Option.some.inj h)] <;> rfl) dL_line_305
    · rw [if_pos (c111)] at h
      refine lv_aload_n hx hb dL_line_293 rfl (lv_at hl 0 rfl) ?_
      obtain ⟨⟨v112, C113⟩, hv112, h⟩ := hy_bind h
      try dsimp only at h
      refine hy_ret (hy_rV0 (T := (C110, M106, Mo)) (v := some (.int v112)) (T2 := (C113, M106, Mo)) (As := []) (rest := []) (n := 0) hx hb hml hown hts hX hP hS hl (c_Hp_clearInput M106 Mo C110 (Option.some.inj hv112)) m_Hp_clearInput q_875 (hy_recv hX hP 0 9 (by decide) rfl rfl) rfl rfl (Nat.le_of_ble_eq_true rfl) dL_line_294 ⟨Nat.le_of_ble_eq_true rfl, Nat.le_of_ble_eq_true rfl⟩ ⟨by decide, by decide⟩) hS (fun H locs hP hS => ?_)
      have J115 : ∀ (H : Heap) (locs : List Loc) (ls : Array Slot) (u1 : Int32), u1 = (bI (decide (v112 = 0))) → va_P G.1 vwCl (wld G (C113, M106, Mo)) H → va_S (hyA G) s.heap H locs → lv_has ls 13 [(0, .ref (adr G 0)), (1, .int a1), (2, .int a2), (3, .ref (adr G 33)), (4, .int v1), (5, .int v2), (6, .int (1 + v3)), (7, .int y6), (8, .int y7), (9, .int y8)] → W p l e { frames := 8, cells := 0, slots := 6 * 0, locals := 160 } s m ([.ref (adr G 0), .int a1, .int a2, .ref (adr G 33)] : List Value).toArray below meth c H locs 0 0 (vx_MQ below (hyQ G (.inr (some (.int (bI res.1))), (res.2.1, res.2.2, Mo))) (hyXQ G (.inr (some (.int (bI res.1))), (res.2.1, res.2.2, Mo))) ([.ref (adr G 0), .int a1, .int a2, .ref (adr G 33)] : List Value).toArray s 0 (6 * 0) (hyA G)) (F0 m 305 ls [.int u1]) := by
        intro H locs ls u1 eu1 hP hS hl
        subst eu1
        exact hy_zret (T := (C113, M106, Mo)) hx hb hr hlocks hP hS (by decide) (by decide) (bI_nar (decide (v112 = 0))) (by rw [← (Option.some.inj h)] <;> rfl) dL_line_305
      refine lv_if_ne (tgt := 304) hx hb dL_line_297 (by decide) (fun c114 => ?_) (fun c114 => ?_)
      · refine lv_iconst (v := 0) hx hb dL_line_304 rfl ?_
        exact J115 _ _ ls 0 (by rw [decide_eq_false c114] <;> rfl) hP hS (lv_sub hl [0, 1, 2, 3, 4, 5, 6, 7, 8, 9] rfl)
      · refine lv_iconst (v := 1) hx hb dL_line_300 rfl ?_
        refine lv_goto (tgt := 305) hx hb dL_line_301 (by decide) ?_
        exact J115 _ _ ls 1 (by rw [decide_eq_true c114] <;> rfl) hP hS (lv_sub hl [0, 1, 2, 3, 4, 5, 6, 7, 8, 9] rfl)
set_option maxHeartbeats 1000000 in
set_option maxRecDepth 100000 in
theorem c_La_moved {l : Launch} {G : hyG} (Mc Mo : hyM) (a1 : Int32) (a2 : Int32) (M : hyM) {res : Int32} (h : La_moved a1 a2 M = res) : hyC l yL_moved (.code yL_moved cL_moved 2 (some .int)) 0 0 (0) G [.int a1, .int a2] (Mc, M, Mo) (.inr (some (.int res)), (Mc, M, Mo)) := by
  refine hy_of (by decide +kernel) (Nat.le_of_ble_eq_true rfl) ?_
  intro p e s m below meth c hx hb hml hown hts hr hlocks ht hX hP hS ls hl
  have hl : lv_has ls 2 [(0, .int a1), (1, .int a2)] := hl
  rw [La_moved] at h
  refine lv_iload_n hx hb dL_moved_0 rfl (lv_at hl 0 rfl) ?_
  refine lv_iload_n hx hb dL_moved_1 rfl (lv_at hl 1 rfl) ?_
  refine lv_iadd hx hb dL_moved_2 ?_
  refine lv_bipush (v := 36) hx hb dL_moved_3 rfl ?_
  have J3 : ∀ (H : Heap) (locs : List Loc) (ls : Array Slot) (u1 : Int32), u1 = ((if 36 ≤ (a1 + a2) then (if (a1 + a2) ≤ 84 then (a1 + a2) else 84) else 36) : Int32) → va_P G.1 vwCl (wld G (Mc, M, Mo)) H → va_S (hyA G) s.heap H locs → lv_has ls 2 [(0, .int a1), (1, .int a2)] → W p l e { frames := 0, cells := 0, slots := 6 * 0, locals := 0 } s m ([.int a1, .int a2] : List Value).toArray below meth c H locs 0 0 (vx_MQ below (hyQ G (.inr (some (.int res)), (Mc, M, Mo))) (hyXQ G (.inr (some (.int res)), (Mc, M, Mo))) ([.int a1, .int a2] : List Value).toArray s 0 (6 * 0) (hyA G)) (F0 m 29 ls [.int u1]) := by
    intro H locs ls u1 eu1 hP hS hl
    subst eu1
    exact hy_iret (T := (Mc, M, Mo)) hx hb hr hlocks hP hS (Nat.zero_le _) (Nat.zero_le _) (by rw [← h] <;> rfl) dL_moved_29
  refine lv_icmp_ge (tgt := 13) hx hb dL_moved_5 (by decide) (fun c1 => ?_) (fun c1 => ?_)
  · refine lv_iload_n hx hb dL_moved_13 rfl (lv_at hl 0 rfl) ?_
    refine lv_iload_n hx hb dL_moved_14 rfl (lv_at hl 1 rfl) ?_
    refine lv_iadd hx hb dL_moved_15 ?_
    refine lv_bipush (v := 84) hx hb dL_moved_16 rfl ?_
    refine lv_icmp_le (tgt := 26) hx hb dL_moved_18 (by decide) (fun c2 => ?_) (fun c2 => ?_)
    · refine lv_iload_n hx hb dL_moved_26 rfl (lv_at hl 0 rfl) ?_
      refine lv_iload_n hx hb dL_moved_27 rfl (lv_at hl 1 rfl) ?_
      refine lv_iadd hx hb dL_moved_28 ?_
      exact J3 _ _ ls (a1 + a2) (by rw [if_pos c1, if_pos c2] <;> rfl) hP hS (lv_sub hl [0, 1] rfl)
    · refine lv_bipush (v := 84) hx hb dL_moved_21 rfl ?_
      refine lv_goto (tgt := 29) hx hb dL_moved_23 (by decide) ?_
      exact J3 _ _ ls 84 (by rw [if_pos c1, if_neg c2] <;> rfl) hP hS (lv_sub hl [0, 1] rfl)
  · refine lv_bipush (v := 36) hx hb dL_moved_8 rfl ?_
    refine lv_goto (tgt := 29) hx hb dL_moved_10 (by decide) ?_
    exact J3 _ _ ls 36 (by rw [if_neg c1] <;> rfl) hP hS (lv_sub hl [0, 1] rfl)
set_option maxHeartbeats 1000000 in
set_option maxRecDepth 100000 in
theorem c_La_act {l : Launch} {G : hyG} (hlt : l.stackTraces = false) (hex : exn G = 0) (Mo : hyM) (a1 : Int32) (a2 : Int32) (a3 : Int32) (C : hyM) (M : hyM) {res : (Bool × hyM × hyM)} (h : La_act a1 a2 a3 C M = some res) : hyC l yL_act (.code yL_act cL_act 13 (some .boolean)) 9 192 (5) G [.ref (adr G 0), .int a1, .int a2, .int a3, .ref (adr G 30), .ref (adr G 31), .ref (adr G 32), .ref (adr G 33)] (C, M, Mo) (.inr (some (.int (bI res.1))), (res.2.1, res.2.2, Mo)) := by
  refine hy_of (by decide +kernel) (Nat.le_of_ble_eq_true rfl) ?_
  intro p e s m below meth c hx hb hml hown hts hr hlocks ht hX hP hS ls hl
  have hl : lv_has ls 13 [(0, .ref (adr G 0)), (1, .int a1), (2, .int a2), (3, .int a3), (4, .ref (adr G 30)), (5, .ref (adr G 31)), (6, .ref (adr G 32)), (7, .ref (adr G 33))] := hl
  rw [La_act] at h
  refine lv_iload_n hx hb dL_act_0 rfl (lv_at hl 1 rfl) ?_
  refine lv_bipush (v := 6) hx hb dL_act_1 rfl ?_
  refine lv_icmp_lt (tgt := 13) hx hb dL_act_3 (by decide) (fun c1 => ?_) (fun c1 => ?_)
  · rw [if_pos c1] at h
    refine lv_aload hx hb dL_act_13 (lv_at hl 4 rfl) ?_
    refine lv_iconst (v := 1) hx hb dL_act_15 rfl ?_
    obtain ⟨v2, hv2, h⟩ := hy_bind h
    obtain ⟨nv2, hv2⟩ := ldE_some hv2
    refine hy_iald (T := (C, M, Mo)) hx hb hX hP 30 6 (M.1 30) (hy34 G (by decide)) rfl nv2 dL_act_16 ?_
    rw [hv2]
    refine lv_bipush (v := 12) hx hb dL_act_17 rfl ?_
    refine lv_icmp_ne (tgt := 24) hx hb dL_act_19 (by decide) (fun c3 => ?_) (fun c3 => ?_)
    · rw [if_neg c3] at h
      refine lv_iconst (v := 5) hx hb dL_act_24 rfl ?_
      refine lv_aload hx hb dL_act_25 (lv_at hl 4 rfl) ?_
      refine lv_iconst (v := 1) hx hb dL_act_27 rfl ?_
      obtain ⟨v4, hv4, h⟩ := hy_bind h
      obtain ⟨nv4, hv4⟩ := ldE_some hv4
      refine hy_iald (T := (C, M, Mo)) hx hb hX hP 30 6 (M.1 30) (hy34 G (by decide)) rfl nv4 dL_act_28 ?_
      rw [hv4]
      refine lv_imul hx hb dL_act_29 ?_
      refine lv_istore (lv' := [(8, .int (5 * v4)), (0, .ref (adr G 0)), (1, .int a1), (2, .int a2), (3, .int a3), (4, .ref (adr G 30)), (5, .ref (adr G 31)), (6, .ref (adr G 32)), (7, .ref (adr G 33))]) hx hb dL_act_30 hl (by decide) rfl (fun ls hl => ?_)
      refine lv_aload hx hb dL_act_32 (lv_at hl 6 rfl) ?_
      refine lv_iload hx hb dL_act_34 (lv_at hl 0 rfl) ?_
      refine lv_iconst (v := 4) hx hb dL_act_36 rfl ?_
      refine lv_iconst (v := 1) hx hb dL_act_37 rfl ?_
      refine lv_iload_n hx hb dL_act_38 rfl (lv_at hl 3 rfl) ?_
      refine lv_iconst (v := 4) hx hb dL_act_39 rfl ?_
      obtain ⟨v5, hv5, h⟩ := hy_bind h
      refine hy_ret (hy_rS0 (T := (C, M, Mo)) (v := some (.int v5)) (T2 := (C, M, Mo)) (As := [.int a2, .int 4]) (rest := [.int 1, .int 4, .int (5 * v4), .ref (adr G 31)]) (n := 0) hx hb hml hown hts hX hP hS hl (c_La_at C Mo a2 4 M hv5) m_La_at q_641 rfl rfl (Nat.le_of_ble_eq_true rfl) dL_act_40 ⟨Nat.le_of_ble_eq_true rfl, Nat.le_of_ble_eq_true rfl⟩ ⟨by decide, by decide⟩) hS (fun H locs hP hS => ?_)
      refine lv_iadd hx hb dL_act_43 ?_
      refine lv_imul hx hb dL_act_44 ?_
      obtain ⟨M6, hM6, h⟩ := hy_bind h
      obtain ⟨nM6, hM6⟩ := stE_some hM6
      refine hy_iast (T := (C, M, Mo)) (T2 := (C, (wI M 31 (5 * v4).toNatClampNeg (4 * (1 + v5))), Mo)) hx hb hX hP hS 31 60 (hy34 G (by decide)) (fun _ _ => rfl) nM6 rfl dL_act_45 (fun H locs hP hS => ?_)
      rw [hM6] at hP
      refine lv_iconst (v := 0) hx hb dL_act_46 rfl ?_
      refine lv_istore (lv' := [(9, .int 0), (8, .int (5 * v4)), (0, .ref (adr G 0)), (1, .int a1), (2, .int a2), (3, .int a3), (4, .ref (adr G 30)), (5, .ref (adr G 31)), (6, .ref (adr G 32)), (7, .ref (adr G 33))]) hx hb dL_act_47 hl (by decide) rfl (fun ls hl => ?_)
      have L21 : ∀ (f : Nat) (x7 : Int32) (M8 : hyM) (qL : (Int32 × hyM)) (h : La_act_L49 a2 a3 v4 f x7 M8 = some qL) (H : Heap) (locs : List Loc) (ls : Array Slot) (hP : va_P G.1 vwCl (wld G (C, M8, Mo)) H) (hS : va_S (hyA G) s.heap H locs) (hl : lv_has ls 13 [(0, .ref (adr G 0)), (1, .int a1), (2, .int a2), (3, .int a3), (4, .ref (adr G 30)), (5, .ref (adr G 31)), (6, .ref (adr G 32)), (7, .ref (adr G 33)), (8, .int (5 * v4)), (9, .int x7)]) (kk : ∀ (y7 : Int32) (NM8 : hyM), qL = (y7, NM8) → ∀ (H : Heap) (locs : List Loc) (ls : Array Slot), va_P G.1 vwCl (wld G (C, NM8, Mo)) H → va_S (hyA G) s.heap H locs → lv_has ls 13 [(0, .ref (adr G 0)), (1, .int a1), (2, .int a2), (3, .int a3), (4, .ref (adr G 30)), (5, .ref (adr G 31)), (6, .ref (adr G 32)), (7, .ref (adr G 33)), (8, .int (5 * v4)), (9, .int y7)] → W p l e { frames := 9, cells := 5, slots := 6 * 5, locals := 192 } s m ([.ref (adr G 0), .int a1, .int a2, .int a3, .ref (adr G 30), .ref (adr G 31), .ref (adr G 32), .ref (adr G 33)] : List Value).toArray below meth c H locs 0 0 (vx_MQ below (hyQ G (.inr (some (.int (bI res.1))), (res.2.1, res.2.2, Mo))) (hyXQ G (.inr (some (.int (bI res.1))), (res.2.1, res.2.2, Mo))) ([.ref (adr G 0), .int a1, .int a2, .int a3, .ref (adr G 30), .ref (adr G 31), .ref (adr G 32), .ref (adr G 33)] : List Value).toArray s 5 (6 * 5) (hyA G)) (F0 m 137 ls [])), W p l e { frames := 9, cells := 5, slots := 6 * 5, locals := 192 } s m ([.ref (adr G 0), .int a1, .int a2, .int a3, .ref (adr G 30), .ref (adr G 31), .ref (adr G 32), .ref (adr G 33)] : List Value).toArray below meth c H locs 0 0 (vx_MQ below (hyQ G (.inr (some (.int (bI res.1))), (res.2.1, res.2.2, Mo))) (hyXQ G (.inr (some (.int (bI res.1))), (res.2.1, res.2.2, Mo))) ([.ref (adr G 0), .int a1, .int a2, .int a3, .ref (adr G 30), .ref (adr G 31), .ref (adr G 32), .ref (adr G 33)] : List Value).toArray s 5 (6 * 5) (hyA G)) (F0 m 49 ls []) := by
        intro f
        induction f with
        | zero =>
          intro x7 M8 qL h H locs ls hP hS hl kk
          rw [La_act_L49] at h
          cases h
        | succ f ih =>
          intro x7 M8 qL h H locs ls hP hS hl kk
          rw [La_act_L49] at h
          refine lv_iload hx hb dL_act_49 (lv_at hl 9 rfl) ?_
          refine lv_iconst (v := 4) hx hb dL_act_51 rfl ?_
          refine lv_icmp_ge (tgt := 137) hx hb dL_act_52 (by decide) (fun c9 => ?_) (fun c9 => ?_)
          · rw [if_pos c9] at h
            exact kk x7 M8 (Option.some.inj h).symm _ _ ls hP hS (lv_sub hl [0, 1, 2, 3, 4, 5, 6, 7, 8, 9] rfl)
          · rw [if_neg c9] at h
            refine lv_aload hx hb dL_act_55 (lv_at hl 5 rfl) ?_
            refine lv_iload hx hb dL_act_57 (lv_at hl 8 rfl) ?_
            refine lv_iconst (v := 1) hx hb dL_act_59 rfl ?_
            refine lv_iadd hx hb dL_act_60 ?_
            refine lv_iload hx hb dL_act_61 (lv_at hl 9 rfl) ?_
            refine lv_iadd hx hb dL_act_63 ?_
            refine lv_aload hx hb dL_act_64 (lv_at hl 4 rfl) ?_
            refine lv_iconst (v := 1) hx hb dL_act_66 rfl ?_
            obtain ⟨v10, hv10, h⟩ := hy_bind h
            obtain ⟨nv10, hv10⟩ := ldE_some hv10
            refine hy_iald (T := (C, M8, Mo)) hx hb hX hP 30 6 (M8.1 30) (hy34 G (by decide)) rfl nv10 dL_act_67 ?_
            rw [hv10]
            refine lv_if_le (tgt := 113) hx hb dL_act_68 (by decide) (fun c11 => ?_) (fun c11 => ?_)
            · rw [if_pos c11] at h
              refine lv_bipush (v := 36) hx hb dL_act_113 rfl ?_
              refine lv_iload_n hx hb dL_act_115 rfl (lv_at hl 3 rfl) ?_
              refine lv_iconst (v := 5) hx hb dL_act_116 rfl ?_
              refine lv_iload hx hb dL_act_117 (lv_at hl 9 rfl) ?_
              refine lv_imul hx hb dL_act_119 ?_
              refine lv_ishr hx hb dL_act_120 ?_
              refine lv_iload hx hb dL_act_121 (lv_at hl 9 rfl) ?_
              refine lv_iadd hx hb dL_act_123 ?_
              refine lv_bipush (v := 49) hx hb dL_act_124 rfl ?_
              obtain ⟨v12, hv12, h⟩ := hy_bind h
              refine hy_ret (hy_rS0 (T := (C, M8, Mo)) (v := some (.int v12)) (T2 := (C, M8, Mo)) (As := [.int ((a3 >>> ((5 * x7) &&& 31)) + x7), .int 49]) (rest := [.int 36, .int (((5 * v4) + 1) + x7), .ref (adr G 31)]) (n := 0) hx hb hml hown hts hX hP hS hl (c_La_at C Mo ((a3 >>> ((5 * x7) &&& 31)) + x7) 49 M8 hv12) m_La_at q_641 rfl rfl (Nat.le_of_ble_eq_true rfl) dL_act_126 ⟨Nat.le_of_ble_eq_true rfl, Nat.le_of_ble_eq_true rfl⟩ ⟨by decide, by decide⟩) hS (fun H locs hP hS => ?_)
              refine lv_iadd hx hb dL_act_129 ?_
              obtain ⟨M13, hM13, h⟩ := hy_bind h
              obtain ⟨nM13, hM13⟩ := stE_some hM13
              refine hy_iast (T := (C, M8, Mo)) (T2 := (C, (wI M8 31 (((5 * v4) + 1) + x7).toNatClampNeg (36 + v12)), Mo)) hx hb hX hP hS 31 60 (hy34 G (by decide)) (fun _ _ => rfl) nM13 rfl dL_act_130 (fun H locs hP hS => ?_)
              rw [hM13] at hP
              refine lv_iinc (v := (x7 + 1)) (lv' := [(9, .int (x7 + 1)), (0, .ref (adr G 0)), (1, .int a1), (2, .int a2), (3, .int a3), (4, .ref (adr G 30)), (5, .ref (adr G 31)), (6, .ref (adr G 32)), (7, .ref (adr G 33)), (8, .int (5 * v4))]) hx hb dL_act_131 hl (k := 9) rfl rfl (by decide) rfl (fun ls hl => ?_)
              refine lv_goto (tgt := 49) hx hb dL_act_134 (by decide) ?_
              exact ih (x7 + 1) M13 _ h  _ _ ls hP hS (lv_sub hl [1, 2, 3, 4, 5, 6, 7, 8, 9, 0] rfl) kk
            · rw [if_neg c11] at h
              refine lv_iload_n hx hb dL_act_71 rfl (lv_at hl 2 rfl) ?_
              refine lv_iload hx hb dL_act_72 (lv_at hl 9 rfl) ?_
              refine lv_iconst (v := 4) hx hb dL_act_74 rfl ?_
              refine lv_iadd hx hb dL_act_75 ?_
              refine lv_ishr hx hb dL_act_76 ?_
              refine lv_iconst (v := 3) hx hb dL_act_77 rfl ?_
              obtain ⟨v14, hv14, h⟩ := hy_bind h
              refine hy_ret (hy_rS0 (T := (C, M8, Mo)) (v := some (.int v14)) (T2 := (C, M8, Mo)) (As := [.int (a2 >>> ((x7 + 4) &&& 31)), .int 3]) (rest := [.int (((5 * v4) + 1) + x7), .ref (adr G 31)]) (n := 0) hx hb hml hown hts hX hP hS hl (c_La_at C Mo (a2 >>> ((x7 + 4) &&& 31)) 3 M8 hv14) m_La_at q_641 rfl rfl (Nat.le_of_ble_eq_true rfl) dL_act_78 ⟨Nat.le_of_ble_eq_true rfl, Nat.le_of_ble_eq_true rfl⟩ ⟨by decide, by decide⟩) hS (fun H locs hP hS => ?_)
              refine lv_if_le (tgt := 113) hx hb dL_act_81 (by decide) (fun c15 => ?_) (fun c15 => ?_)
              · rw [if_pos c15] at h
                refine lv_bipush (v := 36) hx hb dL_act_113 rfl ?_
                refine lv_iload_n hx hb dL_act_115 rfl (lv_at hl 3 rfl) ?_
                refine lv_iconst (v := 5) hx hb dL_act_116 rfl ?_
                refine lv_iload hx hb dL_act_117 (lv_at hl 9 rfl) ?_
                refine lv_imul hx hb dL_act_119 ?_
                refine lv_ishr hx hb dL_act_120 ?_
                refine lv_iload hx hb dL_act_121 (lv_at hl 9 rfl) ?_
                refine lv_iadd hx hb dL_act_123 ?_
                refine lv_bipush (v := 49) hx hb dL_act_124 rfl ?_
                obtain ⟨v16, hv16, h⟩ := hy_bind h
                refine hy_ret (hy_rS0 (T := (C, M8, Mo)) (v := some (.int v16)) (T2 := (C, M8, Mo)) (As := [.int ((a3 >>> ((5 * x7) &&& 31)) + x7), .int 49]) (rest := [.int 36, .int (((5 * v4) + 1) + x7), .ref (adr G 31)]) (n := 0) hx hb hml hown hts hX hP hS hl (c_La_at C Mo ((a3 >>> ((5 * x7) &&& 31)) + x7) 49 M8 hv16) m_La_at q_641 rfl rfl (Nat.le_of_ble_eq_true rfl) dL_act_126 ⟨Nat.le_of_ble_eq_true rfl, Nat.le_of_ble_eq_true rfl⟩ ⟨by decide, by decide⟩) hS (fun H locs hP hS => ?_)
                refine lv_iadd hx hb dL_act_129 ?_
                obtain ⟨M17, hM17, h⟩ := hy_bind h
                obtain ⟨nM17, hM17⟩ := stE_some hM17
                refine hy_iast (T := (C, M8, Mo)) (T2 := (C, (wI M8 31 (((5 * v4) + 1) + x7).toNatClampNeg (36 + v16)), Mo)) hx hb hX hP hS 31 60 (hy34 G (by decide)) (fun _ _ => rfl) nM17 rfl dL_act_130 (fun H locs hP hS => ?_)
                rw [hM17] at hP
                refine lv_iinc (v := (x7 + 1)) (lv' := [(9, .int (x7 + 1)), (0, .ref (adr G 0)), (1, .int a1), (2, .int a2), (3, .int a3), (4, .ref (adr G 30)), (5, .ref (adr G 31)), (6, .ref (adr G 32)), (7, .ref (adr G 33)), (8, .int (5 * v4))]) hx hb dL_act_131 hl (k := 9) rfl rfl (by decide) rfl (fun ls hl => ?_)
                refine lv_goto (tgt := 49) hx hb dL_act_134 (by decide) ?_
                exact ih (x7 + 1) M17 _ h  _ _ ls hP hS (lv_sub hl [1, 2, 3, 4, 5, 6, 7, 8, 9, 0] rfl) kk
              · rw [if_neg c15] at h
                refine lv_aload hx hb dL_act_84 (lv_at hl 5 rfl) ?_
                refine lv_iload hx hb dL_act_86 (lv_at hl 8 rfl) ?_
                refine lv_iconst (v := 4) hx hb dL_act_88 rfl ?_
                refine lv_isub hx hb dL_act_89 ?_
                refine lv_iload hx hb dL_act_90 (lv_at hl 9 rfl) ?_
                refine lv_iadd hx hb dL_act_92 ?_
                obtain ⟨v18, hv18, h⟩ := hy_bind h
                obtain ⟨nv18, hv18⟩ := ldE_some hv18
                refine hy_iald (T := (C, M8, Mo)) hx hb hX hP 31 60 (M8.1 31) (hy34 G (by decide)) rfl nv18 dL_act_93 ?_
                rw [hv18]
                refine lv_iload_n hx hb dL_act_94 rfl (lv_at hl 3 rfl) ?_
                refine lv_iconst (v := 3) hx hb dL_act_95 rfl ?_
                refine lv_iload hx hb dL_act_96 (lv_at hl 9 rfl) ?_
                refine lv_imul hx hb dL_act_98 ?_
                refine lv_ishr hx hb dL_act_99 ?_
                refine lv_bipush (v := 9) hx hb dL_act_100 rfl ?_
                obtain ⟨v19, hv19, h⟩ := hy_bind h
                refine hy_ret (hy_rS0 (T := (C, M8, Mo)) (v := some (.int v19)) (T2 := (C, M8, Mo)) (As := [.int (a3 >>> ((3 * x7) &&& 31)), .int 9]) (rest := [.int v18, .int (((5 * v4) + 1) + x7), .ref (adr G 31)]) (n := 0) hx hb hml hown hts hX hP hS hl (c_La_at C Mo (a3 >>> ((3 * x7) &&& 31)) 9 M8 hv19) m_La_at q_641 rfl rfl (Nat.le_of_ble_eq_true rfl) dL_act_102 ⟨Nat.le_of_ble_eq_true rfl, Nat.le_of_ble_eq_true rfl⟩ ⟨by decide, by decide⟩) hS (fun H locs hP hS => ?_)
                refine lv_iconst (v := 4) hx hb dL_act_105 rfl ?_
                refine lv_isub hx hb dL_act_106 ?_
                refine hy_ret (hy_rS0 (T := (C, M8, Mo)) (v := some (.int (La_moved v18 (v19 - 4) M8))) (T2 := (C, M8, Mo)) (As := [.int v18, .int (v19 - 4)]) (rest := [.int (((5 * v4) + 1) + x7), .ref (adr G 31)]) (n := 0) hx hb hml hown hts hX hP hS hl (c_La_moved C Mo v18 (v19 - 4) M8 rfl) m_La_moved q_981 rfl rfl (Nat.le_of_ble_eq_true rfl) dL_act_107 ⟨Nat.le_of_ble_eq_true rfl, Nat.le_of_ble_eq_true rfl⟩ ⟨by decide, by decide⟩) hS (fun H locs hP hS => ?_)
                refine lv_goto (tgt := 130) hx hb dL_act_110 (by decide) ?_
                obtain ⟨M20, hM20, h⟩ := hy_bind h
                obtain ⟨nM20, hM20⟩ := stE_some hM20
                refine hy_iast (T := (C, M8, Mo)) (T2 := (C, (wI M8 31 (((5 * v4) + 1) + x7).toNatClampNeg (La_moved v18 (v19 - 4) M8)), Mo)) hx hb hX hP hS 31 60 (hy34 G (by decide)) (fun _ _ => rfl) nM20 rfl dL_act_130 (fun H locs hP hS => ?_)
                rw [hM20] at hP
                refine lv_iinc (v := (x7 + 1)) (lv' := [(9, .int (x7 + 1)), (0, .ref (adr G 0)), (1, .int a1), (2, .int a2), (3, .int a3), (4, .ref (adr G 30)), (5, .ref (adr G 31)), (6, .ref (adr G 32)), (7, .ref (adr G 33)), (8, .int (5 * v4))]) hx hb dL_act_131 hl (k := 9) rfl rfl (by decide) rfl (fun ls hl => ?_)
                refine lv_goto (tgt := 49) hx hb dL_act_134 (by decide) ?_
                exact ih (x7 + 1) M20 _ h  _ _ ls hP hS (lv_sub hl [1, 2, 3, 4, 5, 6, 7, 8, 9, 0] rfl) kk
      obtain ⟨q35, hq35, h⟩ := hy_bind h
      refine L21 hyFu 0 M6 q35 hq35 _ _ ls hP hS (lv_sub hl [2, 3, 4, 5, 6, 7, 8, 9, 1, 0] rfl) ?_
      intro y7 NM8 e9 H locs ls hP hS hl
      subst e9
      try dsimp only at h
      refine lv_aload hx hb dL_act_137 (lv_at hl 4 rfl) ?_
      refine lv_iconst (v := 1) hx hb dL_act_139 rfl ?_
      refine lv_dup2_11 hx hb dL_act_140 rfl rfl ?_
      obtain ⟨v22, hv22, h⟩ := hy_bind h
      obtain ⟨nv22, hv22⟩ := ldE_some hv22
      refine hy_iald (T := (C, NM8, Mo)) hx hb hX hP 30 6 (NM8.1 30) (hy34 G (by decide)) rfl nv22 dL_act_141 ?_
      rw [hv22]
      refine lv_iconst (v := 1) hx hb dL_act_142 rfl ?_
      refine lv_iadd hx hb dL_act_143 ?_
      obtain ⟨M23, hM23, h⟩ := hy_bind h
      obtain ⟨nM23, hM23⟩ := stE_some hM23
      refine hy_iast (T := (C, NM8, Mo)) (T2 := (C, (wI NM8 30 (1 : Int32).toNatClampNeg (v22 + 1)), Mo)) hx hb hX hP hS 30 6 (hy34 G (by decide)) (fun _ _ => rfl) nM23 rfl dL_act_144 (fun H locs hP hS => ?_)
      rw [hM23] at hP
      refine lv_aload hx hb dL_act_145 (lv_at hl 4 rfl) ?_
      refine lv_aload hx hb dL_act_147 (lv_at hl 5 rfl) ?_
      refine lv_aload hx hb dL_act_149 (lv_at hl 6 rfl) ?_
      obtain ⟨M24, hM24, h⟩ := hy_bind h
      refine hy_ret (hy_rS0 (T := (C, M23, Mo)) (v := none) (T2 := (C, M24, Mo)) (As := [.ref (adr G 30), .ref (adr G 31), .ref (adr G 32)]) (rest := []) (n := 0) hx hb hml hown hts hX hP hS hl (c_La_settle C Mo M23 hM24) m_La_settle q_984 rfl rfl (Nat.le_of_ble_eq_true rfl) dL_act_151 ⟨Nat.le_of_ble_eq_true rfl, Nat.le_of_ble_eq_true rfl⟩ ⟨by decide, by decide⟩) hS (fun H locs hP hS => ?_)
      refine lv_aload_n hx hb dL_act_154 rfl (lv_at hl 0 rfl) ?_
      refine lv_aload hx hb dL_act_155 (lv_at hl 5 rfl) ?_
      refine lv_iload hx hb dL_act_157 (lv_at hl 8 rfl) ?_
      obtain ⟨v25, hv25, h⟩ := hy_bind h
      obtain ⟨nv25, hv25⟩ := ldE_some hv25
      refine hy_iald (T := (C, M24, Mo)) hx hb hX hP 31 60 (M24.1 31) (hy34 G (by decide)) rfl nv25 dL_act_159 ?_
      rw [hv25]
      refine lv_iconst (v := 2) hx hb dL_act_160 rfl ?_
      refine lv_ishr hx hb dL_act_161 ?_
      refine lv_aload hx hb dL_act_162 (lv_at hl 5 rfl) ?_
      refine lv_iload hx hb dL_act_164 (lv_at hl 8 rfl) ?_
      refine lv_iconst (v := 1) hx hb dL_act_166 rfl ?_
      refine lv_iadd hx hb dL_act_167 ?_
      obtain ⟨v26, hv26, h⟩ := hy_bind h
      obtain ⟨nv26, hv26⟩ := ldE_some hv26
      refine hy_iald (T := (C, M24, Mo)) hx hb hX hP 31 60 (M24.1 31) (hy34 G (by decide)) rfl nv26 dL_act_168 ?_
      rw [hv26]
      refine lv_aload hx hb dL_act_169 (lv_at hl 5 rfl) ?_
      refine lv_iload hx hb dL_act_171 (lv_at hl 8 rfl) ?_
      refine lv_iconst (v := 2) hx hb dL_act_173 rfl ?_
      refine lv_iadd hx hb dL_act_174 ?_
      obtain ⟨v27, hv27, h⟩ := hy_bind h
      obtain ⟨nv27, hv27⟩ := ldE_some hv27
      refine hy_iald (T := (C, M24, Mo)) hx hb hX hP 31 60 (M24.1 31) (hy34 G (by decide)) rfl nv27 dL_act_175 ?_
      rw [hv27]
      refine lv_aload hx hb dL_act_176 (lv_at hl 5 rfl) ?_
      refine lv_iload hx hb dL_act_178 (lv_at hl 8 rfl) ?_
      refine lv_iconst (v := 3) hx hb dL_act_180 rfl ?_
      refine lv_iadd hx hb dL_act_181 ?_
      obtain ⟨v28, hv28, h⟩ := hy_bind h
      obtain ⟨nv28, hv28⟩ := ldE_some hv28
      refine hy_iald (T := (C, M24, Mo)) hx hb hX hP 31 60 (M24.1 31) (hy34 G (by decide)) rfl nv28 dL_act_182 ?_
      rw [hv28]
      refine lv_aload hx hb dL_act_183 (lv_at hl 5 rfl) ?_
      refine lv_iload hx hb dL_act_185 (lv_at hl 8 rfl) ?_
      refine lv_iconst (v := 4) hx hb dL_act_187 rfl ?_
      refine lv_iadd hx hb dL_act_188 ?_
      obtain ⟨v29, hv29, h⟩ := hy_bind h
      obtain ⟨nv29, hv29⟩ := ldE_some hv29
      refine hy_iald (T := (C, M24, Mo)) hx hb hX hP 31 60 (M24.1 31) (hy34 G (by decide)) rfl nv29 dL_act_189 ?_
      rw [hv29]
      obtain ⟨⟨v30, C31⟩, hv30, h⟩ := hy_bind h
      try dsimp only at h
      refine hy_ret (hy_rV0 (T := (C, M24, Mo)) (v := some (.int v30)) (T2 := (C31, M24, Mo)) (As := [.int (v25 >>> (2 &&& 31)), .int v26, .int v27, .int v28, .int v29]) (rest := []) (n := 0) hx hb hml hown hts hX hP hS hl (c_Hp_addNote hlt M24 Mo (v25 >>> (2 &&& 31)) v26 v27 v28 v29 C (res := (.inr v30, C31)) (rtMb_some hv30)) m_Hp_addNote q_987 (hy_recv hX hP 0 9 (by decide) rfl rfl) rfl rfl (Nat.le_of_ble_eq_true rfl) dL_act_190 ⟨Nat.le_of_ble_eq_true rfl, Nat.le_of_ble_eq_true rfl⟩ ⟨by decide, by decide⟩) hS (fun H locs hP hS => ?_)
      refine lv_aload hx hb dL_act_193 (lv_at hl 4 rfl) ?_
      refine lv_iconst (v := 1) hx hb dL_act_195 rfl ?_
      obtain ⟨v32, hv32, h⟩ := hy_bind h
      obtain ⟨nv32, hv32⟩ := ldE_some hv32
      refine hy_iald (T := (C31, M24, Mo)) hx hb hX hP 30 6 (M24.1 30) (hy34 G (by decide)) rfl nv32 dL_act_196 ?_
      rw [hv32]
      refine lv_iconst (v := 1) hx hb dL_act_197 rfl ?_
      refine lv_isub hx hb dL_act_198 ?_
      have J34 : ∀ (H : Heap) (locs : List Loc) (ls : Array Slot) (u1 : Int32), u1 = (bI (decide (v30 = (v32 - 1)))) → va_P G.1 vwCl (wld G (C31, M24, Mo)) H → va_S (hyA G) s.heap H locs → lv_has ls 13 [(0, .ref (adr G 0)), (1, .int a1), (2, .int a2), (3, .int a3), (4, .ref (adr G 30)), (5, .ref (adr G 31)), (6, .ref (adr G 32)), (7, .ref (adr G 33)), (8, .int (5 * v4)), (9, .int y7)] → W p l e { frames := 9, cells := 5, slots := 6 * 5, locals := 192 } s m ([.ref (adr G 0), .int a1, .int a2, .int a3, .ref (adr G 30), .ref (adr G 31), .ref (adr G 32), .ref (adr G 33)] : List Value).toArray below meth c H locs 0 0 (vx_MQ below (hyQ G (.inr (some (.int (bI res.1))), (res.2.1, res.2.2, Mo))) (hyXQ G (.inr (some (.int (bI res.1))), (res.2.1, res.2.2, Mo))) ([.ref (adr G 0), .int a1, .int a2, .int a3, .ref (adr G 30), .ref (adr G 31), .ref (adr G 32), .ref (adr G 33)] : List Value).toArray s 5 (6 * 5) (hyA G)) (F0 m 207 ls [.int u1]) := by
        intro H locs ls u1 eu1 hP hS hl
        subst eu1
        exact hy_zret (T := (C31, M24, Mo)) hx hb hr hlocks hP hS (by decide) (by decide) (bI_nar (decide (v30 = (v32 - 1)))) (by rw [← (Option.some.inj h)] <;> rfl) dL_act_207
      refine lv_icmp_ne (tgt := 206) hx hb dL_act_199 (by decide) (fun c33 => ?_) (fun c33 => ?_)
      · refine lv_iconst (v := 0) hx hb dL_act_206 rfl ?_
        exact J34 _ _ ls 0 (by rw [decide_eq_false c33] <;> rfl) hP hS (lv_sub hl [0, 1, 2, 3, 4, 5, 6, 7, 8, 9] rfl)
      · refine lv_iconst (v := 1) hx hb dL_act_202 rfl ?_
        refine lv_goto (tgt := 207) hx hb dL_act_203 (by decide) ?_
        exact J34 _ _ ls 1 (by rw [decide_eq_true c33] <;> rfl) hP hS (lv_sub hl [0, 1, 2, 3, 4, 5, 6, 7, 8, 9] rfl)
    · rw [if_pos (c3)] at h
      refine lv_iconst (v := 1) hx hb dL_act_22 rfl ?_
      exact hy_zret (T := (C, M, Mo)) hx hb hr hlocks hP hS (by decide) (by decide) (bI_nar true) (by rw [← (Option.some.inj h)] <;> rfl) dL_act_23
  · rw [if_neg c1] at h
    refine lv_aload hx hb dL_act_6 (lv_at hl 4 rfl) ?_
    refine lv_iconst (v := 1) hx hb dL_act_8 rfl ?_
    obtain ⟨v36, hv36, h⟩ := hy_bind h
    obtain ⟨nv36, hv36⟩ := ldE_some hv36
    refine hy_iald (T := (C, M, Mo)) hx hb hX hP 30 6 (M.1 30) (hy34 G (by decide)) rfl nv36 dL_act_9 ?_
    rw [hv36]
    refine lv_if_ne (tgt := 208) hx hb dL_act_10 (by decide) (fun c37 => ?_) (fun c37 => ?_)
    · rw [if_neg c37] at h
      refine lv_iload_n hx hb dL_act_208 rfl (lv_at hl 2 rfl) ?_
      refine lv_aload hx hb dL_act_209 (lv_at hl 4 rfl) ?_
      refine lv_iconst (v := 1) hx hb dL_act_211 rfl ?_
      obtain ⟨v38, hv38, h⟩ := hy_bind h
      obtain ⟨nv38, hv38⟩ := ldE_some hv38
      refine hy_iald (T := (C, M, Mo)) hx hb hX hP 30 6 (M.1 30) (hy34 G (by decide)) rfl nv38 dL_act_212 ?_
      rw [hv38]
      obtain ⟨v39, hv39, h⟩ := hy_bind h
      refine hy_ret (hy_rS0 (T := (C, M, Mo)) (v := some (.int v39)) (T2 := (C, M, Mo)) (As := [.int a2, .int v38]) (rest := []) (n := 0) hx hb hml hown hts hX hP hS hl (c_La_at C Mo a2 v38 M hv39) m_La_at q_641 rfl rfl (Nat.le_of_ble_eq_true rfl) dL_act_213 ⟨Nat.le_of_ble_eq_true rfl, Nat.le_of_ble_eq_true rfl⟩ ⟨by decide, by decide⟩) hS (fun H locs hP hS => ?_)
      refine lv_istore (lv' := [(8, .int v39), (0, .ref (adr G 0)), (1, .int a1), (2, .int a2), (3, .int a3), (4, .ref (adr G 30)), (5, .ref (adr G 31)), (6, .ref (adr G 32)), (7, .ref (adr G 33))]) hx hb dL_act_216 hl (by decide) rfl (fun ls hl => ?_)
      refine lv_iload_n hx hb dL_act_218 rfl (lv_at hl 2 rfl) ?_
      refine lv_bipush (v := 10) hx hb dL_act_219 rfl ?_
      refine lv_icmp_ge (tgt := 340) hx hb dL_act_221 (by decide) (fun c40 => ?_) (fun c40 => ?_)
      · rw [if_pos c40] at h
        refine lv_iload_n hx hb dL_act_340 rfl (lv_at hl 2 rfl) ?_
        refine lv_bipush (v := 10) hx hb dL_act_341 rfl ?_
        refine lv_icmp_ne (tgt := 380) hx hb dL_act_343 (by decide) (fun c41 => ?_) (fun c41 => ?_)
        · rw [if_neg c41] at h
          refine lv_iload_n hx hb dL_act_380 rfl (lv_at hl 2 rfl) ?_
          refine lv_bipush (v := 11) hx hb dL_act_381 rfl ?_
          refine lv_icmp_ne (tgt := 461) hx hb dL_act_383 (by decide) (fun c42 => ?_) (fun c42 => ?_)
          · rw [if_neg c42] at h
            refine lv_iload_n hx hb dL_act_461 rfl (lv_at hl 2 rfl) ?_
            refine lv_bipush (v := 12) hx hb dL_act_462 rfl ?_
            refine lv_icmp_ne (tgt := 534) hx hb dL_act_464 (by decide) (fun c43 => ?_) (fun c43 => ?_)
            · rw [if_neg c43] at h
              refine lv_iload_n hx hb dL_act_534 rfl (lv_at hl 2 rfl) ?_
              refine lv_bipush (v := 15) hx hb dL_act_535 rfl ?_
              refine lv_icmp_ge (tgt := 741) hx hb dL_act_537 (by decide) (fun c44 => ?_) (fun c44 => ?_)
              · rw [if_pos c44] at h
                refine lv_iload_n hx hb dL_act_741 rfl (lv_at hl 2 rfl) ?_
                refine lv_bipush (v := 15) hx hb dL_act_742 rfl ?_
                refine lv_icmp_ne (tgt := 913) hx hb dL_act_744 (by decide) (fun c45 => ?_) (fun c45 => ?_)
                · rw [if_neg c45] at h
                  refine lv_iload_n hx hb dL_act_913 rfl (lv_at hl 2 rfl) ?_
                  refine lv_bipush (v := 16) hx hb dL_act_914 rfl ?_
                  refine lv_icmp_ne (tgt := 969) hx hb dL_act_916 (by decide) (fun c46 => ?_) (fun c46 => ?_)
                  · rw [if_neg c46] at h
                    refine lv_iload_n hx hb dL_act_969 rfl (lv_at hl 2 rfl) ?_
                    refine lv_bipush (v := 17) hx hb dL_act_970 rfl ?_
                    refine lv_icmp_ne (tgt := 1062) hx hb dL_act_972 (by decide) (fun c47 => ?_) (fun c47 => ?_)
                    · rw [if_neg c47] at h
                      refine lv_aload_n hx hb dL_act_1062 rfl (lv_at hl 1 rfl) ?_
                      refine lv_iload_n hx hb dL_act_1063 rfl (lv_at hl 3 rfl) ?_
                      refine lv_iload_n hx hb dL_act_1064 rfl (lv_at hl 4 rfl) ?_
                      refine lv_aload hx hb dL_act_1065 (lv_at hl 8 rfl) ?_
                      obtain ⟨⟨v48, C49, M50⟩, hv48, h⟩ := hy_bind h
                      try dsimp only at h
                      refine hy_ret (hy_rS0 (T := (C, M, Mo)) (v := some (.int (bI v48))) (T2 := (C49, M50, Mo)) (As := [.ref (adr G 0), .int a2, .int a3, .ref (adr G 33)]) (rest := []) (n := 0) hx hb hml hown hts hX hP hS hl (c_La_line hlt Mo a2 a3 C M hv48) m_La_line q_1067 rfl rfl (Nat.le_of_ble_eq_true rfl) dL_act_1067 ⟨Nat.le_of_ble_eq_true rfl, Nat.le_of_ble_eq_true rfl⟩ ⟨by decide, by decide⟩) hS (fun H locs hP hS => ?_)
                      exact hy_zret (T := (C49, M50, Mo)) hx hb hr hlocks hP hS (by decide) (by decide) (bI_nar v48) (by rw [← (Option.some.inj h)] <;> rfl) dL_act_1070
                    · rw [if_pos (c47)] at h
                      refine lv_iload_n hx hb dL_act_975 rfl (lv_at hl 4 rfl) ?_
                      refine lv_iconst (v := 3) hx hb dL_act_976 rfl ?_
                      obtain ⟨v51, hv51, h⟩ := hy_bind h
                      refine hy_ret (hy_rS0 (T := (C, M, Mo)) (v := some (.int v51)) (T2 := (C, M, Mo)) (As := [.int a3, .int 3]) (rest := []) (n := 0) hx hb hml hown hts hX hP hS hl (c_La_at C Mo a3 3 M hv51) m_La_at q_641 rfl rfl (Nat.le_of_ble_eq_true rfl) dL_act_977 ⟨Nat.le_of_ble_eq_true rfl, Nat.le_of_ble_eq_true rfl⟩ ⟨by decide, by decide⟩) hS (fun H locs hP hS => ?_)
                      refine lv_if_ne (tgt := 1062) hx hb dL_act_980 (by decide) (fun c52 => ?_) (fun c52 => ?_)
                      · rw [if_neg c52] at h
                        refine lv_aload_n hx hb dL_act_1062 rfl (lv_at hl 1 rfl) ?_
                        refine lv_iload_n hx hb dL_act_1063 rfl (lv_at hl 3 rfl) ?_
                        refine lv_iload_n hx hb dL_act_1064 rfl (lv_at hl 4 rfl) ?_
                        refine lv_aload hx hb dL_act_1065 (lv_at hl 8 rfl) ?_
                        obtain ⟨⟨v53, C54, M55⟩, hv53, h⟩ := hy_bind h
                        try dsimp only at h
                        refine hy_ret (hy_rS0 (T := (C, M, Mo)) (v := some (.int (bI v53))) (T2 := (C54, M55, Mo)) (As := [.ref (adr G 0), .int a2, .int a3, .ref (adr G 33)]) (rest := []) (n := 0) hx hb hml hown hts hX hP hS hl (c_La_line hlt Mo a2 a3 C M hv53) m_La_line q_1067 rfl rfl (Nat.le_of_ble_eq_true rfl) dL_act_1067 ⟨Nat.le_of_ble_eq_true rfl, Nat.le_of_ble_eq_true rfl⟩ ⟨by decide, by decide⟩) hS (fun H locs hP hS => ?_)
                        exact hy_zret (T := (C54, M55, Mo)) hx hb hr hlocks hP hS (by decide) (by decide) (bI_nar v53) (by rw [← (Option.some.inj h)] <;> rfl) dL_act_1070
                      · rw [if_pos (c52)] at h
                        refine lv_iload_n hx hb dL_act_983 rfl (lv_at hl 3 rfl) ?_
                        refine lv_iconst (v := 2) hx hb dL_act_984 rfl ?_
                        obtain ⟨v56, hv56, h⟩ := hy_bind h
                        refine hy_ret (hy_rS0 (T := (C, M, Mo)) (v := some (.int v56)) (T2 := (C, M, Mo)) (As := [.int a2, .int 2]) (rest := []) (n := 0) hx hb hml hown hts hX hP hS hl (c_La_at C Mo a2 2 M hv56) m_La_at q_641 rfl rfl (Nat.le_of_ble_eq_true rfl) dL_act_985 ⟨Nat.le_of_ble_eq_true rfl, Nat.le_of_ble_eq_true rfl⟩ ⟨by decide, by decide⟩) hS (fun H locs hP hS => ?_)
                        refine lv_istore (lv' := [(9, .int v56), (8, .int v39), (0, .ref (adr G 0)), (1, .int a1), (2, .int a2), (3, .int a3), (4, .ref (adr G 30)), (5, .ref (adr G 31)), (6, .ref (adr G 32)), (7, .ref (adr G 33))]) hx hb dL_act_988 hl (by decide) rfl (fun ls hl => ?_)
                        refine lv_iconst (v := 0) hx hb dL_act_990 rfl ?_
                        refine lv_istore (lv' := [(10, .int 0), (9, .int v56), (8, .int v39), (0, .ref (adr G 0)), (1, .int a1), (2, .int a2), (3, .int a3), (4, .ref (adr G 30)), (5, .ref (adr G 31)), (6, .ref (adr G 32)), (7, .ref (adr G 33))]) hx hb dL_act_991 hl (by decide) rfl (fun ls hl => ?_)
                        refine lv_iconst (v := 0) hx hb dL_act_993 rfl ?_
                        refine lv_istore (lv' := [(11, .int 0), (10, .int 0), (9, .int v56), (8, .int v39), (0, .ref (adr G 0)), (1, .int a1), (2, .int a2), (3, .int a3), (4, .ref (adr G 30)), (5, .ref (adr G 31)), (6, .ref (adr G 32)), (7, .ref (adr G 33))]) hx hb dL_act_994 hl (by decide) rfl (fun ls hl => ?_)
                        have L65 : ∀ (f : Nat) (x57 : Int32) (x58 : Int32) (M59 : hyM) (qL : (Int32 × Int32 × hyM)) (h : La_act_L996 v56 f x57 x58 M59 = some qL) (H : Heap) (locs : List Loc) (ls : Array Slot) (hP : va_P G.1 vwCl (wld G (C, M59, Mo)) H) (hS : va_S (hyA G) s.heap H locs) (hl : lv_has ls 13 [(0, .ref (adr G 0)), (1, .int a1), (2, .int a2), (3, .int a3), (4, .ref (adr G 30)), (5, .ref (adr G 31)), (6, .ref (adr G 32)), (7, .ref (adr G 33)), (8, .int v39), (9, .int v56), (10, .int x57), (11, .int x58)]) (kk : ∀ (y57 : Int32) (y58 : Int32) (NM59 : hyM), qL = (y57, y58, NM59) → ∀ (H : Heap) (locs : List Loc) (ls : Array Slot), va_P G.1 vwCl (wld G (C, NM59, Mo)) H → va_S (hyA G) s.heap H locs → lv_has ls 13 [(0, .ref (adr G 0)), (1, .int a1), (2, .int a2), (3, .int a3), (4, .ref (adr G 30)), (5, .ref (adr G 31)), (6, .ref (adr G 32)), (7, .ref (adr G 33)), (8, .int v39), (9, .int v56), (10, .int y57), (11, .int y58)] → W p l e { frames := 9, cells := 5, slots := 6 * 5, locals := 192 } s m ([.ref (adr G 0), .int a1, .int a2, .int a3, .ref (adr G 30), .ref (adr G 31), .ref (adr G 32), .ref (adr G 33)] : List Value).toArray below meth c H locs 0 0 (vx_MQ below (hyQ G (.inr (some (.int (bI res.1))), (res.2.1, res.2.2, Mo))) (hyXQ G (.inr (some (.int (bI res.1))), (res.2.1, res.2.2, Mo))) ([.ref (adr G 0), .int a1, .int a2, .int a3, .ref (adr G 30), .ref (adr G 31), .ref (adr G 32), .ref (adr G 33)] : List Value).toArray s 5 (6 * 5) (hyA G)) (F0 m 1045 ls [])), W p l e { frames := 9, cells := 5, slots := 6 * 5, locals := 192 } s m ([.ref (adr G 0), .int a1, .int a2, .int a3, .ref (adr G 30), .ref (adr G 31), .ref (adr G 32), .ref (adr G 33)] : List Value).toArray below meth c H locs 0 0 (vx_MQ below (hyQ G (.inr (some (.int (bI res.1))), (res.2.1, res.2.2, Mo))) (hyXQ G (.inr (some (.int (bI res.1))), (res.2.1, res.2.2, Mo))) ([.ref (adr G 0), .int a1, .int a2, .int a3, .ref (adr G 30), .ref (adr G 31), .ref (adr G 32), .ref (adr G 33)] : List Value).toArray s 5 (6 * 5) (hyA G)) (F0 m 996 ls []) := by
                          intro f
                          induction f with
                          | zero =>
                            intro x57 x58 M59 qL h H locs ls hP hS hl kk
                            rw [La_act_L996] at h
                            cases h
                          | succ f ih =>
                            intro x57 x58 M59 qL h H locs ls hP hS hl kk
                            rw [La_act_L996] at h
                            refine lv_iload hx hb dL_act_996 (lv_at hl 11 rfl) ?_
                            refine lv_bipush (v := 8) hx hb dL_act_998 rfl ?_
                            refine lv_icmp_ge (tgt := 1045) hx hb dL_act_1000 (by decide) (fun c60 => ?_) (fun c60 => ?_)
                            · rw [if_pos c60] at h
                              exact kk x57 x58 M59 (Option.some.inj h).symm _ _ ls hP hS (lv_sub hl [0, 1, 2, 3, 4, 5, 6, 7, 8, 9, 10, 11] rfl)
                            · rw [if_neg c60] at h
                              refine lv_iload hx hb dL_act_1003 (lv_at hl 10 rfl) ?_
                              refine lv_aload hx hb dL_act_1005 (lv_at hl 7 rfl) ?_
                              refine lv_bipush (v := 8) hx hb dL_act_1007 rfl ?_
                              refine lv_iload hx hb dL_act_1009 (lv_at hl 9 rfl) ?_
                              refine lv_imul hx hb dL_act_1011 ?_
                              refine lv_iload hx hb dL_act_1012 (lv_at hl 11 rfl) ?_
                              refine lv_iadd hx hb dL_act_1014 ?_
                              obtain ⟨v61, hv61, h⟩ := hy_bind h
                              obtain ⟨nv61, hv61⟩ := ldE_some hv61
                              refine hy_iald (T := (C, M59, Mo)) hx hb hX hP 33 16 (M59.1 33) (hy34 G (by decide)) rfl nv61 dL_act_1015 ?_
                              rw [hv61]
                              have J64 : ∀ (H : Heap) (locs : List Loc) (ls : Array Slot) (u1 : Int32), u1 = (bI (!decide (v61 ≤ 0))) → va_P G.1 vwCl (wld G (C, M59, Mo)) H → va_S (hyA G) s.heap H locs → lv_has ls 13 [(0, .ref (adr G 0)), (1, .int a1), (2, .int a2), (3, .int a3), (4, .ref (adr G 30)), (5, .ref (adr G 31)), (6, .ref (adr G 32)), (7, .ref (adr G 33)), (8, .int v39), (9, .int v56), (10, .int x57), (11, .int x58)] → W p l e { frames := 9, cells := 5, slots := 6 * 5, locals := 192 } s m ([.ref (adr G 0), .int a1, .int a2, .int a3, .ref (adr G 30), .ref (adr G 31), .ref (adr G 32), .ref (adr G 33)] : List Value).toArray below meth c H locs 0 0 (vx_MQ below (hyQ G (.inr (some (.int (bI res.1))), (res.2.1, res.2.2, Mo))) (hyXQ G (.inr (some (.int (bI res.1))), (res.2.1, res.2.2, Mo))) ([.ref (adr G 0), .int a1, .int a2, .int a3, .ref (adr G 30), .ref (adr G 31), .ref (adr G 32), .ref (adr G 33)] : List Value).toArray s 5 (6 * 5) (hyA G)) (F0 m 1024 ls [.int u1, .int x57]) := by
                                intro H locs ls u1 eu1 hP hS hl
                                subst eu1
                                refine lv_iadd hx hb dL_act_1024 ?_
                                refine lv_istore (lv' := [(10, .int (x57 + (bI (!decide (v61 ≤ 0))))), (0, .ref (adr G 0)), (1, .int a1), (2, .int a2), (3, .int a3), (4, .ref (adr G 30)), (5, .ref (adr G 31)), (6, .ref (adr G 32)), (7, .ref (adr G 33)), (8, .int v39), (9, .int v56), (11, .int x58)]) hx hb dL_act_1025 hl (by decide) rfl (fun ls hl => ?_)
                                refine lv_aload hx hb dL_act_1027 (lv_at hl 8 rfl) ?_
                                refine lv_bipush (v := 8) hx hb dL_act_1029 rfl ?_
                                refine lv_iload hx hb dL_act_1031 (lv_at hl 10 rfl) ?_
                                refine lv_imul hx hb dL_act_1033 ?_
                                refine lv_iload hx hb dL_act_1034 (lv_at hl 11 rfl) ?_
                                refine lv_iadd hx hb dL_act_1036 ?_
                                refine lv_iconst (v := 0) hx hb dL_act_1037 rfl ?_
                                obtain ⟨M63, hM63, h⟩ := hy_bind h
                                obtain ⟨nM63, hM63⟩ := stE_some hM63
                                refine hy_iast (T := (C, M59, Mo)) (T2 := (C, (wI M59 33 ((8 * v56) + x58).toNatClampNeg 0), Mo)) hx hb hX hP hS 33 16 (hy34 G (by decide)) (fun _ _ => rfl) nM63 rfl dL_act_1038 (fun H locs hP hS => ?_)
                                rw [hM63] at hP
                                refine lv_iinc (v := (x58 + 1)) (lv' := [(11, .int (x58 + 1)), (10, .int (x57 + (bI (!decide (v61 ≤ 0))))), (0, .ref (adr G 0)), (1, .int a1), (2, .int a2), (3, .int a3), (4, .ref (adr G 30)), (5, .ref (adr G 31)), (6, .ref (adr G 32)), (7, .ref (adr G 33)), (8, .int v39), (9, .int v56)]) hx hb dL_act_1039 hl (k := 11) rfl rfl (by decide) rfl (fun ls hl => ?_)
                                refine lv_goto (tgt := 996) hx hb dL_act_1042 (by decide) ?_
                                exact ih (x57 + (bI (!decide (v61 ≤ 0)))) (x58 + 1) M63 _ h  _ _ ls hP hS (lv_sub hl [2, 3, 4, 5, 6, 7, 8, 9, 10, 11, 1, 0] rfl) kk
                              refine lv_if_le (tgt := 1023) hx hb dL_act_1016 (by decide) (fun c62 => ?_) (fun c62 => ?_)
                              · refine lv_iconst (v := 0) hx hb dL_act_1023 rfl ?_
                                exact J64 _ _ ls 0 (by rw [decide_eq_true c62] <;> rfl) hP hS (lv_sub hl [0, 1, 2, 3, 4, 5, 6, 7, 8, 9, 10, 11] rfl)
                              · refine lv_iconst (v := 1) hx hb dL_act_1019 rfl ?_
                                refine lv_goto (tgt := 1024) hx hb dL_act_1020 (by decide) ?_
                                exact J64 _ _ ls 1 (by rw [decide_eq_false c62] <;> rfl) hP hS (lv_sub hl [0, 1, 2, 3, 4, 5, 6, 7, 8, 9, 10, 11] rfl)
                        obtain ⟨q70, hq70, h⟩ := hy_bind h
                        refine L65 hyFu 0 0 M q70 hq70 _ _ ls hP hS (lv_sub hl [4, 5, 6, 7, 8, 9, 10, 11, 3, 2, 1, 0] rfl) ?_
                        intro y57 y58 NM59 e9 H locs ls hP hS hl
                        subst e9
                        try dsimp only at h
                        refine lv_aload_n hx hb dL_act_1045 rfl (lv_at hl 0 rfl) ?_
                        refine lv_iload hx hb dL_act_1046 (lv_at hl 9 rfl) ?_
                        obtain ⟨⟨v66, C67⟩, hv66, h⟩ := hy_bind h
                        try dsimp only at h
                        refine hy_ret (hy_rV0 (T := (C, NM59, Mo)) (v := some (.int v66)) (T2 := (C67, NM59, Mo)) (As := [.int v56]) (rest := []) (n := 0) hx hb hml hown hts hX hP hS hl (c_Hp_clearVerse hlt NM59 Mo v56 C (res := (.inr v66, C67)) (rtMb_some hv66)) m_Hp_clearVerse q_1063 (hy_recv hX hP 0 9 (by decide) rfl rfl) rfl rfl (Nat.le_of_ble_eq_true rfl) dL_act_1048 ⟨Nat.le_of_ble_eq_true rfl, Nat.le_of_ble_eq_true rfl⟩ ⟨by decide, by decide⟩) hS (fun H locs hP hS => ?_)
                        refine lv_iload hx hb dL_act_1051 (lv_at hl 10 rfl) ?_
                        have J69 : ∀ (H : Heap) (locs : List Loc) (ls : Array Slot) (u1 : Int32), u1 = (bI (decide (v66 = y57))) → va_P G.1 vwCl (wld G (C67, NM59, Mo)) H → va_S (hyA G) s.heap H locs → lv_has ls 13 [(0, .ref (adr G 0)), (1, .int a1), (2, .int a2), (3, .int a3), (4, .ref (adr G 30)), (5, .ref (adr G 31)), (6, .ref (adr G 32)), (7, .ref (adr G 33)), (8, .int v39), (9, .int v56), (10, .int y57), (11, .int y58)] → W p l e { frames := 9, cells := 5, slots := 6 * 5, locals := 192 } s m ([.ref (adr G 0), .int a1, .int a2, .int a3, .ref (adr G 30), .ref (adr G 31), .ref (adr G 32), .ref (adr G 33)] : List Value).toArray below meth c H locs 0 0 (vx_MQ below (hyQ G (.inr (some (.int (bI res.1))), (res.2.1, res.2.2, Mo))) (hyXQ G (.inr (some (.int (bI res.1))), (res.2.1, res.2.2, Mo))) ([.ref (adr G 0), .int a1, .int a2, .int a3, .ref (adr G 30), .ref (adr G 31), .ref (adr G 32), .ref (adr G 33)] : List Value).toArray s 5 (6 * 5) (hyA G)) (F0 m 1061 ls [.int u1]) := by
                          intro H locs ls u1 eu1 hP hS hl
                          subst eu1
                          exact hy_zret (T := (C67, NM59, Mo)) hx hb hr hlocks hP hS (by decide) (by decide) (bI_nar (decide (v66 = y57))) (by rw [← (Option.some.inj h)] <;> rfl) dL_act_1061
                        refine lv_icmp_ne (tgt := 1060) hx hb dL_act_1053 (by decide) (fun c68 => ?_) (fun c68 => ?_)
                        · refine lv_iconst (v := 0) hx hb dL_act_1060 rfl ?_
                          exact J69 _ _ ls 0 (by rw [decide_eq_false c68] <;> rfl) hP hS (lv_sub hl [0, 1, 2, 3, 4, 5, 6, 7, 8, 9, 10, 11] rfl)
                        · refine lv_iconst (v := 1) hx hb dL_act_1056 rfl ?_
                          refine lv_goto (tgt := 1061) hx hb dL_act_1057 (by decide) ?_
                          exact J69 _ _ ls 1 (by rw [decide_eq_true c68] <;> rfl) hP hS (lv_sub hl [0, 1, 2, 3, 4, 5, 6, 7, 8, 9, 10, 11] rfl)
                  · rw [if_pos (c46)] at h
                    refine lv_aload hx hb dL_act_919 (lv_at hl 5 rfl) ?_
                    refine lv_iconst (v := 4) hx hb dL_act_921 rfl ?_
                    refine lv_bipush (v := 20) hx hb dL_act_922 rfl ?_
                    refine lv_iload_n hx hb dL_act_924 rfl (lv_at hl 3 rfl) ?_
                    refine lv_iload_n hx hb dL_act_925 rfl (lv_at hl 4 rfl) ?_
                    refine lv_iconst (v := 2) hx hb dL_act_926 rfl ?_
                    obtain ⟨v71, hv71, h⟩ := hy_bind h
                    refine hy_ret (hy_rS0 (T := (C, M, Mo)) (v := some (.int v71)) (T2 := (C, M, Mo)) (As := [.int a3, .int 2]) (rest := [.int a2, .int 20, .int 4, .ref (adr G 30)]) (n := 0) hx hb hml hown hts hX hP hS hl (c_La_at C Mo a3 2 M hv71) m_La_at q_641 rfl rfl (Nat.le_of_ble_eq_true rfl) dL_act_927 ⟨Nat.le_of_ble_eq_true rfl, Nat.le_of_ble_eq_true rfl⟩ ⟨by decide, by decide⟩) hS (fun H locs hP hS => ?_)
                    have J81 : ∀ (H : Heap) (locs : List Loc) (ls : Array Slot) (u1 : Int32), u1 = ((if v71 = 0 then 181 else 25) : Int32) → va_P G.1 vwCl (wld G (C, M, Mo)) H → va_S (hyA G) s.heap H locs → lv_has ls 13 [(0, .ref (adr G 0)), (1, .int a1), (2, .int a2), (3, .int a3), (4, .ref (adr G 30)), (5, .ref (adr G 31)), (6, .ref (adr G 32)), (7, .ref (adr G 33)), (8, .int v39)] → W p l e { frames := 9, cells := 5, slots := 6 * 5, locals := 192 } s m ([.ref (adr G 0), .int a1, .int a2, .int a3, .ref (adr G 30), .ref (adr G 31), .ref (adr G 32), .ref (adr G 33)] : List Value).toArray below meth c H locs 0 0 (vx_MQ below (hyQ G (.inr (some (.int (bI res.1))), (res.2.1, res.2.2, Mo))) (hyXQ G (.inr (some (.int (bI res.1))), (res.2.1, res.2.2, Mo))) ([.ref (adr G 0), .int a1, .int a2, .int a3, .ref (adr G 30), .ref (adr G 31), .ref (adr G 32), .ref (adr G 33)] : List Value).toArray s 5 (6 * 5) (hyA G)) (F0 m 941 ls [.int u1, .int a2, .int 20, .int 4, .ref (adr G 30)]) := by
                      intro H locs ls u1 eu1 hP hS hl
                      subst eu1
                      obtain ⟨v73, hv73, h⟩ := hy_bind h
                      refine hy_ret (hy_rS0 (T := (C, M, Mo)) (v := some (.int v73)) (T2 := (C, M, Mo)) (As := [.int a2, .int ((if v71 = 0 then 181 else 25) : Int32)]) (rest := [.int 20, .int 4, .ref (adr G 30)]) (n := 0) hx hb hml hown hts hX hP hS hl (c_La_at C Mo a2 ((if v71 = 0 then 181 else 25) : Int32) M hv73) m_La_at q_641 rfl rfl (Nat.le_of_ble_eq_true rfl) dL_act_941 ⟨Nat.le_of_ble_eq_true rfl, Nat.le_of_ble_eq_true rfl⟩ ⟨by decide, by decide⟩) hS (fun H locs hP hS => ?_)
                      refine lv_iadd hx hb dL_act_944 ?_
                      obtain ⟨M74, hM74, h⟩ := hy_bind h
                      obtain ⟨nM74, hM74⟩ := stE_some hM74
                      refine hy_iast (T := (C, M, Mo)) (T2 := (C, (wI M 30 (4 : Int32).toNatClampNeg (20 + v73)), Mo)) hx hb hX hP hS 30 6 (hy34 G (by decide)) (fun _ _ => rfl) nM74 rfl dL_act_945 (fun H locs hP hS => ?_)
                      rw [hM74] at hP
                      refine lv_aload_n hx hb dL_act_946 rfl (lv_at hl 0 rfl) ?_
                      refine lv_aload hx hb dL_act_947 (lv_at hl 4 rfl) ?_
                      refine lv_iconst (v := 4) hx hb dL_act_949 rfl ?_
                      obtain ⟨v75, hv75, h⟩ := hy_bind h
                      obtain ⟨nv75, hv75⟩ := ldE_some hv75
                      refine hy_iald (T := (C, M74, Mo)) hx hb hX hP 30 6 (M74.1 30) (hy34 G (by decide)) rfl nv75 dL_act_950 ?_
                      rw [hv75]
                      obtain ⟨⟨v76, C77⟩, hv76, h⟩ := hy_bind h
                      try dsimp only at h
                      refine hy_ret (hy_rV0 (T := (C, M74, Mo)) (v := some (.int v76)) (T2 := (C77, M74, Mo)) (As := [.int v75]) (rest := []) (n := 0) hx hb hml hown hts hX hP hS hl (c_Hp_setWidth hlt M74 Mo v75 C (res := (.inr v76, C77)) (rtMb_some hv76)) m_Hp_setWidth q_1059 (hy_recv hX hP 0 9 (by decide) rfl rfl) rfl rfl (Nat.le_of_ble_eq_true rfl) dL_act_951 ⟨Nat.le_of_ble_eq_true rfl, Nat.le_of_ble_eq_true rfl⟩ ⟨by decide, by decide⟩) hS (fun H locs hP hS => ?_)
                      refine lv_aload_n hx hb dL_act_954 rfl (lv_at hl 0 rfl) ?_
                      refine lv_bipush (v := 10) hx hb dL_act_955 rfl ?_
                      obtain ⟨v78, hv78, h⟩ := hy_bind h
                      refine hy_ret (hy_rV0 (T := (C77, M74, Mo)) (v := some (.int v78)) (T2 := (C77, M74, Mo)) (As := [.int 10]) (rest := [.int v76]) (n := 0) hx hb hml hown hts hX hP hS hl (c_Hp_count hlt M74 Mo 10 C77 (res := .inr v78) (rtb_some hv78)) m_Hp_count q_578 (hy_recv hX hP 0 9 (by decide) rfl rfl) rfl rfl (Nat.le_of_ble_eq_true rfl) dL_act_957 ⟨Nat.le_of_ble_eq_true rfl, Nat.le_of_ble_eq_true rfl⟩ ⟨by decide, by decide⟩) hS (fun H locs hP hS => ?_)
                      have J80 : ∀ (H : Heap) (locs : List Loc) (ls : Array Slot) (u1 : Int32), u1 = (bI (decide (v76 = v78))) → va_P G.1 vwCl (wld G (C77, M74, Mo)) H → va_S (hyA G) s.heap H locs → lv_has ls 13 [(0, .ref (adr G 0)), (1, .int a1), (2, .int a2), (3, .int a3), (4, .ref (adr G 30)), (5, .ref (adr G 31)), (6, .ref (adr G 32)), (7, .ref (adr G 33)), (8, .int v39)] → W p l e { frames := 9, cells := 5, slots := 6 * 5, locals := 192 } s m ([.ref (adr G 0), .int a1, .int a2, .int a3, .ref (adr G 30), .ref (adr G 31), .ref (adr G 32), .ref (adr G 33)] : List Value).toArray below meth c H locs 0 0 (vx_MQ below (hyQ G (.inr (some (.int (bI res.1))), (res.2.1, res.2.2, Mo))) (hyXQ G (.inr (some (.int (bI res.1))), (res.2.1, res.2.2, Mo))) ([.ref (adr G 0), .int a1, .int a2, .int a3, .ref (adr G 30), .ref (adr G 31), .ref (adr G 32), .ref (adr G 33)] : List Value).toArray s 5 (6 * 5) (hyA G)) (F0 m 968 ls [.int u1]) := by
                        intro H locs ls u1 eu1 hP hS hl
                        subst eu1
                        exact hy_zret (T := (C77, M74, Mo)) hx hb hr hlocks hP hS (by decide) (by decide) (bI_nar (decide (v76 = v78))) (by rw [← (Option.some.inj h)] <;> rfl) dL_act_968
                      refine lv_icmp_ne (tgt := 967) hx hb dL_act_960 (by decide) (fun c79 => ?_) (fun c79 => ?_)
                      · refine lv_iconst (v := 0) hx hb dL_act_967 rfl ?_
                        exact J80 _ _ ls 0 (by rw [decide_eq_false c79] <;> rfl) hP hS (lv_sub hl [0, 1, 2, 3, 4, 5, 6, 7, 8] rfl)
                      · refine lv_iconst (v := 1) hx hb dL_act_963 rfl ?_
                        refine lv_goto (tgt := 968) hx hb dL_act_964 (by decide) ?_
                        exact J80 _ _ ls 1 (by rw [decide_eq_true c79] <;> rfl) hP hS (lv_sub hl [0, 1, 2, 3, 4, 5, 6, 7, 8] rfl)
                    refine lv_if_ne (tgt := 939) hx hb dL_act_930 (by decide) (fun c72 => ?_) (fun c72 => ?_)
                    · refine lv_bipush (v := 25) hx hb dL_act_939 rfl ?_
                      exact J81 _ _ ls 25 (by rw [if_neg c72] <;> rfl) hP hS (lv_sub hl [1, 2, 3, 4, 5, 6, 7, 8, 0] rfl)
                    · refine lv_sipush (v := 181) hx hb dL_act_933 rfl ?_
                      refine lv_goto (tgt := 941) hx hb dL_act_936 (by decide) ?_
                      exact J81 _ _ ls 181 (by rw [if_pos c72] <;> rfl) hP hS (lv_sub hl [1, 2, 3, 4, 5, 6, 7, 8, 0] rfl)
                · rw [if_pos (c45)] at h
                  refine lv_iload_n hx hb dL_act_747 rfl (lv_at hl 3 rfl) ?_
                  refine lv_bipush (v := 15) hx hb dL_act_748 rfl ?_
                  obtain ⟨v82, hv82, h⟩ := hy_bind h
                  refine hy_ret (hy_rS0 (T := (C, M, Mo)) (v := some (.int v82)) (T2 := (C, M, Mo)) (As := [.int a2, .int 15]) (rest := []) (n := 0) hx hb hml hown hts hX hP hS hl (c_La_at C Mo a2 15 M hv82) m_La_at q_641 rfl rfl (Nat.le_of_ble_eq_true rfl) dL_act_750 ⟨Nat.le_of_ble_eq_true rfl, Nat.le_of_ble_eq_true rfl⟩ ⟨by decide, by decide⟩) hS (fun H locs hP hS => ?_)
                  refine lv_bipush (v := 7) hx hb dL_act_753 rfl ?_
                  refine lv_isub hx hb dL_act_755 ?_
                  refine lv_istore (lv' := [(9, .int (v82 - 7)), (8, .int v39), (0, .ref (adr G 0)), (1, .int a1), (2, .int a2), (3, .int a3), (4, .ref (adr G 30)), (5, .ref (adr G 31)), (6, .ref (adr G 32)), (7, .ref (adr G 33))]) hx hb dL_act_756 hl (by decide) rfl (fun ls hl => ?_)
                  refine lv_iconst (v := 0) hx hb dL_act_758 rfl ?_
                  refine lv_istore (lv' := [(10, .int 0), (9, .int (v82 - 7)), (8, .int v39), (0, .ref (adr G 0)), (1, .int a1), (2, .int a2), (3, .int a3), (4, .ref (adr G 30)), (5, .ref (adr G 31)), (6, .ref (adr G 32)), (7, .ref (adr G 33))]) hx hb dL_act_759 hl (by decide) rfl (fun ls hl => ?_)
                  have L94 : ∀ (f : Nat) (x83 : Int32) (qL : ((Bool × hyM × hyM) ⊕ (Int32))) (h : La_act_L761 C M v82 f x83 = some qL) (hq : ∀ r9, qL = .inl r9 → res = r9) (H : Heap) (locs : List Loc) (ls : Array Slot) (hP : va_P G.1 vwCl (wld G (C, M, Mo)) H) (hS : va_S (hyA G) s.heap H locs) (hl : lv_has ls 13 [(0, .ref (adr G 0)), (1, .int a1), (2, .int a2), (3, .int a3), (4, .ref (adr G 30)), (5, .ref (adr G 31)), (6, .ref (adr G 32)), (7, .ref (adr G 33)), (8, .int v39), (9, .int (v82 - 7)), (10, .int x83)]) (kk : ∀ (y83 : Int32), qL = .inr (y83) → ∀ (H : Heap) (locs : List Loc) (ls : Array Slot), va_P G.1 vwCl (wld G (C, M, Mo)) H → va_S (hyA G) s.heap H locs → lv_has ls 13 [(0, .ref (adr G 0)), (1, .int a1), (2, .int a2), (3, .int a3), (4, .ref (adr G 30)), (5, .ref (adr G 31)), (6, .ref (adr G 32)), (7, .ref (adr G 33)), (8, .int v39), (9, .int (v82 - 7)), (10, .int y83)] → W p l e { frames := 9, cells := 5, slots := 6 * 5, locals := 192 } s m ([.ref (adr G 0), .int a1, .int a2, .int a3, .ref (adr G 30), .ref (adr G 31), .ref (adr G 32), .ref (adr G 33)] : List Value).toArray below meth c H locs 0 0 (vx_MQ below (hyQ G (.inr (some (.int (bI res.1))), (res.2.1, res.2.2, Mo))) (hyXQ G (.inr (some (.int (bI res.1))), (res.2.1, res.2.2, Mo))) ([.ref (adr G 0), .int a1, .int a2, .int a3, .ref (adr G 30), .ref (adr G 31), .ref (adr G 32), .ref (adr G 33)] : List Value).toArray s 5 (6 * 5) (hyA G)) (F0 m 829 ls [])), W p l e { frames := 9, cells := 5, slots := 6 * 5, locals := 192 } s m ([.ref (adr G 0), .int a1, .int a2, .int a3, .ref (adr G 30), .ref (adr G 31), .ref (adr G 32), .ref (adr G 33)] : List Value).toArray below meth c H locs 0 0 (vx_MQ below (hyQ G (.inr (some (.int (bI res.1))), (res.2.1, res.2.2, Mo))) (hyXQ G (.inr (some (.int (bI res.1))), (res.2.1, res.2.2, Mo))) ([.ref (adr G 0), .int a1, .int a2, .int a3, .ref (adr G 30), .ref (adr G 31), .ref (adr G 32), .ref (adr G 33)] : List Value).toArray s 5 (6 * 5) (hyA G)) (F0 m 761 ls []) := by
                    intro f
                    induction f with
                    | zero =>
                      intro x83 qL h hq H locs ls hP hS hl kk
                      rw [La_act_L761] at h
                      cases h
                    | succ f ih =>
                      intro x83 qL h hq H locs ls hP hS hl kk
                      rw [La_act_L761] at h
                      refine lv_iload hx hb dL_act_761 (lv_at hl 10 rfl) ?_
                      refine lv_aload hx hb dL_act_763 (lv_at hl 4 rfl) ?_
                      refine lv_iconst (v := 1) hx hb dL_act_765 rfl ?_
                      obtain ⟨v84, hv84, h⟩ := hy_bind h
                      obtain ⟨nv84, hv84⟩ := ldE_some hv84
                      refine hy_iald (T := (C, M, Mo)) hx hb hX hP 30 6 (M.1 30) (hy34 G (by decide)) rfl nv84 dL_act_766 ?_
                      rw [hv84]
                      refine lv_icmp_ge (tgt := 829) hx hb dL_act_767 (by decide) (fun c85 => ?_) (fun c85 => ?_)
                      · rw [if_pos c85] at h
                        exact kk x83 (Option.some.inj h).symm _ _ ls hP hS (lv_sub hl [0, 1, 2, 3, 4, 5, 6, 7, 8, 9, 10] rfl)
                      · rw [if_neg c85] at h
                        refine lv_iconst (v := 1) hx hb dL_act_770 rfl ?_
                        refine lv_istore (lv' := [(11, .int 1), (0, .ref (adr G 0)), (1, .int a1), (2, .int a2), (3, .int a3), (4, .ref (adr G 30)), (5, .ref (adr G 31)), (6, .ref (adr G 32)), (7, .ref (adr G 33)), (8, .int v39), (9, .int (v82 - 7)), (10, .int x83)]) hx hb dL_act_771 hl (by decide) rfl (fun ls hl => ?_)
                        have L92 : ∀ (f : Nat) (x86 : Int32) (qL : ((Bool × hyM × hyM) ⊕ (Int32))) (h : La_act_L773 C M v82 x83 f x86 = some qL) (hq : ∀ r9, qL = .inl r9 → res = r9) (H : Heap) (locs : List Loc) (ls : Array Slot) (hP : va_P G.1 vwCl (wld G (C, M, Mo)) H) (hS : va_S (hyA G) s.heap H locs) (hl : lv_has ls 13 [(0, .ref (adr G 0)), (1, .int a1), (2, .int a2), (3, .int a3), (4, .ref (adr G 30)), (5, .ref (adr G 31)), (6, .ref (adr G 32)), (7, .ref (adr G 33)), (8, .int v39), (9, .int (v82 - 7)), (10, .int x83), (11, .int x86)]) (kk : ∀ (y86 : Int32), qL = .inr (y86) → ∀ (H : Heap) (locs : List Loc) (ls : Array Slot), va_P G.1 vwCl (wld G (C, M, Mo)) H → va_S (hyA G) s.heap H locs → lv_has ls 13 [(0, .ref (adr G 0)), (1, .int a1), (2, .int a2), (3, .int a3), (4, .ref (adr G 30)), (5, .ref (adr G 31)), (6, .ref (adr G 32)), (7, .ref (adr G 33)), (8, .int v39), (9, .int (v82 - 7)), (10, .int x83), (11, .int y86)] → W p l e { frames := 9, cells := 5, slots := 6 * 5, locals := 192 } s m ([.ref (adr G 0), .int a1, .int a2, .int a3, .ref (adr G 30), .ref (adr G 31), .ref (adr G 32), .ref (adr G 33)] : List Value).toArray below meth c H locs 0 0 (vx_MQ below (hyQ G (.inr (some (.int (bI res.1))), (res.2.1, res.2.2, Mo))) (hyXQ G (.inr (some (.int (bI res.1))), (res.2.1, res.2.2, Mo))) ([.ref (adr G 0), .int a1, .int a2, .int a3, .ref (adr G 30), .ref (adr G 31), .ref (adr G 32), .ref (adr G 33)] : List Value).toArray s 5 (6 * 5) (hyA G)) (F0 m 823 ls [])), W p l e { frames := 9, cells := 5, slots := 6 * 5, locals := 192 } s m ([.ref (adr G 0), .int a1, .int a2, .int a3, .ref (adr G 30), .ref (adr G 31), .ref (adr G 32), .ref (adr G 33)] : List Value).toArray below meth c H locs 0 0 (vx_MQ below (hyQ G (.inr (some (.int (bI res.1))), (res.2.1, res.2.2, Mo))) (hyXQ G (.inr (some (.int (bI res.1))), (res.2.1, res.2.2, Mo))) ([.ref (adr G 0), .int a1, .int a2, .int a3, .ref (adr G 30), .ref (adr G 31), .ref (adr G 32), .ref (adr G 33)] : List Value).toArray s 5 (6 * 5) (hyA G)) (F0 m 773 ls []) := by
                          intro f
                          induction f with
                          | zero =>
                            intro x86 qL h hq H locs ls hP hS hl kk
                            rw [La_act_L773] at h
                            cases h
                          | succ f ih =>
                            intro x86 qL h hq H locs ls hP hS hl kk
                            rw [La_act_L773] at h
                            refine lv_iload hx hb dL_act_773 (lv_at hl 11 rfl) ?_
                            refine lv_iconst (v := 5) hx hb dL_act_775 rfl ?_
                            refine lv_icmp_ge (tgt := 823) hx hb dL_act_776 (by decide) (fun c87 => ?_) (fun c87 => ?_)
                            · rw [if_pos c87] at h
                              exact kk x86 (Option.some.inj h).symm _ _ ls hP hS (lv_sub hl [0, 1, 2, 3, 4, 5, 6, 7, 8, 9, 10, 11] rfl)
                            · rw [if_neg c87] at h
                              refine lv_aload hx hb dL_act_779 (lv_at hl 5 rfl) ?_
                              refine lv_iconst (v := 5) hx hb dL_act_781 rfl ?_
                              refine lv_iload hx hb dL_act_782 (lv_at hl 10 rfl) ?_
                              refine lv_imul hx hb dL_act_784 ?_
                              refine lv_iload hx hb dL_act_785 (lv_at hl 11 rfl) ?_
                              refine lv_iadd hx hb dL_act_787 ?_
                              obtain ⟨v88, hv88, h⟩ := hy_bind h
                              obtain ⟨nv88, hv88⟩ := ldE_some hv88
                              refine hy_iald (T := (C, M, Mo)) hx hb hX hP 31 60 (M.1 31) (hy34 G (by decide)) rfl nv88 dL_act_788 ?_
                              rw [hv88]
                              refine lv_iload hx hb dL_act_789 (lv_at hl 9 rfl) ?_
                              refine lv_iadd hx hb dL_act_791 ?_
                              refine lv_bipush (v := 36) hx hb dL_act_792 rfl ?_
                              refine lv_icmp_lt (tgt := 815) hx hb dL_act_794 (by decide) (fun c89 => ?_) (fun c89 => ?_)
                              · rw [if_pos c89] at h
                                refine lv_iconst (v := 1) hx hb dL_act_815 rfl ?_
                                exact hy_zret (T := (C, M, Mo)) hx hb hr hlocks hP hS (by decide) (by decide) (bI_nar true) (by rw [← (hq _ (Option.some.inj h).symm).symm] <;> rfl) dL_act_816
                              · rw [if_neg c89] at h
                                refine lv_aload hx hb dL_act_797 (lv_at hl 5 rfl) ?_
                                refine lv_iconst (v := 5) hx hb dL_act_799 rfl ?_
                                refine lv_iload hx hb dL_act_800 (lv_at hl 10 rfl) ?_
                                refine lv_imul hx hb dL_act_802 ?_
                                refine lv_iload hx hb dL_act_803 (lv_at hl 11 rfl) ?_
                                refine lv_iadd hx hb dL_act_805 ?_
                                obtain ⟨v90, hv90, h⟩ := hy_bind h
                                obtain ⟨nv90, hv90⟩ := ldE_some hv90
                                refine hy_iald (T := (C, M, Mo)) hx hb hX hP 31 60 (M.1 31) (hy34 G (by decide)) rfl nv90 dL_act_806 ?_
                                rw [hv90]
                                refine lv_iload hx hb dL_act_807 (lv_at hl 9 rfl) ?_
                                refine lv_iadd hx hb dL_act_809 ?_
                                refine lv_bipush (v := 84) hx hb dL_act_810 rfl ?_
                                refine lv_icmp_le (tgt := 817) hx hb dL_act_812 (by decide) (fun c91 => ?_) (fun c91 => ?_)
                                · rw [if_pos c91] at h
                                  refine lv_iinc (v := (x86 + 1)) (lv' := [(11, .int (x86 + 1)), (0, .ref (adr G 0)), (1, .int a1), (2, .int a2), (3, .int a3), (4, .ref (adr G 30)), (5, .ref (adr G 31)), (6, .ref (adr G 32)), (7, .ref (adr G 33)), (8, .int v39), (9, .int (v82 - 7)), (10, .int x83)]) hx hb dL_act_817 hl (k := 11) rfl rfl (by decide) rfl (fun ls hl => ?_)
                                  refine lv_goto (tgt := 773) hx hb dL_act_820 (by decide) ?_
                                  exact ih (x86 + 1) _ h hq _ _ ls hP hS (lv_sub hl [1, 2, 3, 4, 5, 6, 7, 8, 9, 10, 11, 0] rfl) kk
                                · rw [if_neg c91] at h
                                  refine lv_iconst (v := 1) hx hb dL_act_815 rfl ?_
                                  exact hy_zret (T := (C, M, Mo)) hx hb hr hlocks hP hS (by decide) (by decide) (bI_nar true) (by rw [← (hq _ (Option.some.inj h).symm).symm] <;> rfl) dL_act_816
                        obtain ⟨q93, hq93, h⟩ := hy_bind h
                        refine L92 hyFu 1 q93 hq93 (fun r9 e9 => by subst e9; exact (hq _ (Option.some.inj h).symm)) _ _ ls hP hS (lv_sub hl [1, 2, 3, 4, 5, 6, 7, 8, 9, 10, 11, 0] rfl) ?_
                        intro y86 e9 H locs ls hP hS hl
                        subst e9
                        try dsimp only at h
                        refine lv_iinc (v := (x83 + 1)) (lv' := [(10, .int (x83 + 1)), (0, .ref (adr G 0)), (1, .int a1), (2, .int a2), (3, .int a3), (4, .ref (adr G 30)), (5, .ref (adr G 31)), (6, .ref (adr G 32)), (7, .ref (adr G 33)), (8, .int v39), (9, .int (v82 - 7)), (11, .int y86)]) hx hb dL_act_823 hl (k := 10) rfl rfl (by decide) rfl (fun ls hl => ?_)
                        refine lv_goto (tgt := 761) hx hb dL_act_826 (by decide) ?_
                        exact ih (x83 + 1) _ h hq _ _ ls hP hS (lv_sub hl [1, 2, 3, 4, 5, 6, 7, 8, 9, 10, 0] rfl) kk
                  obtain ⟨q115, hq115, h⟩ := hy_bind h
                  refine L94 hyFu 0 q115 hq115 (fun r9 e9 => by subst e9; exact (Option.some.inj h).symm) _ _ ls hP hS (lv_sub hl [3, 4, 5, 6, 7, 8, 9, 10, 2, 1, 0] rfl) ?_
                  intro y83 e9 H locs ls hP hS hl
                  subst e9
                  try dsimp only at h
                  refine lv_iconst (v := 0) hx hb dL_act_829 rfl ?_
                  refine lv_istore (lv' := [(10, .int 0), (0, .ref (adr G 0)), (1, .int a1), (2, .int a2), (3, .int a3), (4, .ref (adr G 30)), (5, .ref (adr G 31)), (6, .ref (adr G 32)), (7, .ref (adr G 33)), (8, .int v39), (9, .int (v82 - 7))]) hx hb dL_act_830 hl (by decide) rfl (fun ls hl => ?_)
                  have L106 : ∀ (f : Nat) (x95 : Int32) (M96 : hyM) (qL : (Int32 × hyM)) (h : La_act_L832 v82 f x95 M96 = some qL) (H : Heap) (locs : List Loc) (ls : Array Slot) (hP : va_P G.1 vwCl (wld G (C, M96, Mo)) H) (hS : va_S (hyA G) s.heap H locs) (hl : lv_has ls 13 [(0, .ref (adr G 0)), (1, .int a1), (2, .int a2), (3, .int a3), (4, .ref (adr G 30)), (5, .ref (adr G 31)), (6, .ref (adr G 32)), (7, .ref (adr G 33)), (8, .int v39), (9, .int (v82 - 7)), (10, .int x95)]) (kk : ∀ (y95 : Int32) (NM96 : hyM), qL = (y95, NM96) → ∀ (H : Heap) (locs : List Loc) (ls : Array Slot), va_P G.1 vwCl (wld G (C, NM96, Mo)) H → va_S (hyA G) s.heap H locs → lv_has ls 13 [(0, .ref (adr G 0)), (1, .int a1), (2, .int a2), (3, .int a3), (4, .ref (adr G 30)), (5, .ref (adr G 31)), (6, .ref (adr G 32)), (7, .ref (adr G 33)), (8, .int v39), (9, .int (v82 - 7)), (10, .int y95)] → W p l e { frames := 9, cells := 5, slots := 6 * 5, locals := 192 } s m ([.ref (adr G 0), .int a1, .int a2, .int a3, .ref (adr G 30), .ref (adr G 31), .ref (adr G 32), .ref (adr G 33)] : List Value).toArray below meth c H locs 0 0 (vx_MQ below (hyQ G (.inr (some (.int (bI res.1))), (res.2.1, res.2.2, Mo))) (hyXQ G (.inr (some (.int (bI res.1))), (res.2.1, res.2.2, Mo))) ([.ref (adr G 0), .int a1, .int a2, .int a3, .ref (adr G 30), .ref (adr G 31), .ref (adr G 32), .ref (adr G 33)] : List Value).toArray s 5 (6 * 5) (hyA G)) (F0 m 877 ls [])), W p l e { frames := 9, cells := 5, slots := 6 * 5, locals := 192 } s m ([.ref (adr G 0), .int a1, .int a2, .int a3, .ref (adr G 30), .ref (adr G 31), .ref (adr G 32), .ref (adr G 33)] : List Value).toArray below meth c H locs 0 0 (vx_MQ below (hyQ G (.inr (some (.int (bI res.1))), (res.2.1, res.2.2, Mo))) (hyXQ G (.inr (some (.int (bI res.1))), (res.2.1, res.2.2, Mo))) ([.ref (adr G 0), .int a1, .int a2, .int a3, .ref (adr G 30), .ref (adr G 31), .ref (adr G 32), .ref (adr G 33)] : List Value).toArray s 5 (6 * 5) (hyA G)) (F0 m 832 ls []) := by
                    intro f
                    induction f with
                    | zero =>
                      intro x95 M96 qL h H locs ls hP hS hl kk
                      rw [La_act_L832] at h
                      cases h
                    | succ f ih =>
                      intro x95 M96 qL h H locs ls hP hS hl kk
                      rw [La_act_L832] at h
                      refine lv_iload hx hb dL_act_832 (lv_at hl 10 rfl) ?_
                      refine lv_aload hx hb dL_act_834 (lv_at hl 4 rfl) ?_
                      refine lv_iconst (v := 1) hx hb dL_act_836 rfl ?_
                      obtain ⟨v97, hv97, h⟩ := hy_bind h
                      obtain ⟨nv97, hv97⟩ := ldE_some hv97
                      refine hy_iald (T := (C, M96, Mo)) hx hb hX hP 30 6 (M96.1 30) (hy34 G (by decide)) rfl nv97 dL_act_837 ?_
                      rw [hv97]
                      refine lv_icmp_ge (tgt := 877) hx hb dL_act_838 (by decide) (fun c98 => ?_) (fun c98 => ?_)
                      · rw [if_pos c98] at h
                        exact kk x95 M96 (Option.some.inj h).symm _ _ ls hP hS (lv_sub hl [0, 1, 2, 3, 4, 5, 6, 7, 8, 9, 10] rfl)
                      · rw [if_neg c98] at h
                        refine lv_iconst (v := 1) hx hb dL_act_841 rfl ?_
                        refine lv_istore (lv' := [(11, .int 1), (0, .ref (adr G 0)), (1, .int a1), (2, .int a2), (3, .int a3), (4, .ref (adr G 30)), (5, .ref (adr G 31)), (6, .ref (adr G 32)), (7, .ref (adr G 33)), (8, .int v39), (9, .int (v82 - 7)), (10, .int x95)]) hx hb dL_act_842 hl (by decide) rfl (fun ls hl => ?_)
                        have L104 : ∀ (f : Nat) (x99 : Int32) (M100 : hyM) (qL : (Int32 × hyM)) (h : La_act_L844 v82 x95 f x99 M100 = some qL) (H : Heap) (locs : List Loc) (ls : Array Slot) (hP : va_P G.1 vwCl (wld G (C, M100, Mo)) H) (hS : va_S (hyA G) s.heap H locs) (hl : lv_has ls 13 [(0, .ref (adr G 0)), (1, .int a1), (2, .int a2), (3, .int a3), (4, .ref (adr G 30)), (5, .ref (adr G 31)), (6, .ref (adr G 32)), (7, .ref (adr G 33)), (8, .int v39), (9, .int (v82 - 7)), (10, .int x95), (11, .int x99)]) (kk : ∀ (y99 : Int32) (NM100 : hyM), qL = (y99, NM100) → ∀ (H : Heap) (locs : List Loc) (ls : Array Slot), va_P G.1 vwCl (wld G (C, NM100, Mo)) H → va_S (hyA G) s.heap H locs → lv_has ls 13 [(0, .ref (adr G 0)), (1, .int a1), (2, .int a2), (3, .int a3), (4, .ref (adr G 30)), (5, .ref (adr G 31)), (6, .ref (adr G 32)), (7, .ref (adr G 33)), (8, .int v39), (9, .int (v82 - 7)), (10, .int x95), (11, .int y99)] → W p l e { frames := 9, cells := 5, slots := 6 * 5, locals := 192 } s m ([.ref (adr G 0), .int a1, .int a2, .int a3, .ref (adr G 30), .ref (adr G 31), .ref (adr G 32), .ref (adr G 33)] : List Value).toArray below meth c H locs 0 0 (vx_MQ below (hyQ G (.inr (some (.int (bI res.1))), (res.2.1, res.2.2, Mo))) (hyXQ G (.inr (some (.int (bI res.1))), (res.2.1, res.2.2, Mo))) ([.ref (adr G 0), .int a1, .int a2, .int a3, .ref (adr G 30), .ref (adr G 31), .ref (adr G 32), .ref (adr G 33)] : List Value).toArray s 5 (6 * 5) (hyA G)) (F0 m 871 ls [])), W p l e { frames := 9, cells := 5, slots := 6 * 5, locals := 192 } s m ([.ref (adr G 0), .int a1, .int a2, .int a3, .ref (adr G 30), .ref (adr G 31), .ref (adr G 32), .ref (adr G 33)] : List Value).toArray below meth c H locs 0 0 (vx_MQ below (hyQ G (.inr (some (.int (bI res.1))), (res.2.1, res.2.2, Mo))) (hyXQ G (.inr (some (.int (bI res.1))), (res.2.1, res.2.2, Mo))) ([.ref (adr G 0), .int a1, .int a2, .int a3, .ref (adr G 30), .ref (adr G 31), .ref (adr G 32), .ref (adr G 33)] : List Value).toArray s 5 (6 * 5) (hyA G)) (F0 m 844 ls []) := by
                          intro f
                          induction f with
                          | zero =>
                            intro x99 M100 qL h H locs ls hP hS hl kk
                            rw [La_act_L844] at h
                            cases h
                          | succ f ih =>
                            intro x99 M100 qL h H locs ls hP hS hl kk
                            rw [La_act_L844] at h
                            refine lv_iload hx hb dL_act_844 (lv_at hl 11 rfl) ?_
                            refine lv_iconst (v := 5) hx hb dL_act_846 rfl ?_
                            refine lv_icmp_ge (tgt := 871) hx hb dL_act_847 (by decide) (fun c101 => ?_) (fun c101 => ?_)
                            · rw [if_pos c101] at h
                              exact kk x99 M100 (Option.some.inj h).symm _ _ ls hP hS (lv_sub hl [0, 1, 2, 3, 4, 5, 6, 7, 8, 9, 10, 11] rfl)
                            · rw [if_neg c101] at h
                              refine lv_aload hx hb dL_act_850 (lv_at hl 5 rfl) ?_
                              refine lv_iconst (v := 5) hx hb dL_act_852 rfl ?_
                              refine lv_iload hx hb dL_act_853 (lv_at hl 10 rfl) ?_
                              refine lv_imul hx hb dL_act_855 ?_
                              refine lv_iload hx hb dL_act_856 (lv_at hl 11 rfl) ?_
                              refine lv_iadd hx hb dL_act_858 ?_
                              refine lv_dup2_11 hx hb dL_act_859 rfl rfl ?_
                              obtain ⟨v102, hv102, h⟩ := hy_bind h
                              obtain ⟨nv102, hv102⟩ := ldE_some hv102
                              refine hy_iald (T := (C, M100, Mo)) hx hb hX hP 31 60 (M100.1 31) (hy34 G (by decide)) rfl nv102 dL_act_860 ?_
                              rw [hv102]
                              refine lv_iload hx hb dL_act_861 (lv_at hl 9 rfl) ?_
                              refine lv_iadd hx hb dL_act_863 ?_
                              obtain ⟨M103, hM103, h⟩ := hy_bind h
                              obtain ⟨nM103, hM103⟩ := stE_some hM103
                              refine hy_iast (T := (C, M100, Mo)) (T2 := (C, (wI M100 31 ((5 * x95) + x99).toNatClampNeg (v102 + (v82 - 7))), Mo)) hx hb hX hP hS 31 60 (hy34 G (by decide)) (fun _ _ => rfl) nM103 rfl dL_act_864 (fun H locs hP hS => ?_)
                              rw [hM103] at hP
                              refine lv_iinc (v := (x99 + 1)) (lv' := [(11, .int (x99 + 1)), (0, .ref (adr G 0)), (1, .int a1), (2, .int a2), (3, .int a3), (4, .ref (adr G 30)), (5, .ref (adr G 31)), (6, .ref (adr G 32)), (7, .ref (adr G 33)), (8, .int v39), (9, .int (v82 - 7)), (10, .int x95)]) hx hb dL_act_865 hl (k := 11) rfl rfl (by decide) rfl (fun ls hl => ?_)
                              refine lv_goto (tgt := 844) hx hb dL_act_868 (by decide) ?_
                              exact ih (x99 + 1) M103 _ h  _ _ ls hP hS (lv_sub hl [1, 2, 3, 4, 5, 6, 7, 8, 9, 10, 11, 0] rfl) kk
                        obtain ⟨q105, hq105, h⟩ := hy_bind h
                        refine L104 hyFu 1 M96 q105 hq105 _ _ ls hP hS (lv_sub hl [1, 2, 3, 4, 5, 6, 7, 8, 9, 10, 11, 0] rfl) ?_
                        intro y99 NM100 e9 H locs ls hP hS hl
                        subst e9
                        try dsimp only at h
                        refine lv_iinc (v := (x95 + 1)) (lv' := [(10, .int (x95 + 1)), (0, .ref (adr G 0)), (1, .int a1), (2, .int a2), (3, .int a3), (4, .ref (adr G 30)), (5, .ref (adr G 31)), (6, .ref (adr G 32)), (7, .ref (adr G 33)), (8, .int v39), (9, .int (v82 - 7)), (11, .int y99)]) hx hb dL_act_871 hl (k := 10) rfl rfl (by decide) rfl (fun ls hl => ?_)
                        refine lv_goto (tgt := 832) hx hb dL_act_874 (by decide) ?_
                        exact ih (x95 + 1) NM100 _ h  _ _ ls hP hS (lv_sub hl [1, 2, 3, 4, 5, 6, 7, 8, 9, 10, 0] rfl) kk
                  obtain ⟨q114, hq114, h⟩ := hy_bind h
                  refine L106 hyFu 0 M q114 hq114 _ _ ls hP hS (lv_sub hl [1, 2, 3, 4, 5, 6, 7, 8, 9, 10, 0] rfl) ?_
                  intro y95 NM96 e9 H locs ls hP hS hl
                  subst e9
                  try dsimp only at h
                  refine lv_aload hx hb dL_act_877 (lv_at hl 4 rfl) ?_
                  refine lv_iconst (v := 0) hx hb dL_act_879 rfl ?_
                  refine lv_aload hx hb dL_act_880 (lv_at hl 4 rfl) ?_
                  refine lv_iconst (v := 0) hx hb dL_act_882 rfl ?_
                  obtain ⟨v107, hv107, h⟩ := hy_bind h
                  obtain ⟨nv107, hv107⟩ := ldE_some hv107
                  refine hy_iald (T := (C, NM96, Mo)) hx hb hX hP 30 6 (NM96.1 30) (hy34 G (by decide)) rfl nv107 dL_act_883 ?_
                  rw [hv107]
                  refine lv_iload hx hb dL_act_884 (lv_at hl 9 rfl) ?_
                  refine lv_iadd hx hb dL_act_886 ?_
                  refine lv_bipush (v := 12) hx hb dL_act_887 rfl ?_
                  refine lv_iadd hx hb dL_act_889 ?_
                  refine lv_bipush (v := 12) hx hb dL_act_890 rfl ?_
                  refine lv_irem hx hb dL_act_892 (by decide) ?_
                  obtain ⟨M108, hM108, h⟩ := hy_bind h
                  obtain ⟨nM108, hM108⟩ := stE_some hM108
                  refine hy_iast (T := (C, NM96, Mo)) (T2 := (C, (wI NM96 30 (0 : Int32).toNatClampNeg (((v107 + (v82 - 7)) + 12) - ((v107 + (v82 - 7)) + 12) / 12 * 12)), Mo)) hx hb hX hP hS 30 6 (hy34 G (by decide)) (fun _ _ => rfl) nM108 rfl dL_act_893 (fun H locs hP hS => ?_)
                  rw [hM108] at hP
                  refine lv_aload_n hx hb dL_act_894 rfl (lv_at hl 0 rfl) ?_
                  refine lv_iload hx hb dL_act_895 (lv_at hl 9 rfl) ?_
                  obtain ⟨⟨v109, C110⟩, hv109, h⟩ := hy_bind h
                  try dsimp only at h
                  refine hy_ret (hy_rV0 (T := (C, M108, Mo)) (v := some (.int v109)) (T2 := (C110, M108, Mo)) (As := [.int (v82 - 7)]) (rest := []) (n := 0) hx hb hml hown hts hX hP hS hl (c_Hp_transpose hlt M108 Mo (v82 - 7) C (res := (.inr v109, C110)) (rtMb_some hv109)) m_Hp_transpose q_1046 (hy_recv hX hP 0 9 (by decide) rfl rfl) rfl rfl (Nat.le_of_ble_eq_true rfl) dL_act_897 ⟨Nat.le_of_ble_eq_true rfl, Nat.le_of_ble_eq_true rfl⟩ ⟨by decide, by decide⟩) hS (fun H locs hP hS => ?_)
                  refine lv_aload hx hb dL_act_900 (lv_at hl 4 rfl) ?_
                  refine lv_iconst (v := 0) hx hb dL_act_902 rfl ?_
                  obtain ⟨v111, hv111, h⟩ := hy_bind h
                  obtain ⟨nv111, hv111⟩ := ldE_some hv111
                  refine hy_iald (T := (C110, M108, Mo)) hx hb hX hP 30 6 (M108.1 30) (hy34 G (by decide)) rfl nv111 dL_act_903 ?_
                  rw [hv111]
                  have J113 : ∀ (H : Heap) (locs : List Loc) (ls : Array Slot) (u1 : Int32), u1 = (bI (decide (v109 = v111))) → va_P G.1 vwCl (wld G (C110, M108, Mo)) H → va_S (hyA G) s.heap H locs → lv_has ls 13 [(0, .ref (adr G 0)), (1, .int a1), (2, .int a2), (3, .int a3), (4, .ref (adr G 30)), (5, .ref (adr G 31)), (6, .ref (adr G 32)), (7, .ref (adr G 33)), (8, .int v39), (9, .int (v82 - 7)), (10, .int y95)] → W p l e { frames := 9, cells := 5, slots := 6 * 5, locals := 192 } s m ([.ref (adr G 0), .int a1, .int a2, .int a3, .ref (adr G 30), .ref (adr G 31), .ref (adr G 32), .ref (adr G 33)] : List Value).toArray below meth c H locs 0 0 (vx_MQ below (hyQ G (.inr (some (.int (bI res.1))), (res.2.1, res.2.2, Mo))) (hyXQ G (.inr (some (.int (bI res.1))), (res.2.1, res.2.2, Mo))) ([.ref (adr G 0), .int a1, .int a2, .int a3, .ref (adr G 30), .ref (adr G 31), .ref (adr G 32), .ref (adr G 33)] : List Value).toArray s 5 (6 * 5) (hyA G)) (F0 m 912 ls [.int u1]) := by
                    intro H locs ls u1 eu1 hP hS hl
                    subst eu1
                    exact hy_zret (T := (C110, M108, Mo)) hx hb hr hlocks hP hS (by decide) (by decide) (bI_nar (decide (v109 = v111))) (by rw [← (Option.some.inj h)] <;> rfl) dL_act_912
                  refine lv_icmp_ne (tgt := 911) hx hb dL_act_904 (by decide) (fun c112 => ?_) (fun c112 => ?_)
                  · refine lv_iconst (v := 0) hx hb dL_act_911 rfl ?_
                    exact J113 _ _ ls 0 (by rw [decide_eq_false c112] <;> rfl) hP hS (lv_sub hl [0, 1, 2, 3, 4, 5, 6, 7, 8, 9, 10] rfl)
                  · refine lv_iconst (v := 1) hx hb dL_act_907 rfl ?_
                    refine lv_goto (tgt := 912) hx hb dL_act_908 (by decide) ?_
                    exact J113 _ _ ls 1 (by rw [decide_eq_true c112] <;> rfl) hP hS (lv_sub hl [0, 1, 2, 3, 4, 5, 6, 7, 8, 9, 10] rfl)
              · rw [if_neg c44] at h
                refine lv_iload_n hx hb dL_act_540 rfl (lv_at hl 3 rfl) ?_
                refine lv_aload hx hb dL_act_541 (lv_at hl 5 rfl) ?_
                refine lv_aload hx hb dL_act_543 (lv_at hl 6 rfl) ?_
                obtain ⟨v116, hv116, h⟩ := hy_bind h
                refine hy_ret (hy_rS0 (T := (C, M, Mo)) (v := some (.int v116)) (T2 := (C, M, Mo)) (As := [.ref (adr G 30), .ref (adr G 31)]) (rest := [.int a2]) (n := 0) hx hb hml hown hts hX hP hS hl (c_La_phrases C Mo M hv116) m_La_phrases q_650 rfl rfl (Nat.le_of_ble_eq_true rfl) dL_act_545 ⟨Nat.le_of_ble_eq_true rfl, Nat.le_of_ble_eq_true rfl⟩ ⟨by decide, by decide⟩) hS (fun H locs hP hS => ?_)
                obtain ⟨v117, hv117, h⟩ := hy_bind h
                refine hy_ret (hy_rS0 (T := (C, M, Mo)) (v := some (.int v117)) (T2 := (C, M, Mo)) (As := [.int a2, .int v116]) (rest := []) (n := 0) hx hb hml hown hts hX hP hS hl (c_La_at C Mo a2 v116 M hv117) m_La_at q_641 rfl rfl (Nat.le_of_ble_eq_true rfl) dL_act_548 ⟨Nat.le_of_ble_eq_true rfl, Nat.le_of_ble_eq_true rfl⟩ ⟨by decide, by decide⟩) hS (fun H locs hP hS => ?_)
                refine lv_istore (lv' := [(9, .int v117), (8, .int v39), (0, .ref (adr G 0)), (1, .int a1), (2, .int a2), (3, .int a3), (4, .ref (adr G 30)), (5, .ref (adr G 31)), (6, .ref (adr G 32)), (7, .ref (adr G 33))]) hx hb dL_act_551 hl (by decide) rfl (fun ls hl => ?_)
                refine lv_iload hx hb dL_act_553 (lv_at hl 0 rfl) ?_
                refine lv_iload_n hx hb dL_act_555 rfl (lv_at hl 5 rfl) ?_
                refine lv_aload hx hb dL_act_556 (lv_at hl 6 rfl) ?_
                refine lv_aload hx hb dL_act_558 (lv_at hl 7 rfl) ?_
                obtain ⟨v118, hv118, h⟩ := hy_bind h
                refine hy_ret (hy_rS0 (T := (C, M, Mo)) (v := some (.int v118)) (T2 := (C, M, Mo)) (As := [.ref (adr G 30), .ref (adr G 31)]) (rest := [.int a3, .int v117]) (n := 0) hx hb hml hown hts hX hP hS hl (c_La_phrases C Mo M hv118) m_La_phrases q_650 rfl rfl (Nat.le_of_ble_eq_true rfl) dL_act_560 ⟨Nat.le_of_ble_eq_true rfl, Nat.le_of_ble_eq_true rfl⟩ ⟨by decide, by decide⟩) hS (fun H locs hP hS => ?_)
                refine lv_iload hx hb dL_act_563 (lv_at hl 0 rfl) ?_
                refine lv_isub hx hb dL_act_565 ?_
                obtain ⟨v119, hv119, h⟩ := hy_bind h
                refine hy_ret (hy_rS0 (T := (C, M, Mo)) (v := some (.int v119)) (T2 := (C, M, Mo)) (As := [.int a3, .int (v118 - v117)]) (rest := [.int v117]) (n := 0) hx hb hml hown hts hX hP hS hl (c_La_at C Mo a3 (v118 - v117) M hv119) m_La_at q_641 rfl rfl (Nat.le_of_ble_eq_true rfl) dL_act_566 ⟨Nat.le_of_ble_eq_true rfl, Nat.le_of_ble_eq_true rfl⟩ ⟨by decide, by decide⟩) hS (fun H locs hP hS => ?_)
                refine lv_iadd hx hb dL_act_569 ?_
                refine lv_istore (lv' := [(10, .int (v117 + v119)), (9, .int v117), (8, .int v39), (0, .ref (adr G 0)), (1, .int a1), (2, .int a2), (3, .int a3), (4, .ref (adr G 30)), (5, .ref (adr G 31)), (6, .ref (adr G 32)), (7, .ref (adr G 33))]) hx hb dL_act_570 hl (by decide) rfl (fun ls hl => ?_)
                refine lv_iload_n hx hb dL_act_572 rfl (lv_at hl 6 rfl) ?_
                refine lv_iconst (v := 4) hx hb dL_act_573 rfl ?_
                refine lv_ishr hx hb dL_act_574 ?_
                refine lv_iload hx hb dL_act_575 (lv_at hl 0 rfl) ?_
                refine lv_iload hx hb dL_act_577 (lv_at hl 1 rfl) ?_
                refine lv_isub hx hb dL_act_579 ?_
                refine lv_iconst (v := 1) hx hb dL_act_580 rfl ?_
                refine lv_iadd hx hb dL_act_581 ?_
                obtain ⟨v120, hv120, h⟩ := hy_bind h
                refine hy_ret (hy_rS0 (T := (C, M, Mo)) (v := some (.int v120)) (T2 := (C, M, Mo)) (As := [.int (a3 >>> (4 &&& 31)), .int (((v117 + v119) - v117) + 1)]) (rest := []) (n := 0) hx hb hml hown hts hX hP hS hl (c_La_at C Mo (a3 >>> (4 &&& 31)) (((v117 + v119) - v117) + 1) M hv120) m_La_at q_641 rfl rfl (Nat.le_of_ble_eq_true rfl) dL_act_582 ⟨Nat.le_of_ble_eq_true rfl, Nat.le_of_ble_eq_true rfl⟩ ⟨by decide, by decide⟩) hS (fun H locs hP hS => ?_)
                refine lv_istore (lv' := [(11, .int v120), (10, .int (v117 + v119)), (9, .int v117), (8, .int v39), (0, .ref (adr G 0)), (1, .int a1), (2, .int a2), (3, .int a3), (4, .ref (adr G 30)), (5, .ref (adr G 31)), (6, .ref (adr G 32)), (7, .ref (adr G 33))]) hx hb dL_act_585 hl (by decide) rfl (fun ls hl => ?_)
                refine lv_aload hx hb dL_act_587 (lv_at hl 8 rfl) ?_
                refine lv_iconst (v := 5) hx hb dL_act_589 rfl ?_
                obtain ⟨v121, hv121, h⟩ := hy_bind h
                obtain ⟨nv121, hv121⟩ := ldE_some hv121
                refine hy_iald (T := (C, M, Mo)) hx hb hX hP 30 6 (M.1 30) (hy34 G (by decide)) rfl nv121 dL_act_590 ?_
                rw [hv121]
                refine lv_iconst (v := 2) hx hb dL_act_591 rfl ?_
                refine lv_icmp_ne (tgt := 614) hx hb dL_act_592 (by decide) (fun c122 => ?_) (fun c122 => ?_)
                · rw [if_neg c122] at h
                  refine lv_iconst (v := 0) hx hb dL_act_614 rfl ?_
                  refine lv_istore (lv' := [(12, .int 0), (11, .int v120), (10, .int (v117 + v119)), (9, .int v117), (8, .int v39), (0, .ref (adr G 0)), (1, .int a1), (2, .int a2), (3, .int a3), (4, .ref (adr G 30)), (5, .ref (adr G 31)), (6, .ref (adr G 32)), (7, .ref (adr G 33))]) hx hb dL_act_615 hl (by decide) rfl (fun ls hl => ?_)
                  have L130 : ∀ (f : Nat) (x123 : Int32) (qL : ((Bool × hyM × hyM) ⊕ (Int32))) (h : La_act_L617 C M v117 v119 f x123 = some qL) (hq : ∀ r9, qL = .inl r9 → res = r9) (H : Heap) (locs : List Loc) (ls : Array Slot) (hP : va_P G.1 vwCl (wld G (C, M, Mo)) H) (hS : va_S (hyA G) s.heap H locs) (hl : lv_has ls 13 [(0, .ref (adr G 0)), (1, .int a1), (2, .int a2), (3, .int a3), (4, .ref (adr G 30)), (5, .ref (adr G 31)), (6, .ref (adr G 32)), (7, .ref (adr G 33)), (8, .int v39), (9, .int v117), (10, .int (v117 + v119)), (11, .int v120), (12, .int x123)]) (kk : ∀ (y123 : Int32), qL = .inr (y123) → ∀ (H : Heap) (locs : List Loc) (ls : Array Slot), va_P G.1 vwCl (wld G (C, M, Mo)) H → va_S (hyA G) s.heap H locs → lv_has ls 13 [(0, .ref (adr G 0)), (1, .int a1), (2, .int a2), (3, .int a3), (4, .ref (adr G 30)), (5, .ref (adr G 31)), (6, .ref (adr G 32)), (7, .ref (adr G 33)), (8, .int v39), (9, .int v117), (10, .int (v117 + v119)), (11, .int v120), (12, .int y123)] → W p l e { frames := 9, cells := 5, slots := 6 * 5, locals := 192 } s m ([.ref (adr G 0), .int a1, .int a2, .int a3, .ref (adr G 30), .ref (adr G 31), .ref (adr G 32), .ref (adr G 33)] : List Value).toArray below meth c H locs 0 0 (vx_MQ below (hyQ G (.inr (some (.int (bI res.1))), (res.2.1, res.2.2, Mo))) (hyXQ G (.inr (some (.int (bI res.1))), (res.2.1, res.2.2, Mo))) ([.ref (adr G 0), .int a1, .int a2, .int a3, .ref (adr G 30), .ref (adr G 31), .ref (adr G 32), .ref (adr G 33)] : List Value).toArray s 5 (6 * 5) (hyA G)) (F0 m 660 ls [])), W p l e { frames := 9, cells := 5, slots := 6 * 5, locals := 192 } s m ([.ref (adr G 0), .int a1, .int a2, .int a3, .ref (adr G 30), .ref (adr G 31), .ref (adr G 32), .ref (adr G 33)] : List Value).toArray below meth c H locs 0 0 (vx_MQ below (hyQ G (.inr (some (.int (bI res.1))), (res.2.1, res.2.2, Mo))) (hyXQ G (.inr (some (.int (bI res.1))), (res.2.1, res.2.2, Mo))) ([.ref (adr G 0), .int a1, .int a2, .int a3, .ref (adr G 30), .ref (adr G 31), .ref (adr G 32), .ref (adr G 33)] : List Value).toArray s 5 (6 * 5) (hyA G)) (F0 m 617 ls []) := by
                    intro f
                    induction f with
                    | zero =>
                      intro x123 qL h hq H locs ls hP hS hl kk
                      rw [La_act_L617] at h
                      cases h
                    | succ f ih =>
                      intro x123 qL h hq H locs ls hP hS hl kk
                      rw [La_act_L617] at h
                      refine lv_iload hx hb dL_act_617 (lv_at hl 12 rfl) ?_
                      refine lv_aload hx hb dL_act_619 (lv_at hl 4 rfl) ?_
                      refine lv_iconst (v := 5) hx hb dL_act_621 rfl ?_
                      obtain ⟨v124, hv124, h⟩ := hy_bind h
                      obtain ⟨nv124, hv124⟩ := ldE_some hv124
                      refine hy_iald (T := (C, M, Mo)) hx hb hX hP 30 6 (M.1 30) (hy34 G (by decide)) rfl nv124 dL_act_622 ?_
                      rw [hv124]
                      refine lv_icmp_ge (tgt := 660) hx hb dL_act_623 (by decide) (fun c125 => ?_) (fun c125 => ?_)
                      · rw [if_pos c125] at h
                        exact kk x123 (Option.some.inj h).symm _ _ ls hP hS (lv_sub hl [0, 1, 2, 3, 4, 5, 6, 7, 8, 9, 10, 11, 12] rfl)
                      · rw [if_neg c125] at h
                        refine lv_aload hx hb dL_act_626 (lv_at hl 6 rfl) ?_
                        refine lv_iconst (v := 3) hx hb dL_act_628 rfl ?_
                        refine lv_iload hx hb dL_act_629 (lv_at hl 12 rfl) ?_
                        refine lv_imul hx hb dL_act_631 ?_
                        obtain ⟨v126, hv126, h⟩ := hy_bind h
                        obtain ⟨nv126, hv126⟩ := ldE_some hv126
                        refine hy_iald (T := (C, M, Mo)) hx hb hX hP 32 9 (M.1 32) (hy34 G (by decide)) rfl nv126 dL_act_632 ?_
                        rw [hv126]
                        refine lv_iload hx hb dL_act_633 (lv_at hl 10 rfl) ?_
                        refine lv_icmp_gt (tgt := 654) hx hb dL_act_635 (by decide) (fun c127 => ?_) (fun c127 => ?_)
                        · rw [if_pos c127] at h
                          refine lv_iinc (v := (x123 + 1)) (lv' := [(12, .int (x123 + 1)), (0, .ref (adr G 0)), (1, .int a1), (2, .int a2), (3, .int a3), (4, .ref (adr G 30)), (5, .ref (adr G 31)), (6, .ref (adr G 32)), (7, .ref (adr G 33)), (8, .int v39), (9, .int v117), (10, .int (v117 + v119)), (11, .int v120)]) hx hb dL_act_654 hl (k := 12) rfl rfl (by decide) rfl (fun ls hl => ?_)
                          refine lv_goto (tgt := 617) hx hb dL_act_657 (by decide) ?_
                          exact ih (x123 + 1) _ h hq _ _ ls hP hS (lv_sub hl [1, 2, 3, 4, 5, 6, 7, 8, 9, 10, 11, 12, 0] rfl) kk
                        · rw [if_neg c127] at h
                          refine lv_aload hx hb dL_act_638 (lv_at hl 6 rfl) ?_
                          refine lv_iconst (v := 3) hx hb dL_act_640 rfl ?_
                          refine lv_iload hx hb dL_act_641 (lv_at hl 12 rfl) ?_
                          refine lv_imul hx hb dL_act_643 ?_
                          refine lv_iconst (v := 1) hx hb dL_act_644 rfl ?_
                          refine lv_iadd hx hb dL_act_645 ?_
                          obtain ⟨v128, hv128, h⟩ := hy_bind h
                          obtain ⟨nv128, hv128⟩ := ldE_some hv128
                          refine hy_iald (T := (C, M, Mo)) hx hb hX hP 32 9 (M.1 32) (hy34 G (by decide)) rfl nv128 dL_act_646 ?_
                          rw [hv128]
                          refine lv_iload hx hb dL_act_647 (lv_at hl 9 rfl) ?_
                          refine lv_icmp_lt (tgt := 654) hx hb dL_act_649 (by decide) (fun c129 => ?_) (fun c129 => ?_)
                          · rw [if_pos c129] at h
                            refine lv_iinc (v := (x123 + 1)) (lv' := [(12, .int (x123 + 1)), (0, .ref (adr G 0)), (1, .int a1), (2, .int a2), (3, .int a3), (4, .ref (adr G 30)), (5, .ref (adr G 31)), (6, .ref (adr G 32)), (7, .ref (adr G 33)), (8, .int v39), (9, .int v117), (10, .int (v117 + v119)), (11, .int v120)]) hx hb dL_act_654 hl (k := 12) rfl rfl (by decide) rfl (fun ls hl => ?_)
                            refine lv_goto (tgt := 617) hx hb dL_act_657 (by decide) ?_
                            exact ih (x123 + 1) _ h hq _ _ ls hP hS (lv_sub hl [1, 2, 3, 4, 5, 6, 7, 8, 9, 10, 11, 12, 0] rfl) kk
                          · rw [if_neg c129] at h
                            refine lv_iconst (v := 1) hx hb dL_act_652 rfl ?_
                            exact hy_zret (T := (C, M, Mo)) hx hb hr hlocks hP hS (by decide) (by decide) (bI_nar true) (by rw [← (hq _ (Option.some.inj h).symm).symm] <;> rfl) dL_act_653
                  obtain ⟨q145, hq145, h⟩ := hy_bind h
                  refine L130 hyFu 0 q145 hq145 (fun r9 e9 => by subst e9; exact (Option.some.inj h).symm) _ _ ls hP hS (lv_sub hl [5, 6, 7, 8, 9, 10, 11, 12, 4, 3, 2, 1, 0] rfl) ?_
                  intro y123 e9 H locs ls hP hS hl
                  subst e9
                  try dsimp only at h
                  refine lv_aload hx hb dL_act_660 (lv_at hl 6 rfl) ?_
                  refine lv_iconst (v := 3) hx hb dL_act_662 rfl ?_
                  refine lv_aload hx hb dL_act_663 (lv_at hl 4 rfl) ?_
                  refine lv_iconst (v := 5) hx hb dL_act_665 rfl ?_
                  obtain ⟨v131, hv131, h⟩ := hy_bind h
                  obtain ⟨nv131, hv131⟩ := ldE_some hv131
                  refine hy_iald (T := (C, M, Mo)) hx hb hX hP 30 6 (M.1 30) (hy34 G (by decide)) rfl nv131 dL_act_666 ?_
                  rw [hv131]
                  refine lv_imul hx hb dL_act_667 ?_
                  refine lv_iload hx hb dL_act_668 (lv_at hl 9 rfl) ?_
                  obtain ⟨M132, hM132, h⟩ := hy_bind h
                  obtain ⟨nM132, hM132⟩ := stE_some hM132
                  refine hy_iast (T := (C, M, Mo)) (T2 := (C, (wI M 32 (3 * v131).toNatClampNeg v117), Mo)) hx hb hX hP hS 32 9 (hy34 G (by decide)) (fun _ _ => rfl) nM132 rfl dL_act_670 (fun H locs hP hS => ?_)
                  rw [hM132] at hP
                  refine lv_aload hx hb dL_act_671 (lv_at hl 6 rfl) ?_
                  refine lv_iconst (v := 3) hx hb dL_act_673 rfl ?_
                  refine lv_aload hx hb dL_act_674 (lv_at hl 4 rfl) ?_
                  refine lv_iconst (v := 5) hx hb dL_act_676 rfl ?_
                  obtain ⟨v133, hv133, h⟩ := hy_bind h
                  obtain ⟨nv133, hv133⟩ := ldE_some hv133
                  refine hy_iald (T := (C, M132, Mo)) hx hb hX hP 30 6 (M132.1 30) (hy34 G (by decide)) rfl nv133 dL_act_677 ?_
                  rw [hv133]
                  refine lv_imul hx hb dL_act_678 ?_
                  refine lv_iconst (v := 1) hx hb dL_act_679 rfl ?_
                  refine lv_iadd hx hb dL_act_680 ?_
                  refine lv_iload hx hb dL_act_681 (lv_at hl 10 rfl) ?_
                  obtain ⟨M134, hM134, h⟩ := hy_bind h
                  obtain ⟨nM134, hM134⟩ := stE_some hM134
                  refine hy_iast (T := (C, M132, Mo)) (T2 := (C, (wI M132 32 ((3 * v133) + 1).toNatClampNeg (v117 + v119)), Mo)) hx hb hX hP hS 32 9 (hy34 G (by decide)) (fun _ _ => rfl) nM134 rfl dL_act_683 (fun H locs hP hS => ?_)
                  rw [hM134] at hP
                  refine lv_aload hx hb dL_act_684 (lv_at hl 6 rfl) ?_
                  refine lv_iconst (v := 3) hx hb dL_act_686 rfl ?_
                  refine lv_aload hx hb dL_act_687 (lv_at hl 4 rfl) ?_
                  refine lv_iconst (v := 5) hx hb dL_act_689 rfl ?_
                  obtain ⟨v135, hv135, h⟩ := hy_bind h
                  obtain ⟨nv135, hv135⟩ := ldE_some hv135
                  refine hy_iald (T := (C, M134, Mo)) hx hb hX hP 30 6 (M134.1 30) (hy34 G (by decide)) rfl nv135 dL_act_690 ?_
                  rw [hv135]
                  refine lv_imul hx hb dL_act_691 ?_
                  refine lv_iconst (v := 2) hx hb dL_act_692 rfl ?_
                  refine lv_iadd hx hb dL_act_693 ?_
                  refine lv_iload hx hb dL_act_694 (lv_at hl 11 rfl) ?_
                  obtain ⟨M136, hM136, h⟩ := hy_bind h
                  obtain ⟨nM136, hM136⟩ := stE_some hM136
                  refine hy_iast (T := (C, M134, Mo)) (T2 := (C, (wI M134 32 ((3 * v135) + 2).toNatClampNeg v120), Mo)) hx hb hX hP hS 32 9 (hy34 G (by decide)) (fun _ _ => rfl) nM136 rfl dL_act_696 (fun H locs hP hS => ?_)
                  rw [hM136] at hP
                  refine lv_aload hx hb dL_act_697 (lv_at hl 4 rfl) ?_
                  refine lv_iconst (v := 5) hx hb dL_act_699 rfl ?_
                  refine lv_dup2_11 hx hb dL_act_700 rfl rfl ?_
                  obtain ⟨v137, hv137, h⟩ := hy_bind h
                  obtain ⟨nv137, hv137⟩ := ldE_some hv137
                  refine hy_iald (T := (C, M136, Mo)) hx hb hX hP 30 6 (M136.1 30) (hy34 G (by decide)) rfl nv137 dL_act_701 ?_
                  rw [hv137]
                  refine lv_iconst (v := 1) hx hb dL_act_702 rfl ?_
                  refine lv_iadd hx hb dL_act_703 ?_
                  obtain ⟨M138, hM138, h⟩ := hy_bind h
                  obtain ⟨nM138, hM138⟩ := stE_some hM138
                  refine hy_iast (T := (C, M136, Mo)) (T2 := (C, (wI M136 30 (5 : Int32).toNatClampNeg (v137 + 1)), Mo)) hx hb hX hP hS 30 6 (hy34 G (by decide)) (fun _ _ => rfl) nM138 rfl dL_act_704 (fun H locs hP hS => ?_)
                  rw [hM138] at hP
                  refine lv_bipush (v := 30) hx hb dL_act_705 rfl ?_
                  refine hy_newG (T := (C, M138, Mo)) (T2 := (C, (zM M138 34), Mo)) (N := 30) hx hb hX hP hS (hts _ q_142) 0 hex (fun _ _ _ => rfl) rfl (by decide) (by decide) (by decide) (by decide) (by decide) (by decide) dL_act_707 (fun G1 H hGa hex hX hP hS => ?_)
                  have hl : lv_has ls 13 [(0, .ref (adr G1 0)), (1, .int a1), (2, .int a2), (3, .int a3), (4, .ref (adr G1 30)), (5, .ref (adr G1 31)), (6, .ref (adr G1 32)), (7, .ref (adr G1 33)), (8, .int v39), (9, .int v117), (10, .int (v117 + v119)), (11, .int v120), (12, .int y123)] := by rw [hGa 0 (by decide), hGa 30 (by decide), hGa 31 (by decide), hGa 32 (by decide), hGa 33 (by decide)]; exact hl
                  refine lv_astore (lv' := [(12, .ref (adr G1 34)), (0, .ref (adr G1 0)), (1, .int a1), (2, .int a2), (3, .int a3), (4, .ref (adr G1 30)), (5, .ref (adr G1 31)), (6, .ref (adr G1 32)), (7, .ref (adr G1 33)), (8, .int v39), (9, .int v117), (10, .int (v117 + v119)), (11, .int v120)]) hx hb dL_act_709 hl (by decide) rfl (fun ls hl => ?_)
                  refine lv_aload_n hx hb dL_act_711 rfl (lv_at hl 1 rfl) ?_
                  refine lv_iload hx hb dL_act_712 (lv_at hl 10 rfl) ?_
                  refine lv_iload hx hb dL_act_714 (lv_at hl 11 rfl) ?_
                  refine lv_iload hx hb dL_act_716 (lv_at hl 12 rfl) ?_
                  obtain ⟨⟨v139, C140⟩, hv139, h⟩ := hy_bind h
                  try dsimp only at h
                  refine hy_ret (hy_rV0 (T := (C, (zM M138 34), Mo)) (v := some (.int v139)) (T2 := (C140, (zM M138 34), Mo)) (As := [.int v117, .int (v117 + v119), .int v120]) (rest := []) (n := 0) hx hb hml hown hts hX hP hS hl (c_Hp_repeat hlt (zM M138 34) Mo v117 (v117 + v119) v120 C (res := (.inr v139, C140)) (rtMb_some hv139)) m_Hp_repeat q_1035 (hy_recv hX hP 0 9 (by decide) rfl rfl) rfl rfl (Nat.le_of_ble_eq_true rfl) dL_act_718 ⟨Nat.le_of_ble_eq_true rfl, Nat.le_of_ble_eq_true rfl⟩ ⟨by decide, by decide⟩) hS (fun H locs hP hS => ?_)
                  refine lv_aload hx hb dL_act_721 (lv_at hl 5 rfl) ?_
                  refine lv_aload hx hb dL_act_723 (lv_at hl 6 rfl) ?_
                  refine lv_aload hx hb dL_act_725 (lv_at hl 7 rfl) ?_
                  refine lv_aload hx hb dL_act_727 (lv_at hl 0 rfl) ?_
                  obtain ⟨⟨v142, M141⟩, hM141, h⟩ := hy_bind h
                  try dsimp only at h
                  refine hy_ret (hy_rS0 (T := (C140, (zM M138 34), Mo)) (v := some (.int v142)) (T2 := (C140, M141, Mo)) (As := [.ref (adr G1 30), .ref (adr G1 31), .ref (adr G1 32), .ref (adr G1 34)]) (rest := [.int v139]) (n := 0) hx hb hml hown hts hX hP hS hl (c_La_sung (by omega) C140 Mo (zM M138 34) hM141) m_La_sung q_647 rfl rfl (Nat.le_of_ble_eq_true rfl) dL_act_729 ⟨Nat.le_of_ble_eq_true rfl, Nat.le_of_ble_eq_true rfl⟩ ⟨by decide, by decide⟩) hS (fun H locs hP hS => ?_)
                  have J144 : ∀ (H : Heap) (locs : List Loc) (ls : Array Slot) (u1 : Int32), u1 = (bI (decide (v139 = v142))) → va_P G1.1 vwCl (wld G1 (C140, M141, Mo)) H → va_S (hyA G1) s.heap H locs → lv_has ls 13 [(0, .ref (adr G1 0)), (1, .int a1), (2, .int a2), (3, .int a3), (4, .ref (adr G1 30)), (5, .ref (adr G1 31)), (6, .ref (adr G1 32)), (7, .ref (adr G1 33)), (8, .int v39), (9, .int v117), (10, .int (v117 + v119)), (11, .int v120), (12, .ref (adr G1 34))] → W p l e { frames := 9, cells := 5, slots := 6 * 5, locals := 192 } s m ([.ref (adr G 0), .int a1, .int a2, .int a3, .ref (adr G 30), .ref (adr G 31), .ref (adr G 32), .ref (adr G 33)] : List Value).toArray below meth c H locs 1 30 (vx_MQ below (hyQ G1 (.inr (some (.int (bI res.1))), (res.2.1, res.2.2, Mo))) (hyXQ G1 (.inr (some (.int (bI res.1))), (res.2.1, res.2.2, Mo))) ([.ref (adr G 0), .int a1, .int a2, .int a3, .ref (adr G 30), .ref (adr G 31), .ref (adr G 32), .ref (adr G 33)] : List Value).toArray s 5 (6 * 5) (hyA G1)) (F0 m 740 ls [.int u1]) := by
                    intro H locs ls u1 eu1 hP hS hl
                    subst eu1
                    exact hy_zret (T := (C140, M141, Mo)) hx hb hr hlocks hP hS (by decide) (by decide) (bI_nar (decide (v139 = v142))) (by rw [← (Option.some.inj h)] <;> rfl) dL_act_740
                  refine lv_icmp_ne (tgt := 739) hx hb dL_act_732 (by decide) (fun c143 => ?_) (fun c143 => ?_)
                  · refine lv_iconst (v := 0) hx hb dL_act_739 rfl ?_
                    exact J144 _ _ ls 0 (by rw [decide_eq_false c143] <;> rfl) hP hS (lv_sub hl [1, 2, 3, 4, 5, 6, 7, 8, 9, 10, 11, 12, 0] rfl)
                  · refine lv_iconst (v := 1) hx hb dL_act_735 rfl ?_
                    refine lv_goto (tgt := 740) hx hb dL_act_736 (by decide) ?_
                    exact J144 _ _ ls 1 (by rw [decide_eq_true c143] <;> rfl) hP hS (lv_sub hl [1, 2, 3, 4, 5, 6, 7, 8, 9, 10, 11, 12, 0] rfl)
                · rw [if_pos (c122)] at h
                  refine lv_aload hx hb dL_act_595 (lv_at hl 8 rfl) ?_
                  refine lv_iconst (v := 5) hx hb dL_act_597 rfl ?_
                  refine lv_iconst (v := 0) hx hb dL_act_598 rfl ?_
                  obtain ⟨M146, hM146, h⟩ := hy_bind h
                  obtain ⟨nM146, hM146⟩ := stE_some hM146
                  refine hy_iast (T := (C, M, Mo)) (T2 := (C, (wI M 30 (5 : Int32).toNatClampNeg 0), Mo)) hx hb hX hP hS 30 6 (hy34 G (by decide)) (fun _ _ => rfl) nM146 rfl dL_act_599 (fun H locs hP hS => ?_)
                  rw [hM146] at hP
                  refine lv_aload_n hx hb dL_act_600 rfl (lv_at hl 4 rfl) ?_
                  obtain ⟨⟨v148, C147⟩, hC147, h⟩ := hy_bind h
                  try dsimp only at h
                  refine hy_ret (hy_rV0 (T := (C, M146, Mo)) (v := some (.int v148)) (T2 := (C147, M146, Mo)) (As := []) (rest := []) (n := 0) hx hb hml hown hts hX hP hS hl (c_Hp_clearRepeats M146 Mo C hC147) m_Hp_clearRepeats q_1031 (hy_recv hX hP 0 9 (by decide) rfl rfl) rfl rfl (Nat.le_of_ble_eq_true rfl) dL_act_601 ⟨Nat.le_of_ble_eq_true rfl, Nat.le_of_ble_eq_true rfl⟩ ⟨by decide, by decide⟩) hS (fun H locs hP hS => ?_)
                  refine lv_iconst (v := 2) hx hb dL_act_604 rfl ?_
                  have J150 : ∀ (H : Heap) (locs : List Loc) (ls : Array Slot) (u1 : Int32), u1 = (bI (decide (v148 = 2))) → va_P G.1 vwCl (wld G (C147, M146, Mo)) H → va_S (hyA G) s.heap H locs → lv_has ls 13 [(0, .ref (adr G 0)), (1, .int a1), (2, .int a2), (3, .int a3), (4, .ref (adr G 30)), (5, .ref (adr G 31)), (6, .ref (adr G 32)), (7, .ref (adr G 33)), (8, .int v39), (9, .int v117), (10, .int (v117 + v119)), (11, .int v120)] → W p l e { frames := 9, cells := 5, slots := 6 * 5, locals := 192 } s m ([.ref (adr G 0), .int a1, .int a2, .int a3, .ref (adr G 30), .ref (adr G 31), .ref (adr G 32), .ref (adr G 33)] : List Value).toArray below meth c H locs 0 0 (vx_MQ below (hyQ G (.inr (some (.int (bI res.1))), (res.2.1, res.2.2, Mo))) (hyXQ G (.inr (some (.int (bI res.1))), (res.2.1, res.2.2, Mo))) ([.ref (adr G 0), .int a1, .int a2, .int a3, .ref (adr G 30), .ref (adr G 31), .ref (adr G 32), .ref (adr G 33)] : List Value).toArray s 5 (6 * 5) (hyA G)) (F0 m 613 ls [.int u1]) := by
                    intro H locs ls u1 eu1 hP hS hl
                    subst eu1
                    exact hy_zret (T := (C147, M146, Mo)) hx hb hr hlocks hP hS (by decide) (by decide) (bI_nar (decide (v148 = 2))) (by rw [← (Option.some.inj h)] <;> rfl) dL_act_613
                  refine lv_icmp_ne (tgt := 612) hx hb dL_act_605 (by decide) (fun c149 => ?_) (fun c149 => ?_)
                  · refine lv_iconst (v := 0) hx hb dL_act_612 rfl ?_
                    exact J150 _ _ ls 0 (by rw [decide_eq_false c149] <;> rfl) hP hS (lv_sub hl [4, 5, 6, 7, 8, 9, 10, 11, 3, 2, 1, 0] rfl)
                  · refine lv_iconst (v := 1) hx hb dL_act_608 rfl ?_
                    refine lv_goto (tgt := 613) hx hb dL_act_609 (by decide) ?_
                    exact J150 _ _ ls 1 (by rw [decide_eq_true c149] <;> rfl) hP hS (lv_sub hl [4, 5, 6, 7, 8, 9, 10, 11, 3, 2, 1, 0] rfl)
            · rw [if_pos (c43)] at h
              refine lv_aload hx hb dL_act_467 (lv_at hl 5 rfl) ?_
              refine lv_iconst (v := 2) hx hb dL_act_469 rfl ?_
              obtain ⟨v151, hv151, h⟩ := hy_bind h
              obtain ⟨nv151, hv151⟩ := ldE_some hv151
              refine hy_iald (T := (C, M, Mo)) hx hb hX hP 30 6 (M.1 30) (hy34 G (by decide)) rfl nv151 dL_act_470 ?_
              rw [hv151]
              refine lv_istore (lv' := [(9, .int v151), (8, .int v39), (0, .ref (adr G 0)), (1, .int a1), (2, .int a2), (3, .int a3), (4, .ref (adr G 30)), (5, .ref (adr G 31)), (6, .ref (adr G 32)), (7, .ref (adr G 33))]) hx hb dL_act_471 hl (by decide) rfl (fun ls hl => ?_)
              refine lv_aload hx hb dL_act_473 (lv_at hl 6 rfl) ?_
              refine lv_iconst (v := 2) hx hb dL_act_475 rfl ?_
              refine lv_iconst (v := 2) hx hb dL_act_476 rfl ?_
              refine lv_iload_n hx hb dL_act_477 rfl (lv_at hl 4 rfl) ?_
              refine lv_iload_n hx hb dL_act_478 rfl (lv_at hl 5 rfl) ?_
              refine lv_iconst (v := 3) hx hb dL_act_479 rfl ?_
              obtain ⟨v152, hv152, h⟩ := hy_bind h
              refine hy_ret (hy_rS0 (T := (C, M, Mo)) (v := some (.int v152)) (T2 := (C, M, Mo)) (As := [.int a3, .int 3]) (rest := [.int a2, .int 2, .int 2, .ref (adr G 30)]) (n := 0) hx hb hml hown hts hX hP hS hl (c_La_at C Mo a3 3 M hv152) m_La_at q_641 rfl rfl (Nat.le_of_ble_eq_true rfl) dL_act_480 ⟨Nat.le_of_ble_eq_true rfl, Nat.le_of_ble_eq_true rfl⟩ ⟨by decide, by decide⟩) hS (fun H locs hP hS => ?_)
              have J165 : ∀ (H : Heap) (locs : List Loc) (ls : Array Slot) (u1 : Int32), u1 = ((if v152 = 0 then 23 else 4) : Int32) → va_P G.1 vwCl (wld G (C, M, Mo)) H → va_S (hyA G) s.heap H locs → lv_has ls 13 [(0, .ref (adr G 0)), (1, .int a1), (2, .int a2), (3, .int a3), (4, .ref (adr G 30)), (5, .ref (adr G 31)), (6, .ref (adr G 32)), (7, .ref (adr G 33)), (8, .int v39), (9, .int v151)] → W p l e { frames := 9, cells := 5, slots := 6 * 5, locals := 192 } s m ([.ref (adr G 0), .int a1, .int a2, .int a3, .ref (adr G 30), .ref (adr G 31), .ref (adr G 32), .ref (adr G 33)] : List Value).toArray below meth c H locs 0 0 (vx_MQ below (hyQ G (.inr (some (.int (bI res.1))), (res.2.1, res.2.2, Mo))) (hyXQ G (.inr (some (.int (bI res.1))), (res.2.1, res.2.2, Mo))) ([.ref (adr G 0), .int a1, .int a2, .int a3, .ref (adr G 30), .ref (adr G 31), .ref (adr G 32), .ref (adr G 33)] : List Value).toArray s 5 (6 * 5) (hyA G)) (F0 m 492 ls [.int u1, .int a2, .int 2, .int 2, .ref (adr G 30)]) := by
                intro H locs ls u1 eu1 hP hS hl
                subst eu1
                obtain ⟨v154, hv154, h⟩ := hy_bind h
                refine hy_ret (hy_rS0 (T := (C, M, Mo)) (v := some (.int v154)) (T2 := (C, M, Mo)) (As := [.int a2, .int ((if v152 = 0 then 23 else 4) : Int32)]) (rest := [.int 2, .int 2, .ref (adr G 30)]) (n := 0) hx hb hml hown hts hX hP hS hl (c_La_at C Mo a2 ((if v152 = 0 then 23 else 4) : Int32) M hv154) m_La_at q_641 rfl rfl (Nat.le_of_ble_eq_true rfl) dL_act_492 ⟨Nat.le_of_ble_eq_true rfl, Nat.le_of_ble_eq_true rfl⟩ ⟨by decide, by decide⟩) hS (fun H locs hP hS => ?_)
                refine lv_iadd hx hb dL_act_495 ?_
                obtain ⟨M155, hM155, h⟩ := hy_bind h
                obtain ⟨nM155, hM155⟩ := stE_some hM155
                refine hy_iast (T := (C, M, Mo)) (T2 := (C, (wI M 30 (2 : Int32).toNatClampNeg (2 + v154)), Mo)) hx hb hX hP hS 30 6 (hy34 G (by decide)) (fun _ _ => rfl) nM155 rfl dL_act_496 (fun H locs hP hS => ?_)
                rw [hM155] at hP
                refine lv_aload hx hb dL_act_497 (lv_at hl 4 rfl) ?_
                refine lv_iconst (v := 3) hx hb dL_act_499 rfl ?_
                refine lv_iload_n hx hb dL_act_500 rfl (lv_at hl 3 rfl) ?_
                refine lv_iconst (v := 2) hx hb dL_act_501 rfl ?_
                refine lv_ishr hx hb dL_act_502 ?_
                refine lv_aload hx hb dL_act_503 (lv_at hl 4 rfl) ?_
                refine lv_iconst (v := 2) hx hb dL_act_505 rfl ?_
                obtain ⟨v156, hv156, h⟩ := hy_bind h
                obtain ⟨nv156, hv156⟩ := ldE_some hv156
                refine hy_iald (T := (C, M155, Mo)) hx hb hX hP 30 6 (M155.1 30) (hy34 G (by decide)) rfl nv156 dL_act_506 ?_
                rw [hv156]
                obtain ⟨v157, hv157, h⟩ := hy_bind h
                refine hy_ret (hy_rS0 (T := (C, M155, Mo)) (v := some (.int v157)) (T2 := (C, M155, Mo)) (As := [.int (a3 >>> (2 &&& 31)), .int v156]) (rest := [.int 3, .ref (adr G 30)]) (n := 0) hx hb hml hown hts hX hP hS hl (c_La_at C Mo (a3 >>> (2 &&& 31)) v156 M155 hv157) m_La_at q_641 rfl rfl (Nat.le_of_ble_eq_true rfl) dL_act_507 ⟨Nat.le_of_ble_eq_true rfl, Nat.le_of_ble_eq_true rfl⟩ ⟨by decide, by decide⟩) hS (fun H locs hP hS => ?_)
                obtain ⟨M158, hM158, h⟩ := hy_bind h
                obtain ⟨nM158, hM158⟩ := stE_some hM158
                refine hy_iast (T := (C, M155, Mo)) (T2 := (C, (wI M155 30 (3 : Int32).toNatClampNeg v157), Mo)) hx hb hX hP hS 30 6 (hy34 G (by decide)) (fun _ _ => rfl) nM158 rfl dL_act_510 (fun H locs hP hS => ?_)
                rw [hM158] at hP
                refine lv_aload_n hx hb dL_act_511 rfl (lv_at hl 0 rfl) ?_
                refine lv_aload hx hb dL_act_512 (lv_at hl 4 rfl) ?_
                refine lv_iconst (v := 2) hx hb dL_act_514 rfl ?_
                obtain ⟨v159, hv159, h⟩ := hy_bind h
                obtain ⟨nv159, hv159⟩ := ldE_some hv159
                refine hy_iald (T := (C, M158, Mo)) hx hb hX hP 30 6 (M158.1 30) (hy34 G (by decide)) rfl nv159 dL_act_515 ?_
                rw [hv159]
                refine lv_aload hx hb dL_act_516 (lv_at hl 4 rfl) ?_
                refine lv_iconst (v := 3) hx hb dL_act_518 rfl ?_
                obtain ⟨v160, hv160, h⟩ := hy_bind h
                obtain ⟨nv160, hv160⟩ := ldE_some hv160
                refine hy_iald (T := (C, M158, Mo)) hx hb hX hP 30 6 (M158.1 30) (hy34 G (by decide)) rfl nv160 dL_act_519 ?_
                rw [hv160]
                obtain ⟨⟨v161, C162⟩, hv161, h⟩ := hy_bind h
                try dsimp only at h
                refine hy_ret (hy_rV0 (T := (C, M158, Mo)) (v := some (.int v161)) (T2 := (C162, M158, Mo)) (As := [.int v159, .int v160]) (rest := []) (n := 0) hx hb hml hown hts hX hP hS hl (c_Hp_setBars hlt M158 Mo v159 v160 C (res := (.inr v161, C162)) (rtM_some hv161)) m_Hp_setBars q_1027 (hy_recv hX hP 0 9 (by decide) rfl rfl) rfl rfl (Nat.le_of_ble_eq_true rfl) dL_act_520 ⟨Nat.le_of_ble_eq_true rfl, Nat.le_of_ble_eq_true rfl⟩ ⟨by decide, by decide⟩) hS (fun H locs hP hS => ?_)
                refine lv_iload hx hb dL_act_523 (lv_at hl 9 rfl) ?_
                have J164 : ∀ (H : Heap) (locs : List Loc) (ls : Array Slot) (u1 : Int32), u1 = (bI (decide (v161 = v151))) → va_P G.1 vwCl (wld G (C162, M158, Mo)) H → va_S (hyA G) s.heap H locs → lv_has ls 13 [(0, .ref (adr G 0)), (1, .int a1), (2, .int a2), (3, .int a3), (4, .ref (adr G 30)), (5, .ref (adr G 31)), (6, .ref (adr G 32)), (7, .ref (adr G 33)), (8, .int v39), (9, .int v151)] → W p l e { frames := 9, cells := 5, slots := 6 * 5, locals := 192 } s m ([.ref (adr G 0), .int a1, .int a2, .int a3, .ref (adr G 30), .ref (adr G 31), .ref (adr G 32), .ref (adr G 33)] : List Value).toArray below meth c H locs 0 0 (vx_MQ below (hyQ G (.inr (some (.int (bI res.1))), (res.2.1, res.2.2, Mo))) (hyXQ G (.inr (some (.int (bI res.1))), (res.2.1, res.2.2, Mo))) ([.ref (adr G 0), .int a1, .int a2, .int a3, .ref (adr G 30), .ref (adr G 31), .ref (adr G 32), .ref (adr G 33)] : List Value).toArray s 5 (6 * 5) (hyA G)) (F0 m 533 ls [.int u1]) := by
                  intro H locs ls u1 eu1 hP hS hl
                  subst eu1
                  exact hy_zret (T := (C162, M158, Mo)) hx hb hr hlocks hP hS (by decide) (by decide) (bI_nar (decide (v161 = v151))) (by rw [← (Option.some.inj h)] <;> rfl) dL_act_533
                refine lv_icmp_ne (tgt := 532) hx hb dL_act_525 (by decide) (fun c163 => ?_) (fun c163 => ?_)
                · refine lv_iconst (v := 0) hx hb dL_act_532 rfl ?_
                  exact J164 _ _ ls 0 (by rw [decide_eq_false c163] <;> rfl) hP hS (lv_sub hl [0, 1, 2, 3, 4, 5, 6, 7, 8, 9] rfl)
                · refine lv_iconst (v := 1) hx hb dL_act_528 rfl ?_
                  refine lv_goto (tgt := 533) hx hb dL_act_529 (by decide) ?_
                  exact J164 _ _ ls 1 (by rw [decide_eq_true c163] <;> rfl) hP hS (lv_sub hl [0, 1, 2, 3, 4, 5, 6, 7, 8, 9] rfl)
              refine lv_if_ne (tgt := 491) hx hb dL_act_483 (by decide) (fun c153 => ?_) (fun c153 => ?_)
              · refine lv_iconst (v := 4) hx hb dL_act_491 rfl ?_
                exact J165 _ _ ls 4 (by rw [if_neg c153] <;> rfl) hP hS (lv_sub hl [2, 3, 4, 5, 6, 7, 8, 9, 1, 0] rfl)
              · refine lv_bipush (v := 23) hx hb dL_act_486 rfl ?_
                refine lv_goto (tgt := 492) hx hb dL_act_488 (by decide) ?_
                exact J165 _ _ ls 23 (by rw [if_pos c153] <;> rfl) hP hS (lv_sub hl [2, 3, 4, 5, 6, 7, 8, 9, 1, 0] rfl)
          · rw [if_pos (c42)] at h
            refine lv_iload_n hx hb dL_act_386 rfl (lv_at hl 4 rfl) ?_
            refine lv_iconst (v := 4) hx hb dL_act_387 rfl ?_
            obtain ⟨v166, hv166, h⟩ := hy_bind h
            refine hy_ret (hy_rS0 (T := (C, M, Mo)) (v := some (.int v166)) (T2 := (C, M, Mo)) (As := [.int a3, .int 4]) (rest := []) (n := 0) hx hb hml hown hts hX hP hS hl (c_La_at C Mo a3 4 M hv166) m_La_at q_641 rfl rfl (Nat.le_of_ble_eq_true rfl) dL_act_388 ⟨Nat.le_of_ble_eq_true rfl, Nat.le_of_ble_eq_true rfl⟩ ⟨by decide, by decide⟩) hS (fun H locs hP hS => ?_)
            refine lv_istore (lv' := [(9, .int v166), (8, .int v39), (0, .ref (adr G 0)), (1, .int a1), (2, .int a2), (3, .int a3), (4, .ref (adr G 30)), (5, .ref (adr G 31)), (6, .ref (adr G 32)), (7, .ref (adr G 33))]) hx hb dL_act_391 hl (by decide) rfl (fun ls hl => ?_)
            refine lv_aload hx hb dL_act_393 (lv_at hl 7 rfl) ?_
            refine lv_iconst (v := 5) hx hb dL_act_395 rfl ?_
            refine lv_iload hx hb dL_act_396 (lv_at hl 1 rfl) ?_
            refine lv_imul hx hb dL_act_398 ?_
            refine lv_iconst (v := 1) hx hb dL_act_399 rfl ?_
            refine lv_iadd hx hb dL_act_400 ?_
            refine lv_iload hx hb dL_act_401 (lv_at hl 0 rfl) ?_
            refine lv_iadd hx hb dL_act_403 ?_
            obtain ⟨v167, hv167, h⟩ := hy_bind h
            obtain ⟨nv167, hv167⟩ := ldE_some hv167
            refine hy_iald (T := (C, M, Mo)) hx hb hX hP 31 60 (M.1 31) (hy34 G (by decide)) rfl nv167 dL_act_404 ?_
            rw [hv167]
            refine lv_istore (lv' := [(10, .int v167), (9, .int v166), (8, .int v39), (0, .ref (adr G 0)), (1, .int a1), (2, .int a2), (3, .int a3), (4, .ref (adr G 30)), (5, .ref (adr G 31)), (6, .ref (adr G 32)), (7, .ref (adr G 33))]) hx hb dL_act_405 hl (by decide) rfl (fun ls hl => ?_)
            refine lv_aload hx hb dL_act_407 (lv_at hl 8 rfl) ?_
            refine lv_iconst (v := 5) hx hb dL_act_409 rfl ?_
            refine lv_iload hx hb dL_act_410 (lv_at hl 2 rfl) ?_
            refine lv_imul hx hb dL_act_412 ?_
            refine lv_iconst (v := 1) hx hb dL_act_413 rfl ?_
            refine lv_iadd hx hb dL_act_414 ?_
            refine lv_iload hx hb dL_act_415 (lv_at hl 1 rfl) ?_
            refine lv_iadd hx hb dL_act_417 ?_
            refine lv_bipush (v := 36) hx hb dL_act_418 rfl ?_
            refine lv_iload_n hx hb dL_act_420 rfl (lv_at hl 6 rfl) ?_
            refine lv_iconst (v := 2) hx hb dL_act_421 rfl ?_
            refine lv_ishr hx hb dL_act_422 ?_
            refine lv_bipush (v := 49) hx hb dL_act_423 rfl ?_
            obtain ⟨v168, hv168, h⟩ := hy_bind h
            refine hy_ret (hy_rS0 (T := (C, M, Mo)) (v := some (.int v168)) (T2 := (C, M, Mo)) (As := [.int (a3 >>> (2 &&& 31)), .int 49]) (rest := [.int 36, .int (((5 * v39) + 1) + v166), .ref (adr G 31)]) (n := 0) hx hb hml hown hts hX hP hS hl (c_La_at C Mo (a3 >>> (2 &&& 31)) 49 M hv168) m_La_at q_641 rfl rfl (Nat.le_of_ble_eq_true rfl) dL_act_425 ⟨Nat.le_of_ble_eq_true rfl, Nat.le_of_ble_eq_true rfl⟩ ⟨by decide, by decide⟩) hS (fun H locs hP hS => ?_)
            refine lv_iadd hx hb dL_act_428 ?_
            obtain ⟨M169, hM169, h⟩ := hy_bind h
            obtain ⟨nM169, hM169⟩ := stE_some hM169
            refine hy_iast (T := (C, M, Mo)) (T2 := (C, (wI M 31 (((5 * v39) + 1) + v166).toNatClampNeg (36 + v168)), Mo)) hx hb hX hP hS 31 60 (hy34 G (by decide)) (fun _ _ => rfl) nM169 rfl dL_act_429 (fun H locs hP hS => ?_)
            rw [hM169] at hP
            refine lv_aload_n hx hb dL_act_430 rfl (lv_at hl 3 rfl) ?_
            refine lv_iload hx hb dL_act_431 (lv_at hl 2 rfl) ?_
            refine lv_iload hx hb dL_act_433 (lv_at hl 1 rfl) ?_
            refine lv_aload hx hb dL_act_435 (lv_at hl 8 rfl) ?_
            refine lv_iconst (v := 5) hx hb dL_act_437 rfl ?_
            refine lv_iload hx hb dL_act_438 (lv_at hl 2 rfl) ?_
            refine lv_imul hx hb dL_act_440 ?_
            refine lv_iconst (v := 1) hx hb dL_act_441 rfl ?_
            refine lv_iadd hx hb dL_act_442 ?_
            refine lv_iload hx hb dL_act_443 (lv_at hl 1 rfl) ?_
            refine lv_iadd hx hb dL_act_445 ?_
            obtain ⟨v170, hv170, h⟩ := hy_bind h
            obtain ⟨nv170, hv170⟩ := ldE_some hv170
            refine hy_iald (T := (C, M169, Mo)) hx hb hX hP 31 60 (M169.1 31) (hy34 G (by decide)) rfl nv170 dL_act_446 ?_
            rw [hv170]
            obtain ⟨⟨v171, C172⟩, hv171, h⟩ := hy_bind h
            try dsimp only at h
            refine hy_ret (hy_rV0 (T := (C, M169, Mo)) (v := some (.int v171)) (T2 := (C172, M169, Mo)) (As := [.int v39, .int v166, .int v170]) (rest := []) (n := 0) hx hb hml hown hts hX hP hS hl (c_Hp_setPitch hlt M169 Mo v39 v166 v170 C (res := (.inr v171, C172)) (rtM_some hv171)) m_Hp_setPitch q_1022 (hy_recv hX hP 0 9 (by decide) rfl rfl) rfl rfl (Nat.le_of_ble_eq_true rfl) dL_act_447 ⟨Nat.le_of_ble_eq_true rfl, Nat.le_of_ble_eq_true rfl⟩ ⟨by decide, by decide⟩) hS (fun H locs hP hS => ?_)
            refine lv_iload hx hb dL_act_450 (lv_at hl 0 rfl) ?_
            have J174 : ∀ (H : Heap) (locs : List Loc) (ls : Array Slot) (u1 : Int32), u1 = (bI (decide (v171 = v167))) → va_P G.1 vwCl (wld G (C172, M169, Mo)) H → va_S (hyA G) s.heap H locs → lv_has ls 13 [(0, .ref (adr G 0)), (1, .int a1), (2, .int a2), (3, .int a3), (4, .ref (adr G 30)), (5, .ref (adr G 31)), (6, .ref (adr G 32)), (7, .ref (adr G 33)), (8, .int v39), (9, .int v166), (10, .int v167)] → W p l e { frames := 9, cells := 5, slots := 6 * 5, locals := 192 } s m ([.ref (adr G 0), .int a1, .int a2, .int a3, .ref (adr G 30), .ref (adr G 31), .ref (adr G 32), .ref (adr G 33)] : List Value).toArray below meth c H locs 0 0 (vx_MQ below (hyQ G (.inr (some (.int (bI res.1))), (res.2.1, res.2.2, Mo))) (hyXQ G (.inr (some (.int (bI res.1))), (res.2.1, res.2.2, Mo))) ([.ref (adr G 0), .int a1, .int a2, .int a3, .ref (adr G 30), .ref (adr G 31), .ref (adr G 32), .ref (adr G 33)] : List Value).toArray s 5 (6 * 5) (hyA G)) (F0 m 460 ls [.int u1]) := by
              intro H locs ls u1 eu1 hP hS hl
              subst eu1
              exact hy_zret (T := (C172, M169, Mo)) hx hb hr hlocks hP hS (by decide) (by decide) (bI_nar (decide (v171 = v167))) (by rw [← (Option.some.inj h)] <;> rfl) dL_act_460
            refine lv_icmp_ne (tgt := 459) hx hb dL_act_452 (by decide) (fun c173 => ?_) (fun c173 => ?_)
            · refine lv_iconst (v := 0) hx hb dL_act_459 rfl ?_
              exact J174 _ _ ls 0 (by rw [decide_eq_false c173] <;> rfl) hP hS (lv_sub hl [3, 4, 5, 6, 7, 8, 9, 10, 2, 1, 0] rfl)
            · refine lv_iconst (v := 1) hx hb dL_act_455 rfl ?_
              refine lv_goto (tgt := 460) hx hb dL_act_456 (by decide) ?_
              exact J174 _ _ ls 1 (by rw [decide_eq_true c173] <;> rfl) hP hS (lv_sub hl [3, 4, 5, 6, 7, 8, 9, 10, 2, 1, 0] rfl)
        · rw [if_pos (c41)] at h
          refine lv_aload hx hb dL_act_346 (lv_at hl 5 rfl) ?_
          refine lv_iconst (v := 1) hx hb dL_act_348 rfl ?_
          refine lv_dup2_11 hx hb dL_act_349 rfl rfl ?_
          obtain ⟨v175, hv175, h⟩ := hy_bind h
          obtain ⟨nv175, hv175⟩ := ldE_some hv175
          refine hy_iald (T := (C, M, Mo)) hx hb hX hP 30 6 (M.1 30) (hy34 G (by decide)) rfl nv175 dL_act_350 ?_
          rw [hv175]
          refine lv_iconst (v := 1) hx hb dL_act_351 rfl ?_
          refine lv_isub hx hb dL_act_352 ?_
          obtain ⟨M176, hM176, h⟩ := hy_bind h
          obtain ⟨nM176, hM176⟩ := stE_some hM176
          refine hy_iast (T := (C, M, Mo)) (T2 := (C, (wI M 30 (1 : Int32).toNatClampNeg (v175 - 1)), Mo)) hx hb hX hP hS 30 6 (hy34 G (by decide)) (fun _ _ => rfl) nM176 rfl dL_act_353 (fun H locs hP hS => ?_)
          rw [hM176] at hP
          refine lv_aload hx hb dL_act_354 (lv_at hl 5 rfl) ?_
          refine lv_aload hx hb dL_act_356 (lv_at hl 6 rfl) ?_
          refine lv_aload hx hb dL_act_358 (lv_at hl 7 rfl) ?_
          obtain ⟨M177, hM177, h⟩ := hy_bind h
          refine hy_ret (hy_rS0 (T := (C, M176, Mo)) (v := none) (T2 := (C, M177, Mo)) (As := [.ref (adr G 30), .ref (adr G 31), .ref (adr G 32)]) (rest := []) (n := 0) hx hb hml hown hts hX hP hS hl (c_La_settle C Mo M176 hM177) m_La_settle q_984 rfl rfl (Nat.le_of_ble_eq_true rfl) dL_act_360 ⟨Nat.le_of_ble_eq_true rfl, Nat.le_of_ble_eq_true rfl⟩ ⟨by decide, by decide⟩) hS (fun H locs hP hS => ?_)
          refine lv_aload_n hx hb dL_act_363 rfl (lv_at hl 1 rfl) ?_
          obtain ⟨⟨v178, C179⟩, hv178, h⟩ := hy_bind h
          try dsimp only at h
          refine hy_ret (hy_rV0 (T := (C, M177, Mo)) (v := some (.int v178)) (T2 := (C179, M177, Mo)) (As := []) (rest := []) (n := 0) hx hb hml hown hts hX hP hS hl (c_Hp_dropNote hlt M177 Mo C (res := (.inr v178, C179)) (rtMb_some hv178)) m_Hp_dropNote q_1012 (hy_recv hX hP 0 9 (by decide) rfl rfl) rfl rfl (Nat.le_of_ble_eq_true rfl) dL_act_364 ⟨Nat.le_of_ble_eq_true rfl, Nat.le_of_ble_eq_true rfl⟩ ⟨by decide, by decide⟩) hS (fun H locs hP hS => ?_)
          refine lv_aload hx hb dL_act_367 (lv_at hl 5 rfl) ?_
          refine lv_iconst (v := 1) hx hb dL_act_369 rfl ?_
          obtain ⟨v180, hv180, h⟩ := hy_bind h
          obtain ⟨nv180, hv180⟩ := ldE_some hv180
          refine hy_iald (T := (C179, M177, Mo)) hx hb hX hP 30 6 (M177.1 30) (hy34 G (by decide)) rfl nv180 dL_act_370 ?_
          rw [hv180]
          have J182 : ∀ (H : Heap) (locs : List Loc) (ls : Array Slot) (u1 : Int32), u1 = (bI (decide (v178 = v180))) → va_P G.1 vwCl (wld G (C179, M177, Mo)) H → va_S (hyA G) s.heap H locs → lv_has ls 13 [(0, .ref (adr G 0)), (1, .int a1), (2, .int a2), (3, .int a3), (4, .ref (adr G 30)), (5, .ref (adr G 31)), (6, .ref (adr G 32)), (7, .ref (adr G 33)), (8, .int v39)] → W p l e { frames := 9, cells := 5, slots := 6 * 5, locals := 192 } s m ([.ref (adr G 0), .int a1, .int a2, .int a3, .ref (adr G 30), .ref (adr G 31), .ref (adr G 32), .ref (adr G 33)] : List Value).toArray below meth c H locs 0 0 (vx_MQ below (hyQ G (.inr (some (.int (bI res.1))), (res.2.1, res.2.2, Mo))) (hyXQ G (.inr (some (.int (bI res.1))), (res.2.1, res.2.2, Mo))) ([.ref (adr G 0), .int a1, .int a2, .int a3, .ref (adr G 30), .ref (adr G 31), .ref (adr G 32), .ref (adr G 33)] : List Value).toArray s 5 (6 * 5) (hyA G)) (F0 m 379 ls [.int u1]) := by
            intro H locs ls u1 eu1 hP hS hl
            subst eu1
            exact hy_zret (T := (C179, M177, Mo)) hx hb hr hlocks hP hS (by decide) (by decide) (bI_nar (decide (v178 = v180))) (by rw [← (Option.some.inj h)] <;> rfl) dL_act_379
          refine lv_icmp_ne (tgt := 378) hx hb dL_act_371 (by decide) (fun c181 => ?_) (fun c181 => ?_)
          · refine lv_iconst (v := 0) hx hb dL_act_378 rfl ?_
            exact J182 _ _ ls 0 (by rw [decide_eq_false c181] <;> rfl) hP hS (lv_sub hl [1, 2, 3, 4, 5, 6, 7, 8, 0] rfl)
          · refine lv_iconst (v := 1) hx hb dL_act_374 rfl ?_
            refine lv_goto (tgt := 379) hx hb dL_act_375 (by decide) ?_
            exact J182 _ _ ls 1 (by rw [decide_eq_true c181] <;> rfl) hP hS (lv_sub hl [1, 2, 3, 4, 5, 6, 7, 8, 0] rfl)
      · rw [if_neg c40] at h
        refine lv_iload_n hx hb dL_act_224 rfl (lv_at hl 4 rfl) ?_
        refine lv_iconst (v := 2) hx hb dL_act_225 rfl ?_
        obtain ⟨v183, hv183, h⟩ := hy_bind h
        refine hy_ret (hy_rS0 (T := (C, M, Mo)) (v := some (.int v183)) (T2 := (C, M, Mo)) (As := [.int a3, .int 2]) (rest := []) (n := 0) hx hb hml hown hts hX hP hS hl (c_La_at C Mo a3 2 M hv183) m_La_at q_641 rfl rfl (Nat.le_of_ble_eq_true rfl) dL_act_226 ⟨Nat.le_of_ble_eq_true rfl, Nat.le_of_ble_eq_true rfl⟩ ⟨by decide, by decide⟩) hS (fun H locs hP hS => ?_)
        have J207 : ∀ (H : Heap) (locs : List Loc) (ls : Array Slot) (u1 : Int32), u1 = (bI (decide (v183 = 0))) → va_P G.1 vwCl (wld G (C, M, Mo)) H → va_S (hyA G) s.heap H locs → lv_has ls 13 [(0, .ref (adr G 0)), (1, .int a1), (2, .int a2), (3, .int a3), (4, .ref (adr G 30)), (5, .ref (adr G 31)), (6, .ref (adr G 32)), (7, .ref (adr G 33)), (8, .int v39)] → W p l e { frames := 9, cells := 5, slots := 6 * 5, locals := 192 } s m ([.ref (adr G 0), .int a1, .int a2, .int a3, .ref (adr G 30), .ref (adr G 31), .ref (adr G 32), .ref (adr G 33)] : List Value).toArray below meth c H locs 0 0 (vx_MQ below (hyQ G (.inr (some (.int (bI res.1))), (res.2.1, res.2.2, Mo))) (hyXQ G (.inr (some (.int (bI res.1))), (res.2.1, res.2.2, Mo))) ([.ref (adr G 0), .int a1, .int a2, .int a3, .ref (adr G 30), .ref (adr G 31), .ref (adr G 32), .ref (adr G 33)] : List Value).toArray s 5 (6 * 5) (hyA G)) (F0 m 237 ls [.int u1]) := by
          intro H locs ls u1 eu1 hP hS hl
          subst eu1
          refine lv_istore (lv' := [(9, .int (bI (decide (v183 = 0)))), (0, .ref (adr G 0)), (1, .int a1), (2, .int a2), (3, .int a3), (4, .ref (adr G 30)), (5, .ref (adr G 31)), (6, .ref (adr G 32)), (7, .ref (adr G 33)), (8, .int v39)]) hx hb dL_act_237 hl (by decide) rfl (fun ls hl => ?_)
          refine lv_iload_n hx hb dL_act_239 rfl (lv_at hl 4 rfl) ?_
          refine lv_iconst (v := 1) hx hb dL_act_240 rfl ?_
          refine lv_ishr hx hb dL_act_241 ?_
          refine lv_iconst (v := 4) hx hb dL_act_242 rfl ?_
          obtain ⟨v185, hv185, h⟩ := hy_bind h
          refine hy_ret (hy_rS0 (T := (C, M, Mo)) (v := some (.int v185)) (T2 := (C, M, Mo)) (As := [.int (a3 >>> (1 &&& 31)), .int 4]) (rest := []) (n := 0) hx hb hml hown hts hX hP hS hl (c_La_at C Mo (a3 >>> (1 &&& 31)) 4 M hv185) m_La_at q_641 rfl rfl (Nat.le_of_ble_eq_true rfl) dL_act_243 ⟨Nat.le_of_ble_eq_true rfl, Nat.le_of_ble_eq_true rfl⟩ ⟨by decide, by decide⟩) hS (fun H locs hP hS => ?_)
          have J206 : ∀ (H : Heap) (locs : List Loc) (ls : Array Slot) (u1 : Int32), u1 = (bI (!decide (v185 ≤ 0))) → va_P G.1 vwCl (wld G (C, M, Mo)) H → va_S (hyA G) s.heap H locs → lv_has ls 13 [(0, .ref (adr G 0)), (1, .int a1), (2, .int a2), (3, .int a3), (4, .ref (adr G 30)), (5, .ref (adr G 31)), (6, .ref (adr G 32)), (7, .ref (adr G 33)), (8, .int v39), (9, .int (bI (decide (v183 = 0))))] → W p l e { frames := 9, cells := 5, slots := 6 * 5, locals := 192 } s m ([.ref (adr G 0), .int a1, .int a2, .int a3, .ref (adr G 30), .ref (adr G 31), .ref (adr G 32), .ref (adr G 33)] : List Value).toArray below meth c H locs 0 0 (vx_MQ below (hyQ G (.inr (some (.int (bI res.1))), (res.2.1, res.2.2, Mo))) (hyXQ G (.inr (some (.int (bI res.1))), (res.2.1, res.2.2, Mo))) ([.ref (adr G 0), .int a1, .int a2, .int a3, .ref (adr G 30), .ref (adr G 31), .ref (adr G 32), .ref (adr G 33)] : List Value).toArray s 5 (6 * 5) (hyA G)) (F0 m 254 ls [.int u1]) := by
            intro H locs ls u1 eu1 hP hS hl
            subst eu1
            refine lv_istore (lv' := [(10, .int (bI (!decide (v185 ≤ 0)))), (0, .ref (adr G 0)), (1, .int a1), (2, .int a2), (3, .int a3), (4, .ref (adr G 30)), (5, .ref (adr G 31)), (6, .ref (adr G 32)), (7, .ref (adr G 33)), (8, .int v39), (9, .int (bI (decide (v183 = 0))))]) hx hb dL_act_254 hl (by decide) rfl (fun ls hl => ?_)
            refine lv_iload hx hb dL_act_256 (lv_at hl 10 rfl) ?_
            have J205 : ∀ (H : Heap) (locs : List Loc) (ls : Array Slot) (u1 : Int32), u1 = ((if (decide (v183 = 0)) then 2 else 1) : Int32) → va_P G.1 vwCl (wld G (C, M, Mo)) H → va_S (hyA G) s.heap H locs → lv_has ls 13 [(0, .ref (adr G 0)), (1, .int a1), (2, .int a2), (3, .int a3), (4, .ref (adr G 30)), (5, .ref (adr G 31)), (6, .ref (adr G 32)), (7, .ref (adr G 33)), (8, .int v39), (9, .int (bI (decide (v183 = 0)))), (10, .int (bI (!decide (v185 ≤ 0))))] → W p l e { frames := 9, cells := 5, slots := 6 * 5, locals := 192 } s m ([.ref (adr G 0), .int a1, .int a2, .int a3, .ref (adr G 30), .ref (adr G 31), .ref (adr G 32), .ref (adr G 33)] : List Value).toArray below meth c H locs 0 0 (vx_MQ below (hyQ G (.inr (some (.int (bI res.1))), (res.2.1, res.2.2, Mo))) (hyXQ G (.inr (some (.int (bI res.1))), (res.2.1, res.2.2, Mo))) ([.ref (adr G 0), .int a1, .int a2, .int a3, .ref (adr G 30), .ref (adr G 31), .ref (adr G 32), .ref (adr G 33)] : List Value).toArray s 5 (6 * 5) (hyA G)) (F0 m 266 ls [.int u1]) := by
              intro H locs ls u1 eu1 hP hS hl
              subst eu1
              refine lv_istore (lv' := [(11, .int ((if (decide (v183 = 0)) then 2 else 1) : Int32)), (0, .ref (adr G 0)), (1, .int a1), (2, .int a2), (3, .int a3), (4, .ref (adr G 30)), (5, .ref (adr G 31)), (6, .ref (adr G 32)), (7, .ref (adr G 33)), (8, .int v39), (9, .int (bI (decide (v183 = 0)))), (10, .int (bI (!decide (v185 ≤ 0))))]) hx hb dL_act_266 hl (by decide) rfl (fun ls hl => ?_)
              refine lv_aload hx hb dL_act_268 (lv_at hl 6 rfl) ?_
              refine lv_iconst (v := 5) hx hb dL_act_270 rfl ?_
              refine lv_iload hx hb dL_act_271 (lv_at hl 9 rfl) ?_
              refine lv_imul hx hb dL_act_273 ?_
              refine lv_iload hx hb dL_act_274 (lv_at hl 11 rfl) ?_
              refine lv_if_eq (tgt := 292) hx hb dL_act_276 (by decide) (fun c188 => ?_) (fun c188 => ?_)
              · rw [if_neg (bI_0 c188)] at h
                refine lv_aload hx hb dL_act_292 (lv_at hl 6 rfl) ?_
                refine lv_iconst (v := 5) hx hb dL_act_294 rfl ?_
                refine lv_iload hx hb dL_act_295 (lv_at hl 9 rfl) ?_
                refine lv_imul hx hb dL_act_297 ?_
                obtain ⟨v189, hv189, h⟩ := hy_bind h
                obtain ⟨nv189, hv189⟩ := ldE_some hv189
                refine hy_iald (T := (C, M, Mo)) hx hb hX hP 31 60 (M.1 31) (hy34 G (by decide)) rfl nv189 dL_act_298 ?_
                rw [hv189]
                refine lv_iload hx hb dL_act_299 (lv_at hl 0 rfl) ?_
                refine lv_iconst (v := (-1)) hx hb dL_act_301 rfl ?_
                refine lv_ixor hx hb dL_act_302 ?_
                refine lv_iand hx hb dL_act_303 ?_
                obtain ⟨M190, hM190, h⟩ := hy_bind h
                obtain ⟨nM190, hM190⟩ := stE_some hM190
                refine hy_iast (T := (C, M, Mo)) (T2 := (C, (wI M 31 (5 * v39).toNatClampNeg (v189 &&& (((if (decide (v183 = 0)) then 2 else 1) : Int32) ^^^ (-1)))), Mo)) hx hb hX hP hS 31 60 (hy34 G (by decide)) (fun _ _ => rfl) nM190 rfl dL_act_304 (fun H locs hP hS => ?_)
                rw [hM190] at hP
                refine lv_aload hx hb dL_act_305 (lv_at hl 5 rfl) ?_
                refine lv_aload hx hb dL_act_307 (lv_at hl 6 rfl) ?_
                refine lv_aload hx hb dL_act_309 (lv_at hl 7 rfl) ?_
                obtain ⟨M191, hM191, h⟩ := hy_bind h
                refine hy_ret (hy_rS0 (T := (C, M190, Mo)) (v := none) (T2 := (C, M191, Mo)) (As := [.ref (adr G 30), .ref (adr G 31), .ref (adr G 32)]) (rest := []) (n := 0) hx hb hml hown hts hX hP hS hl (c_La_settle C Mo M190 hM191) m_La_settle q_984 rfl rfl (Nat.le_of_ble_eq_true rfl) dL_act_311 ⟨Nat.le_of_ble_eq_true rfl, Nat.le_of_ble_eq_true rfl⟩ ⟨by decide, by decide⟩) hS (fun H locs hP hS => ?_)
                refine lv_aload_n hx hb dL_act_314 rfl (lv_at hl 1 rfl) ?_
                refine lv_iload hx hb dL_act_315 (lv_at hl 9 rfl) ?_
                refine lv_iload hx hb dL_act_317 (lv_at hl 10 rfl) ?_
                refine lv_iload hx hb dL_act_319 (lv_at hl 11 rfl) ?_
                obtain ⟨⟨v192, C193⟩, hv192, h⟩ := hy_bind h
                try dsimp only at h
                refine hy_ret (hy_rV0 (T := (C, M191, Mo)) (v := some (.int v192)) (T2 := (C193, M191, Mo)) (As := [.int v39, .int (bI (decide (v183 = 0))), .int (bI (!decide (v185 ≤ 0)))]) (rest := []) (n := 0) hx hb hml hown hts hX hP hS hl (c_Hp_mark hlt M191 Mo v39 (decide (v183 = 0)) (!decide (v185 ≤ 0)) C (res := (.inr v192, C193)) (rtMb_some hv192)) m_Hp_mark q_1004 (hy_recv hX hP 0 9 (by decide) rfl rfl) rfl rfl (Nat.le_of_ble_eq_true rfl) dL_act_321 ⟨Nat.le_of_ble_eq_true rfl, Nat.le_of_ble_eq_true rfl⟩ ⟨by decide, by decide⟩) hS (fun H locs hP hS => ?_)
                refine lv_aload hx hb dL_act_324 (lv_at hl 5 rfl) ?_
                refine lv_aload hx hb dL_act_326 (lv_at hl 6 rfl) ?_
                obtain ⟨v194, hv194, h⟩ := hy_bind h
                refine hy_ret (hy_rS0 (T := (C193, M191, Mo)) (v := some (.int v194)) (T2 := (C193, M191, Mo)) (As := [.ref (adr G 30), .ref (adr G 31)]) (rest := [.int v192]) (n := 0) hx hb hml hown hts hX hP hS hl (c_La_phrases C193 Mo M191 hv194) m_La_phrases q_650 rfl rfl (Nat.le_of_ble_eq_true rfl) dL_act_328 ⟨Nat.le_of_ble_eq_true rfl, Nat.le_of_ble_eq_true rfl⟩ ⟨by decide, by decide⟩) hS (fun H locs hP hS => ?_)
                have J196 : ∀ (H : Heap) (locs : List Loc) (ls : Array Slot) (u1 : Int32), u1 = (bI (decide (v192 = v194))) → va_P G.1 vwCl (wld G (C193, M191, Mo)) H → va_S (hyA G) s.heap H locs → lv_has ls 13 [(0, .ref (adr G 0)), (1, .int a1), (2, .int a2), (3, .int a3), (4, .ref (adr G 30)), (5, .ref (adr G 31)), (6, .ref (adr G 32)), (7, .ref (adr G 33)), (8, .int v39), (9, .int (bI (decide (v183 = 0)))), (10, .int (bI (!decide (v185 ≤ 0)))), (11, .int ((if (decide (v183 = 0)) then 2 else 1) : Int32))] → W p l e { frames := 9, cells := 5, slots := 6 * 5, locals := 192 } s m ([.ref (adr G 0), .int a1, .int a2, .int a3, .ref (adr G 30), .ref (adr G 31), .ref (adr G 32), .ref (adr G 33)] : List Value).toArray below meth c H locs 0 0 (vx_MQ below (hyQ G (.inr (some (.int (bI res.1))), (res.2.1, res.2.2, Mo))) (hyXQ G (.inr (some (.int (bI res.1))), (res.2.1, res.2.2, Mo))) ([.ref (adr G 0), .int a1, .int a2, .int a3, .ref (adr G 30), .ref (adr G 31), .ref (adr G 32), .ref (adr G 33)] : List Value).toArray s 5 (6 * 5) (hyA G)) (F0 m 339 ls [.int u1]) := by
                  intro H locs ls u1 eu1 hP hS hl
                  subst eu1
                  exact hy_zret (T := (C193, M191, Mo)) hx hb hr hlocks hP hS (by decide) (by decide) (bI_nar (decide (v192 = v194))) (by rw [← (Option.some.inj h)] <;> rfl) dL_act_339
                refine lv_icmp_ne (tgt := 338) hx hb dL_act_331 (by decide) (fun c195 => ?_) (fun c195 => ?_)
                · refine lv_iconst (v := 0) hx hb dL_act_338 rfl ?_
                  exact J196 _ _ ls 0 (by rw [decide_eq_false c195] <;> rfl) hP hS (lv_sub hl [1, 2, 3, 4, 5, 6, 7, 8, 9, 10, 11, 0] rfl)
                · refine lv_iconst (v := 1) hx hb dL_act_334 rfl ?_
                  refine lv_goto (tgt := 339) hx hb dL_act_335 (by decide) ?_
                  exact J196 _ _ ls 1 (by rw [decide_eq_true c195] <;> rfl) hP hS (lv_sub hl [1, 2, 3, 4, 5, 6, 7, 8, 9, 10, 11, 0] rfl)
              · rw [if_pos (bI_1 c188)] at h
                refine lv_aload hx hb dL_act_279 (lv_at hl 6 rfl) ?_
                refine lv_iconst (v := 5) hx hb dL_act_281 rfl ?_
                refine lv_iload hx hb dL_act_282 (lv_at hl 9 rfl) ?_
                refine lv_imul hx hb dL_act_284 ?_
                obtain ⟨v197, hv197, h⟩ := hy_bind h
                obtain ⟨nv197, hv197⟩ := ldE_some hv197
                refine hy_iald (T := (C, M, Mo)) hx hb hX hP 31 60 (M.1 31) (hy34 G (by decide)) rfl nv197 dL_act_285 ?_
                rw [hv197]
                refine lv_iload hx hb dL_act_286 (lv_at hl 0 rfl) ?_
                refine lv_ior hx hb dL_act_288 ?_
                refine lv_goto (tgt := 304) hx hb dL_act_289 (by decide) ?_
                obtain ⟨M198, hM198, h⟩ := hy_bind h
                obtain ⟨nM198, hM198⟩ := stE_some hM198
                refine hy_iast (T := (C, M, Mo)) (T2 := (C, (wI M 31 (5 * v39).toNatClampNeg (v197 ||| ((if (decide (v183 = 0)) then 2 else 1) : Int32))), Mo)) hx hb hX hP hS 31 60 (hy34 G (by decide)) (fun _ _ => rfl) nM198 rfl dL_act_304 (fun H locs hP hS => ?_)
                rw [hM198] at hP
                refine lv_aload hx hb dL_act_305 (lv_at hl 5 rfl) ?_
                refine lv_aload hx hb dL_act_307 (lv_at hl 6 rfl) ?_
                refine lv_aload hx hb dL_act_309 (lv_at hl 7 rfl) ?_
                obtain ⟨M199, hM199, h⟩ := hy_bind h
                refine hy_ret (hy_rS0 (T := (C, M198, Mo)) (v := none) (T2 := (C, M199, Mo)) (As := [.ref (adr G 30), .ref (adr G 31), .ref (adr G 32)]) (rest := []) (n := 0) hx hb hml hown hts hX hP hS hl (c_La_settle C Mo M198 hM199) m_La_settle q_984 rfl rfl (Nat.le_of_ble_eq_true rfl) dL_act_311 ⟨Nat.le_of_ble_eq_true rfl, Nat.le_of_ble_eq_true rfl⟩ ⟨by decide, by decide⟩) hS (fun H locs hP hS => ?_)
                refine lv_aload_n hx hb dL_act_314 rfl (lv_at hl 1 rfl) ?_
                refine lv_iload hx hb dL_act_315 (lv_at hl 9 rfl) ?_
                refine lv_iload hx hb dL_act_317 (lv_at hl 10 rfl) ?_
                refine lv_iload hx hb dL_act_319 (lv_at hl 11 rfl) ?_
                obtain ⟨⟨v200, C201⟩, hv200, h⟩ := hy_bind h
                try dsimp only at h
                refine hy_ret (hy_rV0 (T := (C, M199, Mo)) (v := some (.int v200)) (T2 := (C201, M199, Mo)) (As := [.int v39, .int (bI (decide (v183 = 0))), .int (bI (!decide (v185 ≤ 0)))]) (rest := []) (n := 0) hx hb hml hown hts hX hP hS hl (c_Hp_mark hlt M199 Mo v39 (decide (v183 = 0)) (!decide (v185 ≤ 0)) C (res := (.inr v200, C201)) (rtMb_some hv200)) m_Hp_mark q_1004 (hy_recv hX hP 0 9 (by decide) rfl rfl) rfl rfl (Nat.le_of_ble_eq_true rfl) dL_act_321 ⟨Nat.le_of_ble_eq_true rfl, Nat.le_of_ble_eq_true rfl⟩ ⟨by decide, by decide⟩) hS (fun H locs hP hS => ?_)
                refine lv_aload hx hb dL_act_324 (lv_at hl 5 rfl) ?_
                refine lv_aload hx hb dL_act_326 (lv_at hl 6 rfl) ?_
                obtain ⟨v202, hv202, h⟩ := hy_bind h
                refine hy_ret (hy_rS0 (T := (C201, M199, Mo)) (v := some (.int v202)) (T2 := (C201, M199, Mo)) (As := [.ref (adr G 30), .ref (adr G 31)]) (rest := [.int v200]) (n := 0) hx hb hml hown hts hX hP hS hl (c_La_phrases C201 Mo M199 hv202) m_La_phrases q_650 rfl rfl (Nat.le_of_ble_eq_true rfl) dL_act_328 ⟨Nat.le_of_ble_eq_true rfl, Nat.le_of_ble_eq_true rfl⟩ ⟨by decide, by decide⟩) hS (fun H locs hP hS => ?_)
                have J204 : ∀ (H : Heap) (locs : List Loc) (ls : Array Slot) (u1 : Int32), u1 = (bI (decide (v200 = v202))) → va_P G.1 vwCl (wld G (C201, M199, Mo)) H → va_S (hyA G) s.heap H locs → lv_has ls 13 [(0, .ref (adr G 0)), (1, .int a1), (2, .int a2), (3, .int a3), (4, .ref (adr G 30)), (5, .ref (adr G 31)), (6, .ref (adr G 32)), (7, .ref (adr G 33)), (8, .int v39), (9, .int (bI (decide (v183 = 0)))), (10, .int (bI (!decide (v185 ≤ 0)))), (11, .int ((if (decide (v183 = 0)) then 2 else 1) : Int32))] → W p l e { frames := 9, cells := 5, slots := 6 * 5, locals := 192 } s m ([.ref (adr G 0), .int a1, .int a2, .int a3, .ref (adr G 30), .ref (adr G 31), .ref (adr G 32), .ref (adr G 33)] : List Value).toArray below meth c H locs 0 0 (vx_MQ below (hyQ G (.inr (some (.int (bI res.1))), (res.2.1, res.2.2, Mo))) (hyXQ G (.inr (some (.int (bI res.1))), (res.2.1, res.2.2, Mo))) ([.ref (adr G 0), .int a1, .int a2, .int a3, .ref (adr G 30), .ref (adr G 31), .ref (adr G 32), .ref (adr G 33)] : List Value).toArray s 5 (6 * 5) (hyA G)) (F0 m 339 ls [.int u1]) := by
                  intro H locs ls u1 eu1 hP hS hl
                  subst eu1
                  exact hy_zret (T := (C201, M199, Mo)) hx hb hr hlocks hP hS (by decide) (by decide) (bI_nar (decide (v200 = v202))) (by rw [← (Option.some.inj h)] <;> rfl) dL_act_339
                refine lv_icmp_ne (tgt := 338) hx hb dL_act_331 (by decide) (fun c203 => ?_) (fun c203 => ?_)
                · refine lv_iconst (v := 0) hx hb dL_act_338 rfl ?_
                  exact J204 _ _ ls 0 (by rw [decide_eq_false c203] <;> rfl) hP hS (lv_sub hl [1, 2, 3, 4, 5, 6, 7, 8, 9, 10, 11, 0] rfl)
                · refine lv_iconst (v := 1) hx hb dL_act_334 rfl ?_
                  refine lv_goto (tgt := 339) hx hb dL_act_335 (by decide) ?_
                  exact J204 _ _ ls 1 (by rw [decide_eq_true c203] <;> rfl) hP hS (lv_sub hl [1, 2, 3, 4, 5, 6, 7, 8, 9, 10, 11, 0] rfl)
            refine lv_if_eq (tgt := 265) hx hb dL_act_258 (by decide) (fun c187 => ?_) (fun c187 => ?_)
            · refine lv_iconst (v := 1) hx hb dL_act_265 rfl ?_
              exact J205 _ _ ls 1 (by rw [if_neg (bI_0 c187)] <;> rfl) hP hS (lv_sub hl [1, 2, 3, 4, 5, 6, 7, 8, 9, 10, 0] rfl)
            · refine lv_iconst (v := 2) hx hb dL_act_261 rfl ?_
              refine lv_goto (tgt := 266) hx hb dL_act_262 (by decide) ?_
              exact J205 _ _ ls 2 (by rw [if_pos (bI_1 c187)] <;> rfl) hP hS (lv_sub hl [1, 2, 3, 4, 5, 6, 7, 8, 9, 10, 0] rfl)
          refine lv_if_le (tgt := 253) hx hb dL_act_246 (by decide) (fun c186 => ?_) (fun c186 => ?_)
          · refine lv_iconst (v := 0) hx hb dL_act_253 rfl ?_
            exact J206 _ _ ls 0 (by rw [decide_eq_true c186] <;> rfl) hP hS (lv_sub hl [1, 2, 3, 4, 5, 6, 7, 8, 9, 0] rfl)
          · refine lv_iconst (v := 1) hx hb dL_act_249 rfl ?_
            refine lv_goto (tgt := 254) hx hb dL_act_250 (by decide) ?_
            exact J206 _ _ ls 1 (by rw [decide_eq_false c186] <;> rfl) hP hS (lv_sub hl [1, 2, 3, 4, 5, 6, 7, 8, 9, 0] rfl)
        refine lv_if_ne (tgt := 236) hx hb dL_act_229 (by decide) (fun c184 => ?_) (fun c184 => ?_)
        · refine lv_iconst (v := 0) hx hb dL_act_236 rfl ?_
          exact J207 _ _ ls 0 (by rw [decide_eq_false c184] <;> rfl) hP hS (lv_sub hl [1, 2, 3, 4, 5, 6, 7, 8, 0] rfl)
        · refine lv_iconst (v := 1) hx hb dL_act_232 rfl ?_
          refine lv_goto (tgt := 237) hx hb dL_act_233 (by decide) ?_
          exact J207 _ _ ls 1 (by rw [decide_eq_true c184] <;> rfl) hP hS (lv_sub hl [1, 2, 3, 4, 5, 6, 7, 8, 0] rfl)
    · rw [if_pos (c37)] at h
      refine lv_aload hx hb dL_act_13 (lv_at hl 4 rfl) ?_
      refine lv_iconst (v := 1) hx hb dL_act_15 rfl ?_
      obtain ⟨v208, hv208, h⟩ := hy_bind h
      obtain ⟨nv208, hv208⟩ := ldE_some hv208
      refine hy_iald (T := (C, M, Mo)) hx hb hX hP 30 6 (M.1 30) (hy34 G (by decide)) rfl nv208 dL_act_16 ?_
      rw [hv208]
      refine lv_bipush (v := 12) hx hb dL_act_17 rfl ?_
      refine lv_icmp_ne (tgt := 24) hx hb dL_act_19 (by decide) (fun c209 => ?_) (fun c209 => ?_)
      · rw [if_neg c209] at h
        refine lv_iconst (v := 5) hx hb dL_act_24 rfl ?_
        refine lv_aload hx hb dL_act_25 (lv_at hl 4 rfl) ?_
        refine lv_iconst (v := 1) hx hb dL_act_27 rfl ?_
        obtain ⟨v210, hv210, h⟩ := hy_bind h
        obtain ⟨nv210, hv210⟩ := ldE_some hv210
        refine hy_iald (T := (C, M, Mo)) hx hb hX hP 30 6 (M.1 30) (hy34 G (by decide)) rfl nv210 dL_act_28 ?_
        rw [hv210]
        refine lv_imul hx hb dL_act_29 ?_
        refine lv_istore (lv' := [(8, .int (5 * v210)), (0, .ref (adr G 0)), (1, .int a1), (2, .int a2), (3, .int a3), (4, .ref (adr G 30)), (5, .ref (adr G 31)), (6, .ref (adr G 32)), (7, .ref (adr G 33))]) hx hb dL_act_30 hl (by decide) rfl (fun ls hl => ?_)
        refine lv_aload hx hb dL_act_32 (lv_at hl 6 rfl) ?_
        refine lv_iload hx hb dL_act_34 (lv_at hl 0 rfl) ?_
        refine lv_iconst (v := 4) hx hb dL_act_36 rfl ?_
        refine lv_iconst (v := 1) hx hb dL_act_37 rfl ?_
        refine lv_iload_n hx hb dL_act_38 rfl (lv_at hl 3 rfl) ?_
        refine lv_iconst (v := 4) hx hb dL_act_39 rfl ?_
        obtain ⟨v211, hv211, h⟩ := hy_bind h
        refine hy_ret (hy_rS0 (T := (C, M, Mo)) (v := some (.int v211)) (T2 := (C, M, Mo)) (As := [.int a2, .int 4]) (rest := [.int 1, .int 4, .int (5 * v210), .ref (adr G 31)]) (n := 0) hx hb hml hown hts hX hP hS hl (c_La_at C Mo a2 4 M hv211) m_La_at q_641 rfl rfl (Nat.le_of_ble_eq_true rfl) dL_act_40 ⟨Nat.le_of_ble_eq_true rfl, Nat.le_of_ble_eq_true rfl⟩ ⟨by decide, by decide⟩) hS (fun H locs hP hS => ?_)
        refine lv_iadd hx hb dL_act_43 ?_
        refine lv_imul hx hb dL_act_44 ?_
        obtain ⟨M212, hM212, h⟩ := hy_bind h
        obtain ⟨nM212, hM212⟩ := stE_some hM212
        refine hy_iast (T := (C, M, Mo)) (T2 := (C, (wI M 31 (5 * v210).toNatClampNeg (4 * (1 + v211))), Mo)) hx hb hX hP hS 31 60 (hy34 G (by decide)) (fun _ _ => rfl) nM212 rfl dL_act_45 (fun H locs hP hS => ?_)
        rw [hM212] at hP
        refine lv_iconst (v := 0) hx hb dL_act_46 rfl ?_
        refine lv_istore (lv' := [(9, .int 0), (8, .int (5 * v210)), (0, .ref (adr G 0)), (1, .int a1), (2, .int a2), (3, .int a3), (4, .ref (adr G 30)), (5, .ref (adr G 31)), (6, .ref (adr G 32)), (7, .ref (adr G 33))]) hx hb dL_act_47 hl (by decide) rfl (fun ls hl => ?_)
        have L227 : ∀ (f : Nat) (x213 : Int32) (M214 : hyM) (qL : (Int32 × hyM)) (h : La_act_L49b a2 a3 v210 f x213 M214 = some qL) (H : Heap) (locs : List Loc) (ls : Array Slot) (hP : va_P G.1 vwCl (wld G (C, M214, Mo)) H) (hS : va_S (hyA G) s.heap H locs) (hl : lv_has ls 13 [(0, .ref (adr G 0)), (1, .int a1), (2, .int a2), (3, .int a3), (4, .ref (adr G 30)), (5, .ref (adr G 31)), (6, .ref (adr G 32)), (7, .ref (adr G 33)), (8, .int (5 * v210)), (9, .int x213)]) (kk : ∀ (y213 : Int32) (NM214 : hyM), qL = (y213, NM214) → ∀ (H : Heap) (locs : List Loc) (ls : Array Slot), va_P G.1 vwCl (wld G (C, NM214, Mo)) H → va_S (hyA G) s.heap H locs → lv_has ls 13 [(0, .ref (adr G 0)), (1, .int a1), (2, .int a2), (3, .int a3), (4, .ref (adr G 30)), (5, .ref (adr G 31)), (6, .ref (adr G 32)), (7, .ref (adr G 33)), (8, .int (5 * v210)), (9, .int y213)] → W p l e { frames := 9, cells := 5, slots := 6 * 5, locals := 192 } s m ([.ref (adr G 0), .int a1, .int a2, .int a3, .ref (adr G 30), .ref (adr G 31), .ref (adr G 32), .ref (adr G 33)] : List Value).toArray below meth c H locs 0 0 (vx_MQ below (hyQ G (.inr (some (.int (bI res.1))), (res.2.1, res.2.2, Mo))) (hyXQ G (.inr (some (.int (bI res.1))), (res.2.1, res.2.2, Mo))) ([.ref (adr G 0), .int a1, .int a2, .int a3, .ref (adr G 30), .ref (adr G 31), .ref (adr G 32), .ref (adr G 33)] : List Value).toArray s 5 (6 * 5) (hyA G)) (F0 m 137 ls [])), W p l e { frames := 9, cells := 5, slots := 6 * 5, locals := 192 } s m ([.ref (adr G 0), .int a1, .int a2, .int a3, .ref (adr G 30), .ref (adr G 31), .ref (adr G 32), .ref (adr G 33)] : List Value).toArray below meth c H locs 0 0 (vx_MQ below (hyQ G (.inr (some (.int (bI res.1))), (res.2.1, res.2.2, Mo))) (hyXQ G (.inr (some (.int (bI res.1))), (res.2.1, res.2.2, Mo))) ([.ref (adr G 0), .int a1, .int a2, .int a3, .ref (adr G 30), .ref (adr G 31), .ref (adr G 32), .ref (adr G 33)] : List Value).toArray s 5 (6 * 5) (hyA G)) (F0 m 49 ls []) := by
          intro f
          induction f with
          | zero =>
            intro x213 M214 qL h H locs ls hP hS hl kk
            rw [La_act_L49b] at h
            cases h
          | succ f ih =>
            intro x213 M214 qL h H locs ls hP hS hl kk
            rw [La_act_L49b] at h
            refine lv_iload hx hb dL_act_49 (lv_at hl 9 rfl) ?_
            refine lv_iconst (v := 4) hx hb dL_act_51 rfl ?_
            refine lv_icmp_ge (tgt := 137) hx hb dL_act_52 (by decide) (fun c215 => ?_) (fun c215 => ?_)
            · rw [if_pos c215] at h
              exact kk x213 M214 (Option.some.inj h).symm _ _ ls hP hS (lv_sub hl [0, 1, 2, 3, 4, 5, 6, 7, 8, 9] rfl)
            · rw [if_neg c215] at h
              refine lv_aload hx hb dL_act_55 (lv_at hl 5 rfl) ?_
              refine lv_iload hx hb dL_act_57 (lv_at hl 8 rfl) ?_
              refine lv_iconst (v := 1) hx hb dL_act_59 rfl ?_
              refine lv_iadd hx hb dL_act_60 ?_
              refine lv_iload hx hb dL_act_61 (lv_at hl 9 rfl) ?_
              refine lv_iadd hx hb dL_act_63 ?_
              refine lv_aload hx hb dL_act_64 (lv_at hl 4 rfl) ?_
              refine lv_iconst (v := 1) hx hb dL_act_66 rfl ?_
              obtain ⟨v216, hv216, h⟩ := hy_bind h
              obtain ⟨nv216, hv216⟩ := ldE_some hv216
              refine hy_iald (T := (C, M214, Mo)) hx hb hX hP 30 6 (M214.1 30) (hy34 G (by decide)) rfl nv216 dL_act_67 ?_
              rw [hv216]
              refine lv_if_le (tgt := 113) hx hb dL_act_68 (by decide) (fun c217 => ?_) (fun c217 => ?_)
              · rw [if_pos c217] at h
                refine lv_bipush (v := 36) hx hb dL_act_113 rfl ?_
                refine lv_iload_n hx hb dL_act_115 rfl (lv_at hl 3 rfl) ?_
                refine lv_iconst (v := 5) hx hb dL_act_116 rfl ?_
                refine lv_iload hx hb dL_act_117 (lv_at hl 9 rfl) ?_
                refine lv_imul hx hb dL_act_119 ?_
                refine lv_ishr hx hb dL_act_120 ?_
                refine lv_iload hx hb dL_act_121 (lv_at hl 9 rfl) ?_
                refine lv_iadd hx hb dL_act_123 ?_
                refine lv_bipush (v := 49) hx hb dL_act_124 rfl ?_
                obtain ⟨v218, hv218, h⟩ := hy_bind h
                refine hy_ret (hy_rS0 (T := (C, M214, Mo)) (v := some (.int v218)) (T2 := (C, M214, Mo)) (As := [.int ((a3 >>> ((5 * x213) &&& 31)) + x213), .int 49]) (rest := [.int 36, .int (((5 * v210) + 1) + x213), .ref (adr G 31)]) (n := 0) hx hb hml hown hts hX hP hS hl (c_La_at C Mo ((a3 >>> ((5 * x213) &&& 31)) + x213) 49 M214 hv218) m_La_at q_641 rfl rfl (Nat.le_of_ble_eq_true rfl) dL_act_126 ⟨Nat.le_of_ble_eq_true rfl, Nat.le_of_ble_eq_true rfl⟩ ⟨by decide, by decide⟩) hS (fun H locs hP hS => ?_)
                refine lv_iadd hx hb dL_act_129 ?_
                obtain ⟨M219, hM219, h⟩ := hy_bind h
                obtain ⟨nM219, hM219⟩ := stE_some hM219
                refine hy_iast (T := (C, M214, Mo)) (T2 := (C, (wI M214 31 (((5 * v210) + 1) + x213).toNatClampNeg (36 + v218)), Mo)) hx hb hX hP hS 31 60 (hy34 G (by decide)) (fun _ _ => rfl) nM219 rfl dL_act_130 (fun H locs hP hS => ?_)
                rw [hM219] at hP
                refine lv_iinc (v := (x213 + 1)) (lv' := [(9, .int (x213 + 1)), (0, .ref (adr G 0)), (1, .int a1), (2, .int a2), (3, .int a3), (4, .ref (adr G 30)), (5, .ref (adr G 31)), (6, .ref (adr G 32)), (7, .ref (adr G 33)), (8, .int (5 * v210))]) hx hb dL_act_131 hl (k := 9) rfl rfl (by decide) rfl (fun ls hl => ?_)
                refine lv_goto (tgt := 49) hx hb dL_act_134 (by decide) ?_
                exact ih (x213 + 1) M219 _ h  _ _ ls hP hS (lv_sub hl [1, 2, 3, 4, 5, 6, 7, 8, 9, 0] rfl) kk
              · rw [if_neg c217] at h
                refine lv_iload_n hx hb dL_act_71 rfl (lv_at hl 2 rfl) ?_
                refine lv_iload hx hb dL_act_72 (lv_at hl 9 rfl) ?_
                refine lv_iconst (v := 4) hx hb dL_act_74 rfl ?_
                refine lv_iadd hx hb dL_act_75 ?_
                refine lv_ishr hx hb dL_act_76 ?_
                refine lv_iconst (v := 3) hx hb dL_act_77 rfl ?_
                obtain ⟨v220, hv220, h⟩ := hy_bind h
                refine hy_ret (hy_rS0 (T := (C, M214, Mo)) (v := some (.int v220)) (T2 := (C, M214, Mo)) (As := [.int (a2 >>> ((x213 + 4) &&& 31)), .int 3]) (rest := [.int (((5 * v210) + 1) + x213), .ref (adr G 31)]) (n := 0) hx hb hml hown hts hX hP hS hl (c_La_at C Mo (a2 >>> ((x213 + 4) &&& 31)) 3 M214 hv220) m_La_at q_641 rfl rfl (Nat.le_of_ble_eq_true rfl) dL_act_78 ⟨Nat.le_of_ble_eq_true rfl, Nat.le_of_ble_eq_true rfl⟩ ⟨by decide, by decide⟩) hS (fun H locs hP hS => ?_)
                refine lv_if_le (tgt := 113) hx hb dL_act_81 (by decide) (fun c221 => ?_) (fun c221 => ?_)
                · rw [if_pos c221] at h
                  refine lv_bipush (v := 36) hx hb dL_act_113 rfl ?_
                  refine lv_iload_n hx hb dL_act_115 rfl (lv_at hl 3 rfl) ?_
                  refine lv_iconst (v := 5) hx hb dL_act_116 rfl ?_
                  refine lv_iload hx hb dL_act_117 (lv_at hl 9 rfl) ?_
                  refine lv_imul hx hb dL_act_119 ?_
                  refine lv_ishr hx hb dL_act_120 ?_
                  refine lv_iload hx hb dL_act_121 (lv_at hl 9 rfl) ?_
                  refine lv_iadd hx hb dL_act_123 ?_
                  refine lv_bipush (v := 49) hx hb dL_act_124 rfl ?_
                  obtain ⟨v222, hv222, h⟩ := hy_bind h
                  refine hy_ret (hy_rS0 (T := (C, M214, Mo)) (v := some (.int v222)) (T2 := (C, M214, Mo)) (As := [.int ((a3 >>> ((5 * x213) &&& 31)) + x213), .int 49]) (rest := [.int 36, .int (((5 * v210) + 1) + x213), .ref (adr G 31)]) (n := 0) hx hb hml hown hts hX hP hS hl (c_La_at C Mo ((a3 >>> ((5 * x213) &&& 31)) + x213) 49 M214 hv222) m_La_at q_641 rfl rfl (Nat.le_of_ble_eq_true rfl) dL_act_126 ⟨Nat.le_of_ble_eq_true rfl, Nat.le_of_ble_eq_true rfl⟩ ⟨by decide, by decide⟩) hS (fun H locs hP hS => ?_)
                  refine lv_iadd hx hb dL_act_129 ?_
                  obtain ⟨M223, hM223, h⟩ := hy_bind h
                  obtain ⟨nM223, hM223⟩ := stE_some hM223
                  refine hy_iast (T := (C, M214, Mo)) (T2 := (C, (wI M214 31 (((5 * v210) + 1) + x213).toNatClampNeg (36 + v222)), Mo)) hx hb hX hP hS 31 60 (hy34 G (by decide)) (fun _ _ => rfl) nM223 rfl dL_act_130 (fun H locs hP hS => ?_)
                  rw [hM223] at hP
                  refine lv_iinc (v := (x213 + 1)) (lv' := [(9, .int (x213 + 1)), (0, .ref (adr G 0)), (1, .int a1), (2, .int a2), (3, .int a3), (4, .ref (adr G 30)), (5, .ref (adr G 31)), (6, .ref (adr G 32)), (7, .ref (adr G 33)), (8, .int (5 * v210))]) hx hb dL_act_131 hl (k := 9) rfl rfl (by decide) rfl (fun ls hl => ?_)
                  refine lv_goto (tgt := 49) hx hb dL_act_134 (by decide) ?_
                  exact ih (x213 + 1) M223 _ h  _ _ ls hP hS (lv_sub hl [1, 2, 3, 4, 5, 6, 7, 8, 9, 0] rfl) kk
                · rw [if_neg c221] at h
                  refine lv_aload hx hb dL_act_84 (lv_at hl 5 rfl) ?_
                  refine lv_iload hx hb dL_act_86 (lv_at hl 8 rfl) ?_
                  refine lv_iconst (v := 4) hx hb dL_act_88 rfl ?_
                  refine lv_isub hx hb dL_act_89 ?_
                  refine lv_iload hx hb dL_act_90 (lv_at hl 9 rfl) ?_
                  refine lv_iadd hx hb dL_act_92 ?_
                  obtain ⟨v224, hv224, h⟩ := hy_bind h
                  obtain ⟨nv224, hv224⟩ := ldE_some hv224
                  refine hy_iald (T := (C, M214, Mo)) hx hb hX hP 31 60 (M214.1 31) (hy34 G (by decide)) rfl nv224 dL_act_93 ?_
                  rw [hv224]
                  refine lv_iload_n hx hb dL_act_94 rfl (lv_at hl 3 rfl) ?_
                  refine lv_iconst (v := 3) hx hb dL_act_95 rfl ?_
                  refine lv_iload hx hb dL_act_96 (lv_at hl 9 rfl) ?_
                  refine lv_imul hx hb dL_act_98 ?_
                  refine lv_ishr hx hb dL_act_99 ?_
                  refine lv_bipush (v := 9) hx hb dL_act_100 rfl ?_
                  obtain ⟨v225, hv225, h⟩ := hy_bind h
                  refine hy_ret (hy_rS0 (T := (C, M214, Mo)) (v := some (.int v225)) (T2 := (C, M214, Mo)) (As := [.int (a3 >>> ((3 * x213) &&& 31)), .int 9]) (rest := [.int v224, .int (((5 * v210) + 1) + x213), .ref (adr G 31)]) (n := 0) hx hb hml hown hts hX hP hS hl (c_La_at C Mo (a3 >>> ((3 * x213) &&& 31)) 9 M214 hv225) m_La_at q_641 rfl rfl (Nat.le_of_ble_eq_true rfl) dL_act_102 ⟨Nat.le_of_ble_eq_true rfl, Nat.le_of_ble_eq_true rfl⟩ ⟨by decide, by decide⟩) hS (fun H locs hP hS => ?_)
                  refine lv_iconst (v := 4) hx hb dL_act_105 rfl ?_
                  refine lv_isub hx hb dL_act_106 ?_
                  refine hy_ret (hy_rS0 (T := (C, M214, Mo)) (v := some (.int (La_moved v224 (v225 - 4) M214))) (T2 := (C, M214, Mo)) (As := [.int v224, .int (v225 - 4)]) (rest := [.int (((5 * v210) + 1) + x213), .ref (adr G 31)]) (n := 0) hx hb hml hown hts hX hP hS hl (c_La_moved C Mo v224 (v225 - 4) M214 rfl) m_La_moved q_981 rfl rfl (Nat.le_of_ble_eq_true rfl) dL_act_107 ⟨Nat.le_of_ble_eq_true rfl, Nat.le_of_ble_eq_true rfl⟩ ⟨by decide, by decide⟩) hS (fun H locs hP hS => ?_)
                  refine lv_goto (tgt := 130) hx hb dL_act_110 (by decide) ?_
                  obtain ⟨M226, hM226, h⟩ := hy_bind h
                  obtain ⟨nM226, hM226⟩ := stE_some hM226
                  refine hy_iast (T := (C, M214, Mo)) (T2 := (C, (wI M214 31 (((5 * v210) + 1) + x213).toNatClampNeg (La_moved v224 (v225 - 4) M214)), Mo)) hx hb hX hP hS 31 60 (hy34 G (by decide)) (fun _ _ => rfl) nM226 rfl dL_act_130 (fun H locs hP hS => ?_)
                  rw [hM226] at hP
                  refine lv_iinc (v := (x213 + 1)) (lv' := [(9, .int (x213 + 1)), (0, .ref (adr G 0)), (1, .int a1), (2, .int a2), (3, .int a3), (4, .ref (adr G 30)), (5, .ref (adr G 31)), (6, .ref (adr G 32)), (7, .ref (adr G 33)), (8, .int (5 * v210))]) hx hb dL_act_131 hl (k := 9) rfl rfl (by decide) rfl (fun ls hl => ?_)
                  refine lv_goto (tgt := 49) hx hb dL_act_134 (by decide) ?_
                  exact ih (x213 + 1) M226 _ h  _ _ ls hP hS (lv_sub hl [1, 2, 3, 4, 5, 6, 7, 8, 9, 0] rfl) kk
        obtain ⟨q241, hq241, h⟩ := hy_bind h
        refine L227 hyFu 0 M212 q241 hq241 _ _ ls hP hS (lv_sub hl [2, 3, 4, 5, 6, 7, 8, 9, 1, 0] rfl) ?_
        intro y213 NM214 e9 H locs ls hP hS hl
        subst e9
        try dsimp only at h
        refine lv_aload hx hb dL_act_137 (lv_at hl 4 rfl) ?_
        refine lv_iconst (v := 1) hx hb dL_act_139 rfl ?_
        refine lv_dup2_11 hx hb dL_act_140 rfl rfl ?_
        obtain ⟨v228, hv228, h⟩ := hy_bind h
        obtain ⟨nv228, hv228⟩ := ldE_some hv228
        refine hy_iald (T := (C, NM214, Mo)) hx hb hX hP 30 6 (NM214.1 30) (hy34 G (by decide)) rfl nv228 dL_act_141 ?_
        rw [hv228]
        refine lv_iconst (v := 1) hx hb dL_act_142 rfl ?_
        refine lv_iadd hx hb dL_act_143 ?_
        obtain ⟨M229, hM229, h⟩ := hy_bind h
        obtain ⟨nM229, hM229⟩ := stE_some hM229
        refine hy_iast (T := (C, NM214, Mo)) (T2 := (C, (wI NM214 30 (1 : Int32).toNatClampNeg (v228 + 1)), Mo)) hx hb hX hP hS 30 6 (hy34 G (by decide)) (fun _ _ => rfl) nM229 rfl dL_act_144 (fun H locs hP hS => ?_)
        rw [hM229] at hP
        refine lv_aload hx hb dL_act_145 (lv_at hl 4 rfl) ?_
        refine lv_aload hx hb dL_act_147 (lv_at hl 5 rfl) ?_
        refine lv_aload hx hb dL_act_149 (lv_at hl 6 rfl) ?_
        obtain ⟨M230, hM230, h⟩ := hy_bind h
        refine hy_ret (hy_rS0 (T := (C, M229, Mo)) (v := none) (T2 := (C, M230, Mo)) (As := [.ref (adr G 30), .ref (adr G 31), .ref (adr G 32)]) (rest := []) (n := 0) hx hb hml hown hts hX hP hS hl (c_La_settle C Mo M229 hM230) m_La_settle q_984 rfl rfl (Nat.le_of_ble_eq_true rfl) dL_act_151 ⟨Nat.le_of_ble_eq_true rfl, Nat.le_of_ble_eq_true rfl⟩ ⟨by decide, by decide⟩) hS (fun H locs hP hS => ?_)
        refine lv_aload_n hx hb dL_act_154 rfl (lv_at hl 0 rfl) ?_
        refine lv_aload hx hb dL_act_155 (lv_at hl 5 rfl) ?_
        refine lv_iload hx hb dL_act_157 (lv_at hl 8 rfl) ?_
        obtain ⟨v231, hv231, h⟩ := hy_bind h
        obtain ⟨nv231, hv231⟩ := ldE_some hv231
        refine hy_iald (T := (C, M230, Mo)) hx hb hX hP 31 60 (M230.1 31) (hy34 G (by decide)) rfl nv231 dL_act_159 ?_
        rw [hv231]
        refine lv_iconst (v := 2) hx hb dL_act_160 rfl ?_
        refine lv_ishr hx hb dL_act_161 ?_
        refine lv_aload hx hb dL_act_162 (lv_at hl 5 rfl) ?_
        refine lv_iload hx hb dL_act_164 (lv_at hl 8 rfl) ?_
        refine lv_iconst (v := 1) hx hb dL_act_166 rfl ?_
        refine lv_iadd hx hb dL_act_167 ?_
        obtain ⟨v232, hv232, h⟩ := hy_bind h
        obtain ⟨nv232, hv232⟩ := ldE_some hv232
        refine hy_iald (T := (C, M230, Mo)) hx hb hX hP 31 60 (M230.1 31) (hy34 G (by decide)) rfl nv232 dL_act_168 ?_
        rw [hv232]
        refine lv_aload hx hb dL_act_169 (lv_at hl 5 rfl) ?_
        refine lv_iload hx hb dL_act_171 (lv_at hl 8 rfl) ?_
        refine lv_iconst (v := 2) hx hb dL_act_173 rfl ?_
        refine lv_iadd hx hb dL_act_174 ?_
        obtain ⟨v233, hv233, h⟩ := hy_bind h
        obtain ⟨nv233, hv233⟩ := ldE_some hv233
        refine hy_iald (T := (C, M230, Mo)) hx hb hX hP 31 60 (M230.1 31) (hy34 G (by decide)) rfl nv233 dL_act_175 ?_
        rw [hv233]
        refine lv_aload hx hb dL_act_176 (lv_at hl 5 rfl) ?_
        refine lv_iload hx hb dL_act_178 (lv_at hl 8 rfl) ?_
        refine lv_iconst (v := 3) hx hb dL_act_180 rfl ?_
        refine lv_iadd hx hb dL_act_181 ?_
        obtain ⟨v234, hv234, h⟩ := hy_bind h
        obtain ⟨nv234, hv234⟩ := ldE_some hv234
        refine hy_iald (T := (C, M230, Mo)) hx hb hX hP 31 60 (M230.1 31) (hy34 G (by decide)) rfl nv234 dL_act_182 ?_
        rw [hv234]
        refine lv_aload hx hb dL_act_183 (lv_at hl 5 rfl) ?_
        refine lv_iload hx hb dL_act_185 (lv_at hl 8 rfl) ?_
        refine lv_iconst (v := 4) hx hb dL_act_187 rfl ?_
        refine lv_iadd hx hb dL_act_188 ?_
        obtain ⟨v235, hv235, h⟩ := hy_bind h
        obtain ⟨nv235, hv235⟩ := ldE_some hv235
        refine hy_iald (T := (C, M230, Mo)) hx hb hX hP 31 60 (M230.1 31) (hy34 G (by decide)) rfl nv235 dL_act_189 ?_
        rw [hv235]
        obtain ⟨⟨v236, C237⟩, hv236, h⟩ := hy_bind h
        try dsimp only at h
        refine hy_ret (hy_rV0 (T := (C, M230, Mo)) (v := some (.int v236)) (T2 := (C237, M230, Mo)) (As := [.int (v231 >>> (2 &&& 31)), .int v232, .int v233, .int v234, .int v235]) (rest := []) (n := 0) hx hb hml hown hts hX hP hS hl (c_Hp_addNote hlt M230 Mo (v231 >>> (2 &&& 31)) v232 v233 v234 v235 C (res := (.inr v236, C237)) (rtMb_some hv236)) m_Hp_addNote q_987 (hy_recv hX hP 0 9 (by decide) rfl rfl) rfl rfl (Nat.le_of_ble_eq_true rfl) dL_act_190 ⟨Nat.le_of_ble_eq_true rfl, Nat.le_of_ble_eq_true rfl⟩ ⟨by decide, by decide⟩) hS (fun H locs hP hS => ?_)
        refine lv_aload hx hb dL_act_193 (lv_at hl 4 rfl) ?_
        refine lv_iconst (v := 1) hx hb dL_act_195 rfl ?_
        obtain ⟨v238, hv238, h⟩ := hy_bind h
        obtain ⟨nv238, hv238⟩ := ldE_some hv238
        refine hy_iald (T := (C237, M230, Mo)) hx hb hX hP 30 6 (M230.1 30) (hy34 G (by decide)) rfl nv238 dL_act_196 ?_
        rw [hv238]
        refine lv_iconst (v := 1) hx hb dL_act_197 rfl ?_
        refine lv_isub hx hb dL_act_198 ?_
        have J240 : ∀ (H : Heap) (locs : List Loc) (ls : Array Slot) (u1 : Int32), u1 = (bI (decide (v236 = (v238 - 1)))) → va_P G.1 vwCl (wld G (C237, M230, Mo)) H → va_S (hyA G) s.heap H locs → lv_has ls 13 [(0, .ref (adr G 0)), (1, .int a1), (2, .int a2), (3, .int a3), (4, .ref (adr G 30)), (5, .ref (adr G 31)), (6, .ref (adr G 32)), (7, .ref (adr G 33)), (8, .int (5 * v210)), (9, .int y213)] → W p l e { frames := 9, cells := 5, slots := 6 * 5, locals := 192 } s m ([.ref (adr G 0), .int a1, .int a2, .int a3, .ref (adr G 30), .ref (adr G 31), .ref (adr G 32), .ref (adr G 33)] : List Value).toArray below meth c H locs 0 0 (vx_MQ below (hyQ G (.inr (some (.int (bI res.1))), (res.2.1, res.2.2, Mo))) (hyXQ G (.inr (some (.int (bI res.1))), (res.2.1, res.2.2, Mo))) ([.ref (adr G 0), .int a1, .int a2, .int a3, .ref (adr G 30), .ref (adr G 31), .ref (adr G 32), .ref (adr G 33)] : List Value).toArray s 5 (6 * 5) (hyA G)) (F0 m 207 ls [.int u1]) := by
          intro H locs ls u1 eu1 hP hS hl
          subst eu1
          exact hy_zret (T := (C237, M230, Mo)) hx hb hr hlocks hP hS (by decide) (by decide) (bI_nar (decide (v236 = (v238 - 1)))) (by rw [← (Option.some.inj h)] <;> rfl) dL_act_207
        refine lv_icmp_ne (tgt := 206) hx hb dL_act_199 (by decide) (fun c239 => ?_) (fun c239 => ?_)
        · refine lv_iconst (v := 0) hx hb dL_act_206 rfl ?_
          exact J240 _ _ ls 0 (by rw [decide_eq_false c239] <;> rfl) hP hS (lv_sub hl [0, 1, 2, 3, 4, 5, 6, 7, 8, 9] rfl)
        · refine lv_iconst (v := 1) hx hb dL_act_202 rfl ?_
          refine lv_goto (tgt := 207) hx hb dL_act_203 (by decide) ?_
          exact J240 _ _ ls 1 (by rw [decide_eq_true c239] <;> rfl) hP hS (lv_sub hl [0, 1, 2, 3, 4, 5, 6, 7, 8, 9] rfl)
      · rw [if_pos (c209)] at h
        refine lv_iconst (v := 1) hx hb dL_act_22 rfl ?_
        exact hy_zret (T := (C, M, Mo)) hx hb hr hlocks hP hS (by decide) (by decide) (bI_nar true) (by rw [← (Option.some.inj h)] <;> rfl) dL_act_23
