set_option maxHeartbeats 1000000 in
set_option maxRecDepth 100000 in
theorem c_Rf_faulty {l : Launch} {G : hyG} (Mc Mo : hyM) (M : hyM) {res : Int32} (h : Rf_faulty M = some res) : hyC l yX11_faulty (.code yX11_faulty cX11_faulty 3 (some .int)) 3 74 (0) G [.ref (adr G 30)] (Mc, M, Mo) (.inr (some (.int res)), (Mc, M, Mo)) := by
  refine hy_of (by decide +kernel) (Nat.le_of_ble_eq_true rfl) ?_
  intro p e s m below meth c hx hb hml hown hts hr hlocks ht hX hP hS ls hl
  have hl : lv_has ls 3 [(0, .ref (adr G 30))] := hl
  rw [Rf_faulty] at h
  refine lv_iconst (v := 0) hx hb dX11_faulty_0 rfl ?_
  refine lv_istore_n (lv' := [(1, .int 0), (0, .ref (adr G 30))]) hx hb dX11_faulty_1 rfl hl (by decide) rfl (fun ls hl => ?_)
  refine lv_iconst (v := 0) hx hb dX11_faulty_2 rfl ?_
  refine lv_istore_n (lv' := [(2, .int 0), (1, .int 0), (0, .ref (adr G 30))]) hx hb dX11_faulty_3 rfl hl (by decide) rfl (fun ls hl => ?_)
  have L7 : ∀ (f : Nat) (x1 : Int32) (x2 : Int32) (qL : (Int32 × Int32)) (h : Rf_faulty_L4 M f x1 x2 = some qL) (H : Heap) (locs : List Loc) (ls : Array Slot) (hP : va_P G.1 vwCl (wld G (Mc, M, Mo)) H) (hS : va_S (hyA G) s.heap H locs) (hl : lv_has ls 3 [(0, .ref (adr G 30)), (1, .int x1), (2, .int x2)]) (kk : ∀ (y1 : Int32) (y2 : Int32), qL = (y1, y2) → ∀ (H : Heap) (locs : List Loc) (ls : Array Slot), va_P G.1 vwCl (wld G (Mc, M, Mo)) H → va_S (hyA G) s.heap H locs → lv_has ls 3 [(0, .ref (adr G 30)), (1, .int y1), (2, .int y2)] → W p l e { frames := 3, cells := 0, slots := 6 * 0, locals := 74 } s m ([.ref (adr G 30)] : List Value).toArray below meth c H locs 0 0 (vx_MQ below (hyQ G (.inr (some (.int res)), (Mc, M, Mo))) (hyXQ G (.inr (some (.int res)), (Mc, M, Mo))) ([.ref (adr G 30)] : List Value).toArray s 0 (6 * 0) (hyA G)) (F0 m 34 ls [])), W p l e { frames := 3, cells := 0, slots := 6 * 0, locals := 74 } s m ([.ref (adr G 30)] : List Value).toArray below meth c H locs 0 0 (vx_MQ below (hyQ G (.inr (some (.int res)), (Mc, M, Mo))) (hyXQ G (.inr (some (.int res)), (Mc, M, Mo))) ([.ref (adr G 30)] : List Value).toArray s 0 (6 * 0) (hyA G)) (F0 m 4 ls []) := by
    intro f
    induction f with
    | zero =>
      intro x1 x2 qL h H locs ls hP hS hl kk
      rw [Rf_faulty_L4] at h
      cases h
    | succ f ih =>
      intro x1 x2 qL h H locs ls hP hS hl kk
      rw [Rf_faulty_L4] at h
      refine lv_iload_n hx hb dX11_faulty_4 rfl (lv_at hl 2 rfl) ?_
      refine lv_aload_n hx hb dX11_faulty_5 rfl (lv_at hl 0 rfl) ?_
      refine hy_get (T := (Mc, M, Mo)) (o := 30) (k := 2) (v := .int (M.1 30 2)) hx hb hown hts hX hP (by decide) rfl rfl inX11g (by decide) q_1194 rfl dX11_faulty_6 ?_
      refine lv_icmp_ge (tgt := 34) hx hb dX11_faulty_9 (by decide) (fun c3 => ?_) (fun c3 => ?_)
      · rw [if_pos c3] at h
        exact kk x1 x2 (Option.some.inj h).symm _ _ ls hP hS (lv_sub hl [0, 1, 2] rfl)
      · rw [if_neg c3] at h
        refine lv_iload_n hx hb dX11_faulty_12 rfl (lv_at hl 1 rfl) ?_
        refine lv_aload_n hx hb dX11_faulty_13 rfl (lv_at hl 0 rfl) ?_
        refine lv_iload_n hx hb dX11_faulty_14 rfl (lv_at hl 2 rfl) ?_
        obtain ⟨v4, hv4, h⟩ := hy_bind h
        refine hy_ret (hy_rV0 (T := (Mc, M, Mo)) (v := some (.int v4)) (T2 := (Mc, M, Mo)) (As := [.int x2]) (rest := [.int x1]) (n := 0) hx hb hml hown hts hX hP hS hl (c_Rf_parallels Mc Mo x2 M hv4) m_Rf_parallels q_1494 (hy_recv hX hP 30 10 (by decide) rfl rfl) rfl rfl (Nat.le_of_ble_eq_true rfl) dX11_faulty_15 ⟨Nat.le_of_ble_eq_true rfl, Nat.le_of_ble_eq_true rfl⟩ ⟨Nat.zero_le _, Nat.zero_le _⟩) hS (fun H locs hP hS => ?_)
        have J6 : ∀ (H : Heap) (locs : List Loc) (ls : Array Slot) (u1 : Int32), u1 = (bI (!decide (v4 = 0))) → va_P G.1 vwCl (wld G (Mc, M, Mo)) H → va_S (hyA G) s.heap H locs → lv_has ls 3 [(0, .ref (adr G 30)), (1, .int x1), (2, .int x2)] → W p l e { frames := 3, cells := 0, slots := 6 * 0, locals := 74 } s m ([.ref (adr G 30)] : List Value).toArray below meth c H locs 0 0 (vx_MQ below (hyQ G (.inr (some (.int res)), (Mc, M, Mo))) (hyXQ G (.inr (some (.int res)), (Mc, M, Mo))) ([.ref (adr G 30)] : List Value).toArray s 0 (6 * 0) (hyA G)) (F0 m 26 ls [.int u1, .int x1]) := by
          intro H locs ls u1 eu1 hP hS hl
          subst eu1
          refine lv_iadd hx hb dX11_faulty_26 ?_
          refine lv_istore_n (lv' := [(1, .int (x1 + (bI (!decide (v4 = 0))))), (0, .ref (adr G 30)), (2, .int x2)]) hx hb dX11_faulty_27 rfl hl (by decide) rfl (fun ls hl => ?_)
          refine lv_iinc (v := (x2 + 1)) (lv' := [(2, .int (x2 + 1)), (1, .int (x1 + (bI (!decide (v4 = 0))))), (0, .ref (adr G 30))]) hx hb dX11_faulty_28 hl (k := 2) rfl rfl (by decide) rfl (fun ls hl => ?_)
          refine lv_goto (tgt := 4) hx hb dX11_faulty_31 (by decide) ?_
          exact ih (x1 + (bI (!decide (v4 = 0)))) (x2 + 1) _ h  _ _ ls hP hS (lv_sub hl [2, 1, 0] rfl) kk
        refine lv_if_ne (tgt := 25) hx hb dX11_faulty_18 (by decide) (fun c5 => ?_) (fun c5 => ?_)
        · refine lv_iconst (v := 1) hx hb dX11_faulty_25 rfl ?_
          exact J6 _ _ ls 1 (by rw [decide_eq_false c5] <;> rfl) hP hS (lv_sub hl [0, 1, 2] rfl)
        · refine lv_iconst (v := 0) hx hb dX11_faulty_21 rfl ?_
          refine lv_goto (tgt := 26) hx hb dX11_faulty_22 (by decide) ?_
          exact J6 _ _ ls 0 (by rw [decide_eq_true c5] <;> rfl) hP hS (lv_sub hl [0, 1, 2] rfl)
  obtain ⟨q8, hq8, h⟩ := hy_bind h
  refine L7 hyFu 0 0 q8 hq8 _ _ ls hP hS (lv_sub hl [2, 1, 0] rfl) ?_
  intro y1 y2 e9 H locs ls hP hS hl
  subst e9
  try dsimp only at h
  refine lv_iload_n hx hb dX11_faulty_34 rfl (lv_at hl 1 rfl) ?_
  exact hy_iret (T := (Mc, M, Mo)) hx hb hr hlocks hP hS (Nat.zero_le _) (Nat.zero_le _) (by rw [← (Option.some.inj h)] <;> rfl) dX11_faulty_35
set_option maxHeartbeats 1000000 in
set_option maxRecDepth 100000 in
theorem c_Rf_counted {l : Launch} {G : hyG} (Mc Mo : hyM) (a1 : Int32) (M : hyM) {res : Int32} (h : Rf_counted a1 M = some res) : hyC l yX11_counted (.code yX11_counted cX11_counted 2 (some .int)) 4 96 (0) G [.ref (adr G 30), .int a1] (Mc, M, Mo) (.inr (some (.int res)), (Mc, M, Mo)) := by
  refine hy_of (by decide +kernel) (Nat.le_of_ble_eq_true rfl) ?_
  intro p e s m below meth c hx hb hml hown hts hr hlocks ht hX hP hS ls hl
  have hl : lv_has ls 2 [(0, .ref (adr G 30)), (1, .int a1)] := hl
  rw [Rf_counted] at h
  refine lv_iload_n hx hb dX11_counted_0 rfl (lv_at hl 1 rfl) ?_
  by_cases c1 : a1 = 0
  · rw [if_pos c1] at h
    refine lv_tableIn (tgt := 68) (off := 67) hx hb dX11_counted_1 (by rw [c1]; decide) (by rw [c1]; decide) (by rw [c1]; rfl) (by decide) ?_
    refine lv_aload_n hx hb dX11_counted_68 rfl (lv_at hl 0 rfl) ?_
    refine hy_get (T := (Mc, M, Mo)) (o := 30) (k := 2) (v := .int (M.1 30 2)) hx hb hown hts hX hP (by decide) rfl rfl inX11g (by decide) q_1194 rfl dX11_counted_69 ?_
    exact hy_iret (T := (Mc, M, Mo)) hx hb hr hlocks hP hS (Nat.zero_le _) (Nat.zero_le _) (by rw [← (Option.some.inj h)] <;> rfl) dX11_counted_72
  · rw [if_neg c1] at h
    by_cases c2 : a1 = 1
    · rw [if_pos c2] at h
      refine lv_tableIn (tgt := 73) (off := 72) hx hb dX11_counted_1 (by rw [c2]; decide) (by rw [c2]; decide) (by rw [c2]; rfl) (by decide) ?_
      refine lv_aload_n hx hb dX11_counted_73 rfl (lv_at hl 0 rfl) ?_
      refine hy_get (T := (Mc, M, Mo)) (o := 30) (k := 1) (v := .int (M.1 30 1)) hx hb hown hts hX hP (by decide) rfl rfl inX11g (by decide) q_1193 rfl dX11_counted_74 ?_
      exact hy_iret (T := (Mc, M, Mo)) hx hb hr hlocks hP hS (Nat.zero_le _) (Nat.zero_le _) (by rw [← (Option.some.inj h)] <;> rfl) dX11_counted_77
    · rw [if_neg c2] at h
      by_cases c3 : a1 = 2
      · rw [if_pos c3] at h
        refine lv_tableIn (tgt := 78) (off := 77) hx hb dX11_counted_1 (by rw [c3]; decide) (by rw [c3]; decide) (by rw [c3]; rfl) (by decide) ?_
        refine lv_aload_n hx hb dX11_counted_78 rfl (lv_at hl 0 rfl) ?_
        refine hy_get (T := (Mc, M, Mo)) (o := 30) (k := 21) (v := .int (M.1 30 21)) hx hb hown hts hX hP (by decide) rfl rfl inX11g (by decide) q_1213 rfl dX11_counted_79 ?_
        exact hy_iret (T := (Mc, M, Mo)) hx hb hr hlocks hP hS (Nat.zero_le _) (Nat.zero_le _) (by rw [← (Option.some.inj h)] <;> rfl) dX11_counted_82
      · rw [if_neg c3] at h
        by_cases c4 : a1 = 3
        · rw [if_pos c4] at h
          refine lv_tableIn (tgt := 83) (off := 82) hx hb dX11_counted_1 (by rw [c4]; decide) (by rw [c4]; decide) (by rw [c4]; rfl) (by decide) ?_
          refine lv_aload_n hx hb dX11_counted_83 rfl (lv_at hl 0 rfl) ?_
          refine hy_get (T := (Mc, M, Mo)) (o := 30) (k := 25) (v := .int (M.1 30 25)) hx hb hown hts hX hP (by decide) rfl rfl inX11g (by decide) q_1217 rfl dX11_counted_84 ?_
          exact hy_iret (T := (Mc, M, Mo)) hx hb hr hlocks hP hS (Nat.zero_le _) (Nat.zero_le _) (by rw [← (Option.some.inj h)] <;> rfl) dX11_counted_87
        · rw [if_neg c4] at h
          by_cases c5 : a1 = 4
          · rw [if_pos c5] at h
            refine lv_tableIn (tgt := 88) (off := 87) hx hb dX11_counted_1 (by rw [c5]; decide) (by rw [c5]; decide) (by rw [c5]; rfl) (by decide) ?_
            refine lv_aload_n hx hb dX11_counted_88 rfl (lv_at hl 0 rfl) ?_
            refine hy_get (T := (Mc, M, Mo)) (o := 30) (k := 7) (v := .int (M.1 30 7)) hx hb hown hts hX hP (by decide) rfl rfl inX11g (by decide) q_1199 rfl dX11_counted_89 ?_
            exact hy_iret (T := (Mc, M, Mo)) hx hb hr hlocks hP hS (Nat.zero_le _) (Nat.zero_le _) (by rw [← (Option.some.inj h)] <;> rfl) dX11_counted_92
          · rw [if_neg c5] at h
            by_cases c6 : a1 = 5
            · rw [if_pos c6] at h
              refine lv_tableIn (tgt := 93) (off := 92) hx hb dX11_counted_1 (by rw [c6]; decide) (by rw [c6]; decide) (by rw [c6]; rfl) (by decide) ?_
              refine lv_aload_n hx hb dX11_counted_93 rfl (lv_at hl 0 rfl) ?_
              refine hy_get (T := (Mc, M, Mo)) (o := 30) (k := 11) (v := .int (M.1 30 11)) hx hb hown hts hX hP (by decide) rfl rfl inX11g (by decide) q_1203 rfl dX11_counted_94 ?_
              exact hy_iret (T := (Mc, M, Mo)) hx hb hr hlocks hP hS (Nat.zero_le _) (Nat.zero_le _) (by rw [← (Option.some.inj h)] <;> rfl) dX11_counted_97
            · rw [if_neg c6] at h
              by_cases c7 : a1 = 6
              · rw [if_pos c7] at h
                refine lv_tableIn (tgt := 98) (off := 97) hx hb dX11_counted_1 (by rw [c7]; decide) (by rw [c7]; decide) (by rw [c7]; rfl) (by decide) ?_
                refine lv_aload_n hx hb dX11_counted_98 rfl (lv_at hl 0 rfl) ?_
                refine hy_get (T := (Mc, M, Mo)) (o := 30) (k := 12) (v := .int (M.1 30 12)) hx hb hown hts hX hP (by decide) rfl rfl inX11g (by decide) q_1204 rfl dX11_counted_99 ?_
                exact hy_iret (T := (Mc, M, Mo)) hx hb hr hlocks hP hS (Nat.zero_le _) (Nat.zero_le _) (by rw [← (Option.some.inj h)] <;> rfl) dX11_counted_102
              · rw [if_neg c7] at h
                by_cases c8 : a1 = 7
                · rw [if_pos c8] at h
                  refine lv_tableIn (tgt := 103) (off := 102) hx hb dX11_counted_1 (by rw [c8]; decide) (by rw [c8]; decide) (by rw [c8]; rfl) (by decide) ?_
                  refine lv_aload_n hx hb dX11_counted_103 rfl (lv_at hl 0 rfl) ?_
                  refine lv_aload_n hx hb dX11_counted_104 rfl (lv_at hl 0 rfl) ?_
                  refine hy_get (T := (Mc, M, Mo)) (o := 30) (k := 2) (v := .int (M.1 30 2)) hx hb hown hts hX hP (by decide) rfl rfl inX11g (by decide) q_1194 rfl dX11_counted_105 ?_
                  obtain ⟨v15, hv15, h⟩ := hy_bind h
                  refine hy_ret (hy_rV0 (T := (Mc, M, Mo)) (v := some (.int v15)) (T2 := (Mc, M, Mo)) (As := [.int (M.1 30 2)]) (rest := []) (n := 0) hx hb hml hown hts hX hP hS hl (c_Rf_place Mc Mo (M.1 30 2) M hv15) m_Rf_place q_1482 (hy_recv hX hP 30 10 (by decide) rfl rfl) rfl rfl (Nat.le_of_ble_eq_true rfl) dX11_counted_108 ⟨Nat.le_of_ble_eq_true rfl, Nat.le_of_ble_eq_true rfl⟩ ⟨Nat.zero_le _, Nat.zero_le _⟩) hS (fun H locs hP hS => ?_)
                  exact hy_iret (T := (Mc, M, Mo)) hx hb hr hlocks hP hS (Nat.zero_le _) (Nat.zero_le _) (by rw [← (Option.some.inj h)] <;> rfl) dX11_counted_111
                · rw [if_neg c8] at h
                  by_cases c9 : a1 = 8
                  · rw [if_pos c9] at h
                    refine lv_tableIn (tgt := 112) (off := 111) hx hb dX11_counted_1 (by rw [c9]; decide) (by rw [c9]; decide) (by rw [c9]; rfl) (by decide) ?_
                    refine lv_aload_n hx hb dX11_counted_112 rfl (lv_at hl 0 rfl) ?_
                    refine lv_aload_n hx hb dX11_counted_113 rfl (lv_at hl 0 rfl) ?_
                    refine hy_get (T := (Mc, M, Mo)) (o := 30) (k := 2) (v := .int (M.1 30 2)) hx hb hown hts hX hP (by decide) rfl rfl inX11g (by decide) q_1194 rfl dX11_counted_114 ?_
                    obtain ⟨v16, hv16, h⟩ := hy_bind h
                    refine hy_ret (hy_rV0 (T := (Mc, M, Mo)) (v := some (.int v16)) (T2 := (Mc, M, Mo)) (As := [.int (M.1 30 2)]) (rest := []) (n := 0) hx hb hml hown hts hX hP hS hl (c_Rf_place Mc Mo (M.1 30 2) M hv16) m_Rf_place q_1482 (hy_recv hX hP 30 10 (by decide) rfl rfl) rfl rfl (Nat.le_of_ble_eq_true rfl) dX11_counted_117 ⟨Nat.le_of_ble_eq_true rfl, Nat.le_of_ble_eq_true rfl⟩ ⟨Nat.zero_le _, Nat.zero_le _⟩) hS (fun H locs hP hS => ?_)
                    refine lv_aload_n hx hb dX11_counted_120 rfl (lv_at hl 0 rfl) ?_
                    refine hy_get (T := (Mc, M, Mo)) (o := 30) (k := 11) (v := .int (M.1 30 11)) hx hb hown hts hX hP (by decide) rfl rfl inX11g (by decide) q_1203 rfl dX11_counted_121 ?_
                    obtain ⟨v17, hv17, h⟩ := hy_bind h
                    obtain ⟨nv17, hv17⟩ := jrm_some hv17
                    refine lv_irem hx hb dX11_counted_124 nv17 ?_
                    rw [hv17]
                    have J19 : ∀ (H : Heap) (locs : List Loc) (ls : Array Slot) (u1 : Int32), u1 = (bI (decide (v17 = 0))) → va_P G.1 vwCl (wld G (Mc, M, Mo)) H → va_S (hyA G) s.heap H locs → lv_has ls 2 [(0, .ref (adr G 30)), (1, .int a1)] → W p l e { frames := 4, cells := 0, slots := 6 * 0, locals := 96 } s m ([.ref (adr G 30), .int a1] : List Value).toArray below meth c H locs 0 0 (vx_MQ below (hyQ G (.inr (some (.int res)), (Mc, M, Mo))) (hyXQ G (.inr (some (.int res)), (Mc, M, Mo))) ([.ref (adr G 30), .int a1] : List Value).toArray s 0 (6 * 0) (hyA G)) (F0 m 133 ls [.int u1]) := by
                      intro H locs ls u1 eu1 hP hS hl
                      subst eu1
                      exact hy_iret (T := (Mc, M, Mo)) hx hb hr hlocks hP hS (Nat.zero_le _) (Nat.zero_le _) (by rw [← (Option.some.inj h)] <;> rfl) dX11_counted_133
                    refine lv_if_ne (tgt := 132) hx hb dX11_counted_125 (by decide) (fun c18 => ?_) (fun c18 => ?_)
                    · refine lv_iconst (v := 0) hx hb dX11_counted_132 rfl ?_
                      exact J19 _ _ ls 0 (by rw [decide_eq_false c18] <;> rfl) hP hS (lv_sub hl [0, 1] rfl)
                    · refine lv_iconst (v := 1) hx hb dX11_counted_128 rfl ?_
                      refine lv_goto (tgt := 133) hx hb dX11_counted_129 (by decide) ?_
                      exact J19 _ _ ls 1 (by rw [decide_eq_true c18] <;> rfl) hP hS (lv_sub hl [0, 1] rfl)
                  · rw [if_neg c9] at h
                    by_cases c10 : a1 = 9
                    · rw [if_pos c10] at h
                      refine lv_tableIn (tgt := 134) (off := 133) hx hb dX11_counted_1 (by rw [c10]; decide) (by rw [c10]; decide) (by rw [c10]; rfl) (by decide) ?_
                      refine lv_aload_n hx hb dX11_counted_134 rfl (lv_at hl 0 rfl) ?_
                      refine hy_get (T := (Mc, M, Mo)) (o := 30) (k := 13) (v := .int (M.1 30 13)) hx hb hown hts hX hP (by decide) rfl rfl inX11g (by decide) q_1205 rfl dX11_counted_135 ?_
                      exact hy_iret (T := (Mc, M, Mo)) hx hb hr hlocks hP hS (Nat.zero_le _) (Nat.zero_le _) (by rw [← (Option.some.inj h)] <;> rfl) dX11_counted_138
                    · rw [if_neg c10] at h
                      by_cases c11 : a1 = 10
                      · rw [if_pos c11] at h
                        refine lv_tableIn (tgt := 139) (off := 138) hx hb dX11_counted_1 (by rw [c11]; decide) (by rw [c11]; decide) (by rw [c11]; rfl) (by decide) ?_
                        refine lv_aload_n hx hb dX11_counted_139 rfl (lv_at hl 0 rfl) ?_
                        refine hy_get (T := (Mc, M, Mo)) (o := 30) (k := 30) (v := .int (M.1 30 30)) hx hb hown hts hX hP (by decide) rfl rfl inX11g (by decide) q_1222 rfl dX11_counted_140 ?_
                        exact hy_iret (T := (Mc, M, Mo)) hx hb hr hlocks hP hS (Nat.zero_le _) (Nat.zero_le _) (by rw [← (Option.some.inj h)] <;> rfl) dX11_counted_143
                      · rw [if_neg c11] at h
                        by_cases c12 : a1 = 11
                        · rw [if_pos c12] at h
                          refine lv_tableIn (tgt := 144) (off := 143) hx hb dX11_counted_1 (by rw [c12]; decide) (by rw [c12]; decide) (by rw [c12]; rfl) (by decide) ?_
                          refine lv_aload_n hx hb dX11_counted_144 rfl (lv_at hl 0 rfl) ?_
                          refine hy_get (T := (Mc, M, Mo)) (o := 30) (k := 16) (v := .int (M.1 30 16)) hx hb hown hts hX hP (by decide) rfl rfl inX11g (by decide) q_1208 rfl dX11_counted_145 ?_
                          exact hy_iret (T := (Mc, M, Mo)) hx hb hr hlocks hP hS (Nat.zero_le _) (Nat.zero_le _) (by rw [← (Option.some.inj h)] <;> rfl) dX11_counted_148
                        · rw [if_neg c12] at h
                          by_cases c13 : a1 = 12
                          · rw [if_pos c13] at h
                            refine lv_tableIn (tgt := 149) (off := 148) hx hb dX11_counted_1 (by rw [c13]; decide) (by rw [c13]; decide) (by rw [c13]; rfl) (by decide) ?_
                            refine lv_aload_n hx hb dX11_counted_149 rfl (lv_at hl 0 rfl) ?_
                            obtain ⟨v20, hv20, h⟩ := hy_bind h
                            refine hy_ret (hy_rV0 (T := (Mc, M, Mo)) (v := some (.int v20)) (T2 := (Mc, M, Mo)) (As := []) (rest := []) (n := 0) hx hb hml hown hts hX hP hS hl (c_Rf_fitting Mc Mo M hv20) m_Rf_fitting q_1629 (hy_recv hX hP 30 10 (by decide) rfl rfl) rfl rfl (Nat.le_of_ble_eq_true rfl) dX11_counted_150 ⟨Nat.le_of_ble_eq_true rfl, Nat.le_of_ble_eq_true rfl⟩ ⟨Nat.zero_le _, Nat.zero_le _⟩) hS (fun H locs hP hS => ?_)
                            exact hy_iret (T := (Mc, M, Mo)) hx hb hr hlocks hP hS (Nat.zero_le _) (Nat.zero_le _) (by rw [← (Option.some.inj h)] <;> rfl) dX11_counted_153
                          · rw [if_neg c13] at h
                            refine lv_tableOut (tgt := 154) hx hb dX11_counted_1 (hy_tabOut 0 a1 13 (fun k hk => by match k, hk with | 0, _ => exact c1 | 1, _ => exact c2 | 2, _ => exact c3 | 3, _ => exact c4 | 4, _ => exact c5 | 5, _ => exact c6 | 6, _ => exact c7 | 7, _ => exact c8 | 8, _ => exact c9 | 9, _ => exact c10 | 10, _ => exact c11 | 11, _ => exact c12 | 12, _ => exact c13 | k9 + 13, hk => exact absurd hk (by omega))) (by decide) ?_
                            refine lv_aload_n hx hb dX11_counted_154 rfl (lv_at hl 0 rfl) ?_
                            obtain ⟨v14, hv14, h⟩ := hy_bind h
                            refine hy_ret (hy_rV0 (T := (Mc, M, Mo)) (v := some (.int v14)) (T2 := (Mc, M, Mo)) (As := []) (rest := []) (n := 0) hx hb hml hown hts hX hP hS hl (c_Rf_faulty Mc Mo M hv14) m_Rf_faulty q_1633 (hy_recv hX hP 30 10 (by decide) rfl rfl) rfl rfl (Nat.le_of_ble_eq_true rfl) dX11_counted_155 ⟨Nat.le_of_ble_eq_true rfl, Nat.le_of_ble_eq_true rfl⟩ ⟨Nat.zero_le _, Nat.zero_le _⟩) hS (fun H locs hP hS => ?_)
                            exact hy_iret (T := (Mc, M, Mo)) hx hb hr hlocks hP hS (Nat.zero_le _) (Nat.zero_le _) (by rw [← (Option.some.inj h)] <;> rfl) dX11_counted_158
set_option maxHeartbeats 1000000 in
set_option maxRecDepth 100000 in
theorem c_Rf_count {l : Launch} {G : hyG} (Mc Mo : hyM) (a1 : Int32) (M : hyM) {res : (Int32 × hyM)} (h : Rf_count a1 M = some res) : hyC l yX11_count (.code yX11_count cX11_count 2 (some .int)) 6 140 (0) G [.ref (adr G 30), .int a1] (Mc, M, Mo) (.inr (some (.int res.1)), (Mc, res.2, Mo)) := by
  refine hy_of (by decide +kernel) (Nat.le_of_ble_eq_true rfl) ?_
  intro p e s m below meth c hx hb hml hown hts hr hlocks ht hX hP hS ls hl
  have hl : lv_has ls 2 [(0, .ref (adr G 30)), (1, .int a1)] := hl
  rw [Rf_count] at h
  refine lv_aload_n hx hb dX11_count_0 rfl (lv_at hl 0 rfl) ?_
  refine lv_iload_n hx hb dX11_count_1 rfl (lv_at hl 1 rfl) ?_
  refine lv_iconst (v := 0) hx hb dX11_count_2 rfl ?_
  refine lv_bipush (v := 13) hx hb dX11_count_3 rfl ?_
  refine hy_ret (hy_rS0 (T := (Mc, M, Mo)) (v := some (.int (bI (Rf_within a1 0 13 M)))) (T2 := (Mc, M, Mo)) (As := [.int a1, .int 0, .int 13]) (rest := [.ref (adr G 30)]) (n := 0) hx hb hml hown hts hX hP hS hl (c_Rf_within Mc Mo a1 0 13 M rfl) m_Rf_within q_1310 rfl rfl (Nat.le_of_ble_eq_true rfl) dX11_count_5 ⟨Nat.le_of_ble_eq_true rfl, Nat.le_of_ble_eq_true rfl⟩ ⟨Nat.zero_le _, Nat.zero_le _⟩) hS (fun H locs hP hS => ?_)
  have J6 : ∀ (H : Heap) (locs : List Loc) (ls : Array Slot) (u1 : Int32), u1 = (bI (!(Rf_within a1 0 13 M))) → va_P G.1 vwCl (wld G (Mc, M, Mo)) H → va_S (hyA G) s.heap H locs → lv_has ls 2 [(0, .ref (adr G 30)), (1, .int a1)] → W p l e { frames := 6, cells := 0, slots := 6 * 0, locals := 140 } s m ([.ref (adr G 30), .int a1] : List Value).toArray below meth c H locs 0 0 (vx_MQ below (hyQ G (.inr (some (.int res.1)), (Mc, res.2, Mo))) (hyXQ G (.inr (some (.int res.1)), (Mc, res.2, Mo))) ([.ref (adr G 30), .int a1] : List Value).toArray s 0 (6 * 0) (hyA G)) (F0 m 16 ls [.int u1, .ref (adr G 30)]) := by
    intro H locs ls u1 eu1 hP hS hl
    subst eu1
    refine hy_putI (ty := .int) (T := (Mc, M, Mo)) (T2 := (Mc, (wI M 30 0 (bI (!(Rf_within a1 0 13 M)))), Mo)) (o := 30) (k := 0) hx hb hown hts hX hP hS (by decide) rfl rfl rfl rfl inX11g tyX11_ok nmX11 (by decide) q_1192 rfl rfl rfl rfl (Nat.le_of_ble_eq_true rfl) dX11_count_16 (fun H locs hP hS => ?_)
    obtain ⟨M2, hM2, h⟩ := hy_bind h
    rw [Option.some.inj hM2] at hP
    refine lv_aload_n hx hb dX11_count_19 rfl (lv_at hl 0 rfl) ?_
    refine hy_get (T := (Mc, M2, Mo)) (o := 30) (k := 0) (v := .int (M2.1 30 0)) hx hb hown hts hX hP (by decide) rfl rfl inX11g (by decide) q_1192 rfl dX11_count_20 ?_
    refine lv_if_le (tgt := 28) hx hb dX11_count_23 (by decide) (fun c3 => ?_) (fun c3 => ?_)
    · rw [if_pos c3] at h
      refine lv_aload_n hx hb dX11_count_28 rfl (lv_at hl 0 rfl) ?_
      obtain ⟨M4, hM4, h⟩ := hy_bind h
      refine hy_ret (hy_rV0 (T := (Mc, M2, Mo)) (v := none) (T2 := (Mc, M4, Mo)) (As := []) (rest := []) (n := 0) hx hb hml hown hts hX hP hS hl (c_Rf_lay Mc Mo M2 hM4) m_Rf_lay q_1384 (hy_recv hX hP 30 10 (by decide) rfl rfl) rfl rfl (Nat.le_of_ble_eq_true rfl) dX11_count_29 ⟨Nat.le_of_ble_eq_true rfl, Nat.le_of_ble_eq_true rfl⟩ ⟨Nat.zero_le _, Nat.zero_le _⟩) hS (fun H locs hP hS => ?_)
      refine lv_aload_n hx hb dX11_count_32 rfl (lv_at hl 0 rfl) ?_
      refine lv_iload_n hx hb dX11_count_33 rfl (lv_at hl 1 rfl) ?_
      obtain ⟨v5, hv5, h⟩ := hy_bind h
      refine hy_ret (hy_rV0 (T := (Mc, M4, Mo)) (v := some (.int v5)) (T2 := (Mc, M4, Mo)) (As := [.int a1]) (rest := []) (n := 0) hx hb hml hown hts hX hP hS hl (c_Rf_counted Mc Mo a1 M4 hv5) m_Rf_counted q_1625 (hy_recv hX hP 30 10 (by decide) rfl rfl) rfl rfl (Nat.le_of_ble_eq_true rfl) dX11_count_34 ⟨Nat.le_of_ble_eq_true rfl, Nat.le_of_ble_eq_true rfl⟩ ⟨Nat.zero_le _, Nat.zero_le _⟩) hS (fun H locs hP hS => ?_)
      exact hy_iret (T := (Mc, M4, Mo)) hx hb hr hlocks hP hS (Nat.zero_le _) (Nat.zero_le _) (by rw [← (Option.some.inj h)] <;> rfl) dX11_count_37
    · rw [if_neg c3] at h
      refine lv_iconst (v := 0) hx hb dX11_count_26 rfl ?_
      exact hy_iret (T := (Mc, M2, Mo)) hx hb hr hlocks hP hS (Nat.zero_le _) (Nat.zero_le _) (by rw [← (Option.some.inj h)] <;> rfl) dX11_count_27
  refine lv_if_eq (tgt := 15) hx hb dX11_count_8 (by decide) (fun c1 => ?_) (fun c1 => ?_)
  · refine lv_iconst (v := 1) hx hb dX11_count_15 rfl ?_
    exact J6 _ _ ls 1 (by rw [(bI_z c1)] <;> rfl) hP hS (lv_sub hl [0, 1] rfl)
  · refine lv_iconst (v := 0) hx hb dX11_count_11 rfl ?_
    refine lv_goto (tgt := 16) hx hb dX11_count_12 (by decide) ?_
    exact J6 _ _ ls 0 (by rw [(bI_1 c1)] <;> rfl) hP hS (lv_sub hl [0, 1] rfl)
set_option maxHeartbeats 1000000 in
set_option maxRecDepth 100000 in
theorem c_Rf_meanNow {l : Launch} {G : hyG} (Mc Mo : hyM) (M : hyM) {res : UInt64} (h : Rf_meanNow M = some res) : hyC l yX11_meanNow (.code yX11_meanNow cX11_meanNow 3 (some .double)) 0 0 (0) G [.ref (adr G 30)] (Mc, M, Mo) (.inr (some (.double res)), (Mc, M, Mo)) := by
  refine hy_of (by decide +kernel) (Nat.le_of_ble_eq_true rfl) ?_
  intro p e s m below meth c hx hb hml hown hts hr hlocks ht hX hP hS ls hl
  have hl : lv_has ls 3 [(0, .ref (adr G 30))] := hl
  rw [Rf_meanNow] at h
  refine lv_iconst (v := 0) hx hb dX11_meanNow_0 rfl ?_
  refine lv_istore_n (lv' := [(1, .int 0), (0, .ref (adr G 30))]) hx hb dX11_meanNow_1 rfl hl (by decide) rfl (fun ls hl => ?_)
  refine lv_iconst (v := 0) hx hb dX11_meanNow_2 rfl ?_
  refine lv_istore_n (lv' := [(2, .int 0), (1, .int 0), (0, .ref (adr G 30))]) hx hb dX11_meanNow_3 rfl hl (by decide) rfl (fun ls hl => ?_)
  have L5 : ∀ (f : Nat) (x1 : Int32) (x2 : Int32) (qL : (Int32 × Int32)) (h : Rf_meanNow_L4 M f x1 x2 = some qL) (H : Heap) (locs : List Loc) (ls : Array Slot) (hP : va_P G.1 vwCl (wld G (Mc, M, Mo)) H) (hS : va_S (hyA G) s.heap H locs) (hl : lv_has ls 3 [(0, .ref (adr G 30)), (1, .int x1), (2, .int x2)]) (kk : ∀ (y1 : Int32) (y2 : Int32), qL = (y1, y2) → ∀ (H : Heap) (locs : List Loc) (ls : Array Slot), va_P G.1 vwCl (wld G (Mc, M, Mo)) H → va_S (hyA G) s.heap H locs → lv_has ls 3 [(0, .ref (adr G 30)), (1, .int y1), (2, .int y2)] → W p l e { frames := 0, cells := 0, slots := 6 * 0, locals := 0 } s m ([.ref (adr G 30)] : List Value).toArray below meth c H locs 0 0 (vx_MQ below (hyQ G (.inr (some (.double res)), (Mc, M, Mo))) (hyXQ G (.inr (some (.double res)), (Mc, M, Mo))) ([.ref (adr G 30)] : List Value).toArray s 0 (6 * 0) (hyA G)) (F0 m 27 ls [])), W p l e { frames := 0, cells := 0, slots := 6 * 0, locals := 0 } s m ([.ref (adr G 30)] : List Value).toArray below meth c H locs 0 0 (vx_MQ below (hyQ G (.inr (some (.double res)), (Mc, M, Mo))) (hyXQ G (.inr (some (.double res)), (Mc, M, Mo))) ([.ref (adr G 30)] : List Value).toArray s 0 (6 * 0) (hyA G)) (F0 m 4 ls []) := by
    intro f
    induction f with
    | zero =>
      intro x1 x2 qL h H locs ls hP hS hl kk
      rw [Rf_meanNow_L4] at h
      cases h
    | succ f ih =>
      intro x1 x2 qL h H locs ls hP hS hl kk
      rw [Rf_meanNow_L4] at h
      refine lv_iload_n hx hb dX11_meanNow_4 rfl (lv_at hl 2 rfl) ?_
      refine lv_aload_n hx hb dX11_meanNow_5 rfl (lv_at hl 0 rfl) ?_
      refine hy_get (T := (Mc, M, Mo)) (o := 30) (k := 2) (v := .int (M.1 30 2)) hx hb hown hts hX hP (by decide) rfl rfl inX11g (by decide) q_1194 rfl dX11_meanNow_6 ?_
      refine lv_icmp_ge (tgt := 27) hx hb dX11_meanNow_9 (by decide) (fun c3 => ?_) (fun c3 => ?_)
      · rw [if_pos c3] at h
        exact kk x1 x2 (Option.some.inj h).symm _ _ ls hP hS (lv_sub hl [0, 1, 2] rfl)
      · rw [if_neg c3] at h
        refine lv_iload_n hx hb dX11_meanNow_12 rfl (lv_at hl 1 rfl) ?_
        refine lv_aload_n hx hb dX11_meanNow_13 rfl (lv_at hl 0 rfl) ?_
        refine hy_get (T := (Mc, M, Mo)) (o := 30) (k := 27) (v := .ref (adr G 47)) hx hb hown hts hX hP (by decide) rfl rfl inX11g (by decide) q_1219 rfl dX11_meanNow_14 ?_
        refine lv_iload_n hx hb dX11_meanNow_17 rfl (lv_at hl 2 rfl) ?_
        obtain ⟨v4, hv4, h⟩ := hy_bind h
        obtain ⟨nv4, hv4⟩ := ldE_some hv4
        refine hy_iald (T := (Mc, M, Mo)) hx hb hX hP 47 40 (M.1 47) (by decide) rfl nv4 dX11_meanNow_18 ?_
        rw [hv4]
        refine lv_iadd hx hb dX11_meanNow_19 ?_
        refine lv_istore_n (lv' := [(1, .int (x1 + v4)), (0, .ref (adr G 30)), (2, .int x2)]) hx hb dX11_meanNow_20 rfl hl (by decide) rfl (fun ls hl => ?_)
        refine lv_iinc (v := (x2 + 1)) (lv' := [(2, .int (x2 + 1)), (1, .int (x1 + v4)), (0, .ref (adr G 30))]) hx hb dX11_meanNow_21 hl (k := 2) rfl rfl (by decide) rfl (fun ls hl => ?_)
        refine lv_goto (tgt := 4) hx hb dX11_meanNow_24 (by decide) ?_
        exact ih (x1 + v4) (x2 + 1) _ h  _ _ ls hP hS (lv_sub hl [2, 1, 0] rfl) kk
  obtain ⟨q8, hq8, h⟩ := hy_bind h
  refine L5 hyFu 0 0 q8 hq8 _ _ ls hP hS (lv_sub hl [2, 1, 0] rfl) ?_
  intro y1 y2 e9 H locs ls hP hS hl
  subst e9
  try dsimp only at h
  refine lv_aload_n hx hb dX11_meanNow_27 rfl (lv_at hl 0 rfl) ?_
  refine hy_get (T := (Mc, M, Mo)) (o := 30) (k := 30) (v := .int (M.1 30 30)) hx hb hown hts hX hP (by decide) rfl rfl inX11g (by decide) q_1222 rfl dX11_meanNow_28 ?_
  refine lv_if_ne (tgt := 38) hx hb dX11_meanNow_31 (by decide) (fun c6 => ?_) (fun c6 => ?_)
  · rw [if_neg c6] at h
    refine lv_iload_n hx hb dX11_meanNow_38 rfl (lv_at hl 1 rfl) ?_
    refine lv_i2d hx hb dX11_meanNow_39 ?_
    refine lv_aload_n hx hb dX11_meanNow_40 rfl (lv_at hl 0 rfl) ?_
    refine hy_get (T := (Mc, M, Mo)) (o := 30) (k := 30) (v := .int (M.1 30 30)) hx hb hown hts hX hP (by decide) rfl rfl inX11g (by decide) q_1222 rfl dX11_meanNow_41 ?_
    refine lv_i2d hx hb dX11_meanNow_44 ?_
    obtain ⟨d7, hd7, h⟩ := hy_bind h
    obtain ⟨nd7, hd7⟩ := ckD_some hd7
    refine lv_ddiv hx hb dX11_meanNow_45 nd7 ?_
    rw [hd7]
    exact hy_dret (T := (Mc, M, Mo)) hx hb hr hlocks hP hS (Nat.zero_le _) (Nat.zero_le _) (by rw [← (Option.some.inj h)] <;> rfl) dX11_meanNow_46
  · rw [if_pos (c6)] at h
    refine lv_dconst0 hx hb dX11_meanNow_34 ?_
    refine lv_goto (tgt := 46) hx hb dX11_meanNow_35 (by decide) ?_
    exact hy_dret (T := (Mc, M, Mo)) hx hb hr hlocks hP hS (Nat.zero_le _) (Nat.zero_le _) (by rw [← (Option.some.inj h)] <;> rfl) dX11_meanNow_46
set_option maxHeartbeats 1000000 in
set_option maxRecDepth 100000 in
theorem c_Rf_meanWidth {l : Launch} {G : hyG} (Mc Mo : hyM) (M : hyM) {res : (UInt64 × hyM)} (h : Rf_meanWidth M = some res) : hyC l yX11_meanWidth (.code yX11_meanWidth cX11_meanWidth 1 (some .double)) 6 140 (0) G [.ref (adr G 30)] (Mc, M, Mo) (.inr (some (.double res.1)), (Mc, res.2, Mo)) := by
  refine hy_of (by decide +kernel) (Nat.le_of_ble_eq_true rfl) ?_
  intro p e s m below meth c hx hb hml hown hts hr hlocks ht hX hP hS ls hl
  have hl : lv_has ls 1 [(0, .ref (adr G 30))] := hl
  rw [Rf_meanWidth] at h
  refine lv_aload_n hx hb dX11_meanWidth_0 rfl (lv_at hl 0 rfl) ?_
  refine lv_iconst (v := 0) hx hb dX11_meanWidth_1 rfl ?_
  refine hy_putI (ty := .int) (T := (Mc, M, Mo)) (T2 := (Mc, (wI M 30 0 0), Mo)) (o := 30) (k := 0) hx hb hown hts hX hP hS (by decide) rfl rfl rfl rfl inX11g tyX11_ok nmX11 (by decide) q_1192 rfl rfl rfl rfl (Nat.le_of_ble_eq_true rfl) dX11_meanWidth_2 (fun H locs hP hS => ?_)
  obtain ⟨M1, hM1, h⟩ := hy_bind h
  rw [Option.some.inj hM1] at hP
  refine lv_aload_n hx hb dX11_meanWidth_5 rfl (lv_at hl 0 rfl) ?_
  obtain ⟨M2, hM2, h⟩ := hy_bind h
  refine hy_ret (hy_rV0 (T := (Mc, M1, Mo)) (v := none) (T2 := (Mc, M2, Mo)) (As := []) (rest := []) (n := 0) hx hb hml hown hts hX hP hS hl (c_Rf_lay Mc Mo M1 hM2) m_Rf_lay q_1384 (hy_recv hX hP 30 10 (by decide) rfl rfl) rfl rfl (Nat.le_of_ble_eq_true rfl) dX11_meanWidth_6 ⟨Nat.le_of_ble_eq_true rfl, Nat.le_of_ble_eq_true rfl⟩ ⟨Nat.zero_le _, Nat.zero_le _⟩) hS (fun H locs hP hS => ?_)
  refine lv_aload_n hx hb dX11_meanWidth_9 rfl (lv_at hl 0 rfl) ?_
  obtain ⟨v3, hv3, h⟩ := hy_bind h
  refine hy_ret (hy_rV0 (T := (Mc, M2, Mo)) (v := some (.double v3)) (T2 := (Mc, M2, Mo)) (As := []) (rest := []) (n := 0) hx hb hml hown hts hX hP hS hl (c_Rf_meanNow Mc Mo M2 hv3) m_Rf_meanNow q_1641 (hy_recv hX hP 30 10 (by decide) rfl rfl) rfl rfl (Nat.le_of_ble_eq_true rfl) dX11_meanWidth_10 ⟨Nat.le_of_ble_eq_true rfl, Nat.le_of_ble_eq_true rfl⟩ ⟨Nat.zero_le _, Nat.zero_le _⟩) hS (fun H locs hP hS => ?_)
  exact hy_dret (T := (Mc, M2, Mo)) hx hb hr hlocks hP hS (Nat.zero_le _) (Nat.zero_le _) (by rw [← (Option.some.inj h)] <;> rfl) dX11_meanWidth_13
set_option maxHeartbeats 1000000 in
set_option maxRecDepth 100000 in
theorem c_Rf_mix {l : Launch} {G : hyG} (Mc Mo : hyM) (a1 : Int64) (M : hyM) {res : hyM} (h : Rf_mix a1 M = res) : hyC l yX11_mix (.code yX11_mix cX11_mix 3 none) 0 0 (0) G [.ref (adr G 30), .long a1] (Mc, M, Mo) (.inr none, (Mc, res, Mo)) := by
  refine hy_of (by decide +kernel) (Nat.le_of_ble_eq_true rfl) ?_
  intro p e s m below meth c hx hb hml hown hts hr hlocks ht hX hP hS ls hl
  have hl : lv_has ls 3 [(0, .ref (adr G 30)), (1, .long a1)] := hl
  rw [Rf_mix] at h
  refine lv_aload_n hx hb dX11_mix_0 rfl (lv_at hl 0 rfl) ?_
  refine lv_ldc2 (v := 31) hx hb hown (hts _ q_1654) dX11_mix_1 ?_
  refine lv_aload_n hx hb dX11_mix_4 rfl (lv_at hl 0 rfl) ?_
  refine hy_get (T := (Mc, M, Mo)) (o := 30) (k := 35) (v := .long (M.2 30 35)) hx hb hown hts hX hP (by decide) rfl rfl inX11g (by decide) q_1227 rfl dX11_mix_5 ?_
  refine lv_lmul hx hb dX11_mix_8 ?_
  refine lv_lload_n hx hb dX11_mix_9 rfl (lv_at hl 1 rfl) ?_
  refine lv_ladd hx hb dX11_mix_10 ?_
  refine hy_putL (T := (Mc, M, Mo)) (T2 := (Mc, (wL M 30 35 ((31 * (M.2 30 35)) + a1)), Mo)) (o := 30) (k := 35) hx hb hown hts hX hP hS (by decide) rfl rfl rfl rfl inX11g tyX11_ok nmX11 (by decide) q_1227 rfl rfl (Nat.le_of_ble_eq_true rfl) dX11_mix_11 (fun H locs hP hS => ?_)
  exact hy_vret (T := (Mc, (wL M 30 35 ((31 * (M.2 30 35)) + a1)), Mo)) hx hb hr hlocks hP hS (Nat.zero_le _) (Nat.zero_le _) (by rw [← h] <;> rfl) dX11_mix_14
set_option maxHeartbeats 1000000 in
set_option maxRecDepth 100000 in
theorem c_Rf_mixNote {l : Launch} {G : hyG} (Mc Mo : hyM) (a1 : Int32) (M : hyM) {res : hyM} (h : Rf_mixNote a1 M = some res) : hyC l yX11_mixNote (.code yX11_mixNote cX11_mixNote 3 none) 7 157 (0) G [.ref (adr G 30), .int a1] (Mc, M, Mo) (.inr none, (Mc, res, Mo)) := by
  refine hy_of (by decide +kernel) (Nat.le_of_ble_eq_true rfl) ?_
  intro p e s m below meth c hx hb hml hown hts hr hlocks ht hX hP hS ls hl
  have hl : lv_has ls 3 [(0, .ref (adr G 30)), (1, .int a1)] := hl
  rw [Rf_mixNote] at h
  refine lv_iconst (v := 0) hx hb dX11_mixNote_0 rfl ?_
  refine lv_istore_n (lv' := [(2, .int 0), (0, .ref (adr G 30)), (1, .int a1)]) hx hb dX11_mixNote_1 rfl hl (by decide) rfl (fun ls hl => ?_)
  have L6 : ∀ (f : Nat) (x1 : Int32) (M2 : hyM) (qL : (Int32 × hyM)) (h : Rf_mixNote_L2 a1 f x1 M2 = some qL) (H : Heap) (locs : List Loc) (ls : Array Slot) (hP : va_P G.1 vwCl (wld G (Mc, M2, Mo)) H) (hS : va_S (hyA G) s.heap H locs) (hl : lv_has ls 3 [(0, .ref (adr G 30)), (1, .int a1), (2, .int x1)]) (kk : ∀ (y1 : Int32) (NM2 : hyM), qL = (y1, NM2) → ∀ (H : Heap) (locs : List Loc) (ls : Array Slot), va_P G.1 vwCl (wld G (Mc, NM2, Mo)) H → va_S (hyA G) s.heap H locs → lv_has ls 3 [(0, .ref (adr G 30)), (1, .int a1), (2, .int y1)] → W p l e { frames := 7, cells := 0, slots := 6 * 0, locals := 157 } s m ([.ref (adr G 30), .int a1] : List Value).toArray below meth c H locs 0 0 (vx_MQ below (hyQ G (.inr none, (Mc, res, Mo))) (hyXQ G (.inr none, (Mc, res, Mo))) ([.ref (adr G 30), .int a1] : List Value).toArray s 0 (6 * 0) (hyA G)) (F0 m 25 ls [])), W p l e { frames := 7, cells := 0, slots := 6 * 0, locals := 157 } s m ([.ref (adr G 30), .int a1] : List Value).toArray below meth c H locs 0 0 (vx_MQ below (hyQ G (.inr none, (Mc, res, Mo))) (hyXQ G (.inr none, (Mc, res, Mo))) ([.ref (adr G 30), .int a1] : List Value).toArray s 0 (6 * 0) (hyA G)) (F0 m 2 ls []) := by
    intro f
    induction f with
    | zero =>
      intro x1 M2 qL h H locs ls hP hS hl kk
      rw [Rf_mixNote_L2] at h
      cases h
    | succ f ih =>
      intro x1 M2 qL h H locs ls hP hS hl kk
      rw [Rf_mixNote_L2] at h
      refine lv_iload_n hx hb dX11_mixNote_2 rfl (lv_at hl 2 rfl) ?_
      refine lv_bipush (v := 9) hx hb dX11_mixNote_3 rfl ?_
      refine lv_icmp_ge (tgt := 25) hx hb dX11_mixNote_5 (by decide) (fun c3 => ?_) (fun c3 => ?_)
      · rw [if_pos c3] at h
        exact kk x1 M2 (Option.some.inj h).symm _ _ ls hP hS (lv_sub hl [0, 1, 2] rfl)
      · rw [if_neg c3] at h
        refine lv_aload_n hx hb dX11_mixNote_8 rfl (lv_at hl 0 rfl) ?_
        refine lv_aload_n hx hb dX11_mixNote_9 rfl (lv_at hl 0 rfl) ?_
        refine lv_iload_n hx hb dX11_mixNote_10 rfl (lv_at hl 1 rfl) ?_
        refine lv_iload_n hx hb dX11_mixNote_11 rfl (lv_at hl 2 rfl) ?_
        obtain ⟨v4, hv4, h⟩ := hy_bind h
        refine hy_ret (hy_rV0 (T := (Mc, M2, Mo)) (v := some (.int v4)) (T2 := (Mc, M2, Mo)) (As := [.int a1, .int x1]) (rest := [.ref (adr G 30)]) (n := 0) hx hb hml hown hts hX hP hS hl (c_Rf_noteNow Mc Mo a1 x1 M2 hv4) m_Rf_noteNow q_1474 (hy_recv hX hP 30 10 (by decide) rfl rfl) rfl rfl (Nat.le_of_ble_eq_true rfl) dX11_mixNote_12 ⟨Nat.le_of_ble_eq_true rfl, Nat.le_of_ble_eq_true rfl⟩ ⟨Nat.zero_le _, Nat.zero_le _⟩) hS (fun H locs hP hS => ?_)
        refine lv_i2l (v := v4.toInt64) hx hb dX11_mixNote_15 rfl ?_
        refine hy_ret (hy_rV0 (T := (Mc, M2, Mo)) (v := none) (T2 := (Mc, (Rf_mix v4.toInt64 M2), Mo)) (As := [.long v4.toInt64]) (rest := []) (n := 0) hx hb hml hown hts hX hP hS hl (c_Rf_mix Mc Mo v4.toInt64 M2 rfl) m_Rf_mix q_1650 (hy_recv hX hP 30 10 (by decide) rfl rfl) rfl rfl (Nat.le_of_ble_eq_true rfl) dX11_mixNote_16 ⟨Nat.le_of_ble_eq_true rfl, Nat.le_of_ble_eq_true rfl⟩ ⟨Nat.zero_le _, Nat.zero_le _⟩) hS (fun H locs hP hS => ?_)
        obtain ⟨M5, hM5, h⟩ := hy_bind h
        rw [Option.some.inj hM5] at hP
        refine lv_iinc (v := (x1 + 1)) (lv' := [(2, .int (x1 + 1)), (0, .ref (adr G 30)), (1, .int a1)]) hx hb dX11_mixNote_19 hl (k := 2) rfl rfl (by decide) rfl (fun ls hl => ?_)
        refine lv_goto (tgt := 2) hx hb dX11_mixNote_22 (by decide) ?_
        exact ih (x1 + 1) M5 _ h  _ _ ls hP hS (lv_sub hl [1, 2, 0] rfl) kk
  obtain ⟨q18, hq18, h⟩ := hy_bind h
  refine L6 hyFu 0 M q18 hq18 _ _ ls hP hS (lv_sub hl [1, 2, 0] rfl) ?_
  intro y1 NM2 e9 H locs ls hP hS hl
  subst e9
  try dsimp only at h
  refine lv_iconst (v := 0) hx hb dX11_mixNote_25 rfl ?_
  refine lv_istore_n (lv' := [(2, .int 0), (0, .ref (adr G 30)), (1, .int a1)]) hx hb dX11_mixNote_26 rfl hl (by decide) rfl (fun ls hl => ?_)
  have L12 : ∀ (f : Nat) (x7 : Int32) (M8 : hyM) (qL : (Int32 × hyM)) (h : Rf_mixNote_L27 a1 f x7 M8 = some qL) (H : Heap) (locs : List Loc) (ls : Array Slot) (hP : va_P G.1 vwCl (wld G (Mc, M8, Mo)) H) (hS : va_S (hyA G) s.heap H locs) (hl : lv_has ls 3 [(0, .ref (adr G 30)), (1, .int a1), (2, .int x7)]) (kk : ∀ (y7 : Int32) (NM8 : hyM), qL = (y7, NM8) → ∀ (H : Heap) (locs : List Loc) (ls : Array Slot), va_P G.1 vwCl (wld G (Mc, NM8, Mo)) H → va_S (hyA G) s.heap H locs → lv_has ls 3 [(0, .ref (adr G 30)), (1, .int a1), (2, .int y7)] → W p l e { frames := 7, cells := 0, slots := 6 * 0, locals := 157 } s m ([.ref (adr G 30), .int a1] : List Value).toArray below meth c H locs 0 0 (vx_MQ below (hyQ G (.inr none, (Mc, res, Mo))) (hyXQ G (.inr none, (Mc, res, Mo))) ([.ref (adr G 30), .int a1] : List Value).toArray s 0 (6 * 0) (hyA G)) (F0 m 57 ls [])), W p l e { frames := 7, cells := 0, slots := 6 * 0, locals := 157 } s m ([.ref (adr G 30), .int a1] : List Value).toArray below meth c H locs 0 0 (vx_MQ below (hyQ G (.inr none, (Mc, res, Mo))) (hyXQ G (.inr none, (Mc, res, Mo))) ([.ref (adr G 30), .int a1] : List Value).toArray s 0 (6 * 0) (hyA G)) (F0 m 27 ls []) := by
    intro f
    induction f with
    | zero =>
      intro x7 M8 qL h H locs ls hP hS hl kk
      rw [Rf_mixNote_L27] at h
      cases h
    | succ f ih =>
      intro x7 M8 qL h H locs ls hP hS hl kk
      rw [Rf_mixNote_L27] at h
      refine lv_iload_n hx hb dX11_mixNote_27 rfl (lv_at hl 2 rfl) ?_
      refine lv_bipush (v := 24) hx hb dX11_mixNote_28 rfl ?_
      refine lv_icmp_ge (tgt := 57) hx hb dX11_mixNote_30 (by decide) (fun c9 => ?_) (fun c9 => ?_)
      · rw [if_pos c9] at h
        exact kk x7 M8 (Option.some.inj h).symm _ _ ls hP hS (lv_sub hl [0, 1, 2] rfl)
      · rw [if_neg c9] at h
        refine lv_aload_n hx hb dX11_mixNote_33 rfl (lv_at hl 0 rfl) ?_
        refine lv_aload_n hx hb dX11_mixNote_34 rfl (lv_at hl 0 rfl) ?_
        refine lv_iload_n hx hb dX11_mixNote_35 rfl (lv_at hl 1 rfl) ?_
        refine lv_iload_n hx hb dX11_mixNote_36 rfl (lv_at hl 2 rfl) ?_
        refine lv_bipush (v := 6) hx hb dX11_mixNote_37 rfl ?_
        refine lv_idiv hx hb dX11_mixNote_39 (by decide) ?_
        refine lv_iload_n hx hb dX11_mixNote_40 rfl (lv_at hl 2 rfl) ?_
        refine lv_bipush (v := 6) hx hb dX11_mixNote_41 rfl ?_
        refine lv_irem hx hb dX11_mixNote_43 (by decide) ?_
        obtain ⟨v10, hv10, h⟩ := hy_bind h
        refine hy_ret (hy_rV0 (T := (Mc, M8, Mo)) (v := some (.int v10)) (T2 := (Mc, M8, Mo)) (As := [.int a1, .int (x7 / 6), .int (x7 - x7 / 6 * 6)]) (rest := [.ref (adr G 30)]) (n := 0) hx hb hml hown hts hX hP hS hl (c_Rf_partNow Mc Mo a1 (x7 / 6) (x7 - x7 / 6 * 6) M8 hv10) m_Rf_partNow q_1510 (hy_recv hX hP 30 10 (by decide) rfl rfl) rfl rfl (Nat.le_of_ble_eq_true rfl) dX11_mixNote_44 ⟨Nat.le_of_ble_eq_true rfl, Nat.le_of_ble_eq_true rfl⟩ ⟨Nat.zero_le _, Nat.zero_le _⟩) hS (fun H locs hP hS => ?_)
        refine lv_i2l (v := v10.toInt64) hx hb dX11_mixNote_47 rfl ?_
        refine hy_ret (hy_rV0 (T := (Mc, M8, Mo)) (v := none) (T2 := (Mc, (Rf_mix v10.toInt64 M8), Mo)) (As := [.long v10.toInt64]) (rest := []) (n := 0) hx hb hml hown hts hX hP hS hl (c_Rf_mix Mc Mo v10.toInt64 M8 rfl) m_Rf_mix q_1650 (hy_recv hX hP 30 10 (by decide) rfl rfl) rfl rfl (Nat.le_of_ble_eq_true rfl) dX11_mixNote_48 ⟨Nat.le_of_ble_eq_true rfl, Nat.le_of_ble_eq_true rfl⟩ ⟨Nat.zero_le _, Nat.zero_le _⟩) hS (fun H locs hP hS => ?_)
        obtain ⟨M11, hM11, h⟩ := hy_bind h
        rw [Option.some.inj hM11] at hP
        refine lv_iinc (v := (x7 + 1)) (lv' := [(2, .int (x7 + 1)), (0, .ref (adr G 30)), (1, .int a1)]) hx hb dX11_mixNote_51 hl (k := 2) rfl rfl (by decide) rfl (fun ls hl => ?_)
        refine lv_goto (tgt := 27) hx hb dX11_mixNote_54 (by decide) ?_
        exact ih (x7 + 1) M11 _ h  _ _ ls hP hS (lv_sub hl [1, 2, 0] rfl) kk
  obtain ⟨q17, hq17, h⟩ := hy_bind h
  refine L12 hyFu 0 NM2 q17 hq17 _ _ ls hP hS (lv_sub hl [1, 2, 0] rfl) ?_
  intro y7 NM8 e9 H locs ls hP hS hl
  subst e9
  try dsimp only at h
  refine lv_aload_n hx hb dX11_mixNote_57 rfl (lv_at hl 0 rfl) ?_
  refine lv_aload_n hx hb dX11_mixNote_58 rfl (lv_at hl 0 rfl) ?_
  refine lv_iload_n hx hb dX11_mixNote_59 rfl (lv_at hl 1 rfl) ?_
  refine lv_iconst (v := 0) hx hb dX11_mixNote_60 rfl ?_
  obtain ⟨v13, hv13, h⟩ := hy_bind h
  refine hy_ret (hy_rV0 (T := (Mc, NM8, Mo)) (v := some (.int v13)) (T2 := (Mc, NM8, Mo)) (As := [.int a1, .int 0]) (rest := [.ref (adr G 30)]) (n := 0) hx hb hml hown hts hX hP hS hl (c_Rf_headsNow Mc Mo a1 0 NM8 hv13) m_Rf_headsNow q_1549 (hy_recv hX hP 30 10 (by decide) rfl rfl) rfl rfl (Nat.le_of_ble_eq_true rfl) dX11_mixNote_61 ⟨Nat.le_of_ble_eq_true rfl, Nat.le_of_ble_eq_true rfl⟩ ⟨Nat.zero_le _, Nat.zero_le _⟩) hS (fun H locs hP hS => ?_)
  refine lv_i2l (v := v13.toInt64) hx hb dX11_mixNote_64 rfl ?_
  refine hy_ret (hy_rV0 (T := (Mc, NM8, Mo)) (v := none) (T2 := (Mc, (Rf_mix v13.toInt64 NM8), Mo)) (As := [.long v13.toInt64]) (rest := []) (n := 0) hx hb hml hown hts hX hP hS hl (c_Rf_mix Mc Mo v13.toInt64 NM8 rfl) m_Rf_mix q_1650 (hy_recv hX hP 30 10 (by decide) rfl rfl) rfl rfl (Nat.le_of_ble_eq_true rfl) dX11_mixNote_65 ⟨Nat.le_of_ble_eq_true rfl, Nat.le_of_ble_eq_true rfl⟩ ⟨Nat.zero_le _, Nat.zero_le _⟩) hS (fun H locs hP hS => ?_)
  obtain ⟨M14, hM14, h⟩ := hy_bind h
  rw [Option.some.inj hM14] at hP
  refine lv_aload_n hx hb dX11_mixNote_68 rfl (lv_at hl 0 rfl) ?_
  refine lv_aload_n hx hb dX11_mixNote_69 rfl (lv_at hl 0 rfl) ?_
  refine lv_iload_n hx hb dX11_mixNote_70 rfl (lv_at hl 1 rfl) ?_
  refine lv_iconst (v := 1) hx hb dX11_mixNote_71 rfl ?_
  obtain ⟨v15, hv15, h⟩ := hy_bind h
  refine hy_ret (hy_rV0 (T := (Mc, M14, Mo)) (v := some (.int v15)) (T2 := (Mc, M14, Mo)) (As := [.int a1, .int 1]) (rest := [.ref (adr G 30)]) (n := 0) hx hb hml hown hts hX hP hS hl (c_Rf_headsNow Mc Mo a1 1 M14 hv15) m_Rf_headsNow q_1549 (hy_recv hX hP 30 10 (by decide) rfl rfl) rfl rfl (Nat.le_of_ble_eq_true rfl) dX11_mixNote_72 ⟨Nat.le_of_ble_eq_true rfl, Nat.le_of_ble_eq_true rfl⟩ ⟨Nat.zero_le _, Nat.zero_le _⟩) hS (fun H locs hP hS => ?_)
  refine lv_i2l (v := v15.toInt64) hx hb dX11_mixNote_75 rfl ?_
  refine hy_ret (hy_rV0 (T := (Mc, M14, Mo)) (v := none) (T2 := (Mc, (Rf_mix v15.toInt64 M14), Mo)) (As := [.long v15.toInt64]) (rest := []) (n := 0) hx hb hml hown hts hX hP hS hl (c_Rf_mix Mc Mo v15.toInt64 M14 rfl) m_Rf_mix q_1650 (hy_recv hX hP 30 10 (by decide) rfl rfl) rfl rfl (Nat.le_of_ble_eq_true rfl) dX11_mixNote_76 ⟨Nat.le_of_ble_eq_true rfl, Nat.le_of_ble_eq_true rfl⟩ ⟨Nat.zero_le _, Nat.zero_le _⟩) hS (fun H locs hP hS => ?_)
  obtain ⟨M16, hM16, h⟩ := hy_bind h
  rw [Option.some.inj hM16] at hP
  exact hy_vret (T := (Mc, M16, Mo)) hx hb hr hlocks hP hS (Nat.zero_le _) (Nat.zero_le _) (by rw [← (Option.some.inj h)] <;> rfl) dX11_mixNote_79
set_option maxHeartbeats 1000000 in
set_option maxRecDepth 100000 in
theorem c_Rf_mixVerses {l : Launch} {G : hyG} (Mc Mo : hyM) (M : hyM) {res : hyM} (h : Rf_mixVerses M = some res) : hyC l yX11_mixVerses (.code yX11_mixVerses cX11_mixVerses 3 none) 5 118 (0) G [.ref (adr G 30)] (Mc, M, Mo) (.inr none, (Mc, res, Mo)) := by
  refine hy_of (by decide +kernel) (Nat.le_of_ble_eq_true rfl) ?_
  intro p e s m below meth c hx hb hml hown hts hr hlocks ht hX hP hS ls hl
  have hl : lv_has ls 3 [(0, .ref (adr G 30))] := hl
  rw [Rf_mixVerses] at h
  refine lv_iconst (v := 0) hx hb dX11_mixVerses_0 rfl ?_
  refine lv_istore_n (lv' := [(1, .int 0), (0, .ref (adr G 30))]) hx hb dX11_mixVerses_1 rfl hl (by decide) rfl (fun ls hl => ?_)
  have L13 : ∀ (f : Nat) (x1 : Int32) (M2 : hyM) (qL : (Int32 × hyM)) (h : Rf_mixVerses_L2  f x1 M2 = some qL) (H : Heap) (locs : List Loc) (ls : Array Slot) (hP : va_P G.1 vwCl (wld G (Mc, M2, Mo)) H) (hS : va_S (hyA G) s.heap H locs) (hl : lv_has ls 3 [(0, .ref (adr G 30)), (1, .int x1)]) (kk : ∀ (y1 : Int32) (NM2 : hyM), qL = (y1, NM2) → ∀ (H : Heap) (locs : List Loc) (ls : Array Slot), va_P G.1 vwCl (wld G (Mc, NM2, Mo)) H → va_S (hyA G) s.heap H locs → lv_has ls 3 [(0, .ref (adr G 30)), (1, .int y1)] → W p l e { frames := 5, cells := 0, slots := 6 * 0, locals := 118 } s m ([.ref (adr G 30)] : List Value).toArray below meth c H locs 0 0 (vx_MQ below (hyQ G (.inr none, (Mc, res, Mo))) (hyXQ G (.inr none, (Mc, res, Mo))) ([.ref (adr G 30)] : List Value).toArray s 0 (6 * 0) (hyA G)) (F0 m 57 ls [])), W p l e { frames := 5, cells := 0, slots := 6 * 0, locals := 118 } s m ([.ref (adr G 30)] : List Value).toArray below meth c H locs 0 0 (vx_MQ below (hyQ G (.inr none, (Mc, res, Mo))) (hyXQ G (.inr none, (Mc, res, Mo))) ([.ref (adr G 30)] : List Value).toArray s 0 (6 * 0) (hyA G)) (F0 m 2 ls []) := by
    intro f
    induction f with
    | zero =>
      intro x1 M2 qL h H locs ls hP hS hl kk
      rw [Rf_mixVerses_L2] at h
      cases h
    | succ f ih =>
      intro x1 M2 qL h H locs ls hP hS hl kk
      rw [Rf_mixVerses_L2] at h
      refine lv_iload_n hx hb dX11_mixVerses_2 rfl (lv_at hl 1 rfl) ?_
      refine lv_iconst (v := 4) hx hb dX11_mixVerses_3 rfl ?_
      refine lv_icmp_ge (tgt := 57) hx hb dX11_mixVerses_4 (by decide) (fun c3 => ?_) (fun c3 => ?_)
      · rw [if_pos c3] at h
        exact kk x1 M2 (Option.some.inj h).symm _ _ ls hP hS (lv_sub hl [0, 1] rfl)
      · rw [if_neg c3] at h
        refine lv_aload_n hx hb dX11_mixVerses_7 rfl (lv_at hl 0 rfl) ?_
        refine lv_aload_n hx hb dX11_mixVerses_8 rfl (lv_at hl 0 rfl) ?_
        refine lv_iload_n hx hb dX11_mixVerses_9 rfl (lv_at hl 1 rfl) ?_
        obtain ⟨v4, hv4, h⟩ := hy_bind h
        refine hy_ret (hy_rV0 (T := (Mc, M2, Mo)) (v := some (.int v4)) (T2 := (Mc, M2, Mo)) (As := [.int x1]) (rest := [.ref (adr G 30)]) (n := 0) hx hb hml hown hts hX hP hS hl (c_Rf_fitNow Mc Mo x1 M2 hv4) m_Rf_fitNow q_1577 (hy_recv hX hP 30 10 (by decide) rfl rfl) rfl rfl (Nat.le_of_ble_eq_true rfl) dX11_mixVerses_10 ⟨Nat.le_of_ble_eq_true rfl, Nat.le_of_ble_eq_true rfl⟩ ⟨Nat.zero_le _, Nat.zero_le _⟩) hS (fun H locs hP hS => ?_)
        refine lv_i2l (v := v4.toInt64) hx hb dX11_mixVerses_13 rfl ?_
        refine hy_ret (hy_rV0 (T := (Mc, M2, Mo)) (v := none) (T2 := (Mc, (Rf_mix v4.toInt64 M2), Mo)) (As := [.long v4.toInt64]) (rest := []) (n := 0) hx hb hml hown hts hX hP hS hl (c_Rf_mix Mc Mo v4.toInt64 M2 rfl) m_Rf_mix q_1650 (hy_recv hX hP 30 10 (by decide) rfl rfl) rfl rfl (Nat.le_of_ble_eq_true rfl) dX11_mixVerses_14 ⟨Nat.le_of_ble_eq_true rfl, Nat.le_of_ble_eq_true rfl⟩ ⟨Nat.zero_le _, Nat.zero_le _⟩) hS (fun H locs hP hS => ?_)
        obtain ⟨M5, hM5, h⟩ := hy_bind h
        rw [Option.some.inj hM5] at hP
        refine lv_iconst (v := 0) hx hb dX11_mixVerses_17 rfl ?_
        refine lv_istore_n (lv' := [(2, .int 0), (0, .ref (adr G 30)), (1, .int x1)]) hx hb dX11_mixVerses_18 rfl hl (by decide) rfl (fun ls hl => ?_)
        have L11 : ∀ (f : Nat) (x6 : Int32) (M7 : hyM) (qL : (Int32 × hyM)) (h : Rf_mixVerses_L19 x1 f x6 M7 = some qL) (H : Heap) (locs : List Loc) (ls : Array Slot) (hP : va_P G.1 vwCl (wld G (Mc, M7, Mo)) H) (hS : va_S (hyA G) s.heap H locs) (hl : lv_has ls 3 [(0, .ref (adr G 30)), (1, .int x1), (2, .int x6)]) (kk : ∀ (y6 : Int32) (NM7 : hyM), qL = (y6, NM7) → ∀ (H : Heap) (locs : List Loc) (ls : Array Slot), va_P G.1 vwCl (wld G (Mc, NM7, Mo)) H → va_S (hyA G) s.heap H locs → lv_has ls 3 [(0, .ref (adr G 30)), (1, .int x1), (2, .int y6)] → W p l e { frames := 5, cells := 0, slots := 6 * 0, locals := 118 } s m ([.ref (adr G 30)] : List Value).toArray below meth c H locs 0 0 (vx_MQ below (hyQ G (.inr none, (Mc, res, Mo))) (hyXQ G (.inr none, (Mc, res, Mo))) ([.ref (adr G 30)] : List Value).toArray s 0 (6 * 0) (hyA G)) (F0 m 51 ls [])), W p l e { frames := 5, cells := 0, slots := 6 * 0, locals := 118 } s m ([.ref (adr G 30)] : List Value).toArray below meth c H locs 0 0 (vx_MQ below (hyQ G (.inr none, (Mc, res, Mo))) (hyXQ G (.inr none, (Mc, res, Mo))) ([.ref (adr G 30)] : List Value).toArray s 0 (6 * 0) (hyA G)) (F0 m 19 ls []) := by
          intro f
          induction f with
          | zero =>
            intro x6 M7 qL h H locs ls hP hS hl kk
            rw [Rf_mixVerses_L19] at h
            cases h
          | succ f ih =>
            intro x6 M7 qL h H locs ls hP hS hl kk
            rw [Rf_mixVerses_L19] at h
            refine lv_iload_n hx hb dX11_mixVerses_19 rfl (lv_at hl 2 rfl) ?_
            refine lv_bipush (v := 72) hx hb dX11_mixVerses_20 rfl ?_
            refine lv_icmp_ge (tgt := 51) hx hb dX11_mixVerses_22 (by decide) (fun c8 => ?_) (fun c8 => ?_)
            · rw [if_pos c8] at h
              exact kk x6 M7 (Option.some.inj h).symm _ _ ls hP hS (lv_sub hl [0, 1, 2] rfl)
            · rw [if_neg c8] at h
              refine lv_aload_n hx hb dX11_mixVerses_25 rfl (lv_at hl 0 rfl) ?_
              refine lv_aload_n hx hb dX11_mixVerses_26 rfl (lv_at hl 0 rfl) ?_
              refine lv_bipush (v := 24) hx hb dX11_mixVerses_27 rfl ?_
              refine lv_iload_n hx hb dX11_mixVerses_29 rfl (lv_at hl 1 rfl) ?_
              refine lv_imul hx hb dX11_mixVerses_30 ?_
              refine lv_iload_n hx hb dX11_mixVerses_31 rfl (lv_at hl 2 rfl) ?_
              refine lv_iconst (v := 3) hx hb dX11_mixVerses_32 rfl ?_
              refine lv_idiv hx hb dX11_mixVerses_33 (by decide) ?_
              refine lv_iadd hx hb dX11_mixVerses_34 ?_
              refine lv_iload_n hx hb dX11_mixVerses_35 rfl (lv_at hl 2 rfl) ?_
              refine lv_iconst (v := 3) hx hb dX11_mixVerses_36 rfl ?_
              refine lv_irem hx hb dX11_mixVerses_37 (by decide) ?_
              obtain ⟨v9, hv9, h⟩ := hy_bind h
              refine hy_ret (hy_rV0 (T := (Mc, M7, Mo)) (v := some (.int v9)) (T2 := (Mc, M7, Mo)) (As := [.int ((24 * x1) + (x6 / 3)), .int (x6 - x6 / 3 * 3)]) (rest := [.ref (adr G 30)]) (n := 0) hx hb hml hown hts hX hP hS hl (c_Rf_lineNow Mc Mo ((24 * x1) + (x6 / 3)) (x6 - x6 / 3 * 3) M7 hv9) m_Rf_lineNow q_1585 (hy_recv hX hP 30 10 (by decide) rfl rfl) rfl rfl (Nat.le_of_ble_eq_true rfl) dX11_mixVerses_38 ⟨Nat.le_of_ble_eq_true rfl, Nat.le_of_ble_eq_true rfl⟩ ⟨Nat.zero_le _, Nat.zero_le _⟩) hS (fun H locs hP hS => ?_)
              refine lv_i2l (v := v9.toInt64) hx hb dX11_mixVerses_41 rfl ?_
              refine hy_ret (hy_rV0 (T := (Mc, M7, Mo)) (v := none) (T2 := (Mc, (Rf_mix v9.toInt64 M7), Mo)) (As := [.long v9.toInt64]) (rest := []) (n := 0) hx hb hml hown hts hX hP hS hl (c_Rf_mix Mc Mo v9.toInt64 M7 rfl) m_Rf_mix q_1650 (hy_recv hX hP 30 10 (by decide) rfl rfl) rfl rfl (Nat.le_of_ble_eq_true rfl) dX11_mixVerses_42 ⟨Nat.le_of_ble_eq_true rfl, Nat.le_of_ble_eq_true rfl⟩ ⟨Nat.zero_le _, Nat.zero_le _⟩) hS (fun H locs hP hS => ?_)
              obtain ⟨M10, hM10, h⟩ := hy_bind h
              rw [Option.some.inj hM10] at hP
              refine lv_iinc (v := (x6 + 1)) (lv' := [(2, .int (x6 + 1)), (0, .ref (adr G 30)), (1, .int x1)]) hx hb dX11_mixVerses_45 hl (k := 2) rfl rfl (by decide) rfl (fun ls hl => ?_)
              refine lv_goto (tgt := 19) hx hb dX11_mixVerses_48 (by decide) ?_
              exact ih (x6 + 1) M10 _ h  _ _ ls hP hS (lv_sub hl [1, 2, 0] rfl) kk
        obtain ⟨q12, hq12, h⟩ := hy_bind h
        refine L11 hyFu 0 M5 q12 hq12 _ _ ls hP hS (lv_sub hl [1, 2, 0] rfl) ?_
        intro y6 NM7 e9 H locs ls hP hS hl
        subst e9
        try dsimp only at h
        refine lv_iinc (v := (x1 + 1)) (lv' := [(1, .int (x1 + 1)), (0, .ref (adr G 30)), (2, .int y6)]) hx hb dX11_mixVerses_51 hl (k := 1) rfl rfl (by decide) rfl (fun ls hl => ?_)
        refine lv_goto (tgt := 2) hx hb dX11_mixVerses_54 (by decide) ?_
        exact ih (x1 + 1) NM7 _ h  _ _ ls hP hS (lv_sub hl [1, 0] rfl) kk
  obtain ⟨q41, hq41, h⟩ := hy_bind h
  refine L13 hyFu 0 M q41 hq41 _ _ ls hP hS (lv_sub hl [1, 0] rfl) ?_
  intro y1 NM2 e9 H locs ls hP hS hl
  subst e9
  try dsimp only at h
  refine lv_aload_n hx hb dX11_mixVerses_57 rfl (lv_at hl 0 rfl) ?_
  refine hy_get (T := (Mc, NM2, Mo)) (o := 30) (k := 25) (v := .int (NM2.1 30 25)) hx hb hown hts hX hP (by decide) rfl rfl inX11g (by decide) q_1217 rfl dX11_mixVerses_58 ?_
  refine lv_if_ne (tgt := 68) hx hb dX11_mixVerses_61 (by decide) (fun c14 => ?_) (fun c14 => ?_)
  · rw [if_neg c14] at h
    refine lv_aload_n hx hb dX11_mixVerses_68 rfl (lv_at hl 0 rfl) ?_
    refine hy_get (T := (Mc, NM2, Mo)) (o := 30) (k := 23) (v := .ref (adr G 44)) hx hb hown hts hX hP (by decide) rfl rfl inX11g (by decide) q_1215 rfl dX11_mixVerses_69 ?_
    refine lv_aload_n hx hb dX11_mixVerses_72 rfl (lv_at hl 0 rfl) ?_
    refine hy_get (T := (Mc, NM2, Mo)) (o := 30) (k := 26) (v := .ref (adr G 46)) hx hb hown hts hX hP (by decide) rfl rfl inX11g (by decide) q_1218 rfl dX11_mixVerses_73 ?_
    refine lv_iconst (v := 0) hx hb dX11_mixVerses_76 rfl ?_
    obtain ⟨v15, hv15, h⟩ := hy_bind h
    obtain ⟨nv15, hv15⟩ := ldE_some hv15
    refine hy_iald (T := (Mc, NM2, Mo)) hx hb hX hP 46 80 (NM2.1 46) (by decide) rfl nv15 dX11_mixVerses_77 ?_
    rw [hv15]
    obtain ⟨v16, hv16, h⟩ := hy_bind h
    obtain ⟨nv16, hv16⟩ := ldE_some hv16
    refine hy_iald (T := (Mc, NM2, Mo)) hx hb hX hP 44 40 (NM2.1 44) (by decide) rfl nv16 dX11_mixVerses_78 ?_
    rw [hv16]
    refine lv_aload_n hx hb dX11_mixVerses_79 rfl (lv_at hl 0 rfl) ?_
    refine hy_get (T := (Mc, NM2, Mo)) (o := 30) (k := 22) (v := .ref (adr G 43)) hx hb hown hts hX hP (by decide) rfl rfl inX11g (by decide) q_1214 rfl dX11_mixVerses_80 ?_
    refine lv_aload_n hx hb dX11_mixVerses_83 rfl (lv_at hl 0 rfl) ?_
    refine hy_get (T := (Mc, NM2, Mo)) (o := 30) (k := 26) (v := .ref (adr G 46)) hx hb hown hts hX hP (by decide) rfl rfl inX11g (by decide) q_1218 rfl dX11_mixVerses_84 ?_
    refine lv_iconst (v := 0) hx hb dX11_mixVerses_87 rfl ?_
    obtain ⟨v17, hv17, h⟩ := hy_bind h
    obtain ⟨nv17, hv17⟩ := ldE_some hv17
    refine hy_iald (T := (Mc, NM2, Mo)) hx hb hX hP 46 80 (NM2.1 46) (by decide) rfl nv17 dX11_mixVerses_88 ?_
    rw [hv17]
    obtain ⟨v18, hv18, h⟩ := hy_bind h
    obtain ⟨nv18, hv18⟩ := ldE_some hv18
    refine hy_iald (T := (Mc, NM2, Mo)) hx hb hX hP 43 40 (NM2.1 43) (by decide) rfl nv18 dX11_mixVerses_89 ?_
    rw [hv18]
    refine lv_isub hx hb dX11_mixVerses_90 ?_
    refine lv_iconst (v := 1) hx hb dX11_mixVerses_91 rfl ?_
    refine lv_iadd hx hb dX11_mixVerses_92 ?_
    refine lv_istore_n (lv' := [(1, .int ((v16 - v18) + 1)), (0, .ref (adr G 30))]) hx hb dX11_mixVerses_93 rfl hl (by decide) rfl (fun ls hl => ?_)
    refine lv_iconst (v := 0) hx hb dX11_mixVerses_94 rfl ?_
    refine lv_istore_n (lv' := [(2, .int 0), (1, .int ((v16 - v18) + 1)), (0, .ref (adr G 30))]) hx hb dX11_mixVerses_95 rfl hl (by decide) rfl (fun ls hl => ?_)
    have L28 : ∀ (f : Nat) (x19 : Int32) (M20 : hyM) (qL : (Int32 × hyM)) (h : Rf_mixVerses_L96 v16 v18 f x19 M20 = some qL) (H : Heap) (locs : List Loc) (ls : Array Slot) (hP : va_P G.1 vwCl (wld G (Mc, M20, Mo)) H) (hS : va_S (hyA G) s.heap H locs) (hl : lv_has ls 3 [(0, .ref (adr G 30)), (1, .int ((v16 - v18) + 1)), (2, .int x19)]) (kk : ∀ (y19 : Int32) (NM20 : hyM), qL = (y19, NM20) → ∀ (H : Heap) (locs : List Loc) (ls : Array Slot), va_P G.1 vwCl (wld G (Mc, NM20, Mo)) H → va_S (hyA G) s.heap H locs → lv_has ls 3 [(0, .ref (adr G 30)), (1, .int ((v16 - v18) + 1)), (2, .int y19)] → W p l e { frames := 5, cells := 0, slots := 6 * 0, locals := 118 } s m ([.ref (adr G 30)] : List Value).toArray below meth c H locs 0 0 (vx_MQ below (hyQ G (.inr none, (Mc, res, Mo))) (hyXQ G (.inr none, (Mc, res, Mo))) ([.ref (adr G 30)] : List Value).toArray s 0 (6 * 0) (hyA G)) (F0 m 146 ls [])), W p l e { frames := 5, cells := 0, slots := 6 * 0, locals := 118 } s m ([.ref (adr G 30)] : List Value).toArray below meth c H locs 0 0 (vx_MQ below (hyQ G (.inr none, (Mc, res, Mo))) (hyXQ G (.inr none, (Mc, res, Mo))) ([.ref (adr G 30)] : List Value).toArray s 0 (6 * 0) (hyA G)) (F0 m 96 ls []) := by
      intro f
      induction f with
      | zero =>
        intro x19 M20 qL h H locs ls hP hS hl kk
        rw [Rf_mixVerses_L96] at h
        cases h
      | succ f ih =>
        intro x19 M20 qL h H locs ls hP hS hl kk
        rw [Rf_mixVerses_L96] at h
        refine lv_iload_n hx hb dX11_mixVerses_96 rfl (lv_at hl 2 rfl) ?_
        refine lv_iconst (v := 4) hx hb dX11_mixVerses_97 rfl ?_
        refine lv_iload_n hx hb dX11_mixVerses_98 rfl (lv_at hl 1 rfl) ?_
        refine lv_imul hx hb dX11_mixVerses_99 ?_
        refine lv_iconst (v := 4) hx hb dX11_mixVerses_100 rfl ?_
        refine lv_imul hx hb dX11_mixVerses_101 ?_
        refine lv_icmp_ge (tgt := 146) hx hb dX11_mixVerses_102 (by decide) (fun c21 => ?_) (fun c21 => ?_)
        · rw [if_pos c21] at h
          exact kk x19 M20 (Option.some.inj h).symm _ _ ls hP hS (lv_sub hl [0, 1, 2] rfl)
        · rw [if_neg c21] at h
          refine lv_aload_n hx hb dX11_mixVerses_105 rfl (lv_at hl 0 rfl) ?_
          refine lv_aload_n hx hb dX11_mixVerses_106 rfl (lv_at hl 0 rfl) ?_
          refine lv_iload_n hx hb dX11_mixVerses_107 rfl (lv_at hl 2 rfl) ?_
          refine lv_iconst (v := 4) hx hb dX11_mixVerses_108 rfl ?_
          refine lv_idiv hx hb dX11_mixVerses_109 (by decide) ?_
          refine lv_iload_n hx hb dX11_mixVerses_110 rfl (lv_at hl 1 rfl) ?_
          obtain ⟨v22, hv22, h⟩ := hy_bind h
          obtain ⟨nv22, hv22⟩ := jdv_some hv22
          refine lv_idiv hx hb dX11_mixVerses_111 nv22 ?_
          rw [hv22]
          refine lv_iconst (v := 0) hx hb dX11_mixVerses_112 rfl ?_
          refine lv_aload_n hx hb dX11_mixVerses_113 rfl (lv_at hl 0 rfl) ?_
          refine hy_get (T := (Mc, M20, Mo)) (o := 30) (k := 22) (v := .ref (adr G 43)) hx hb hown hts hX hP (by decide) rfl rfl inX11g (by decide) q_1214 rfl dX11_mixVerses_114 ?_
          refine lv_aload_n hx hb dX11_mixVerses_117 rfl (lv_at hl 0 rfl) ?_
          refine hy_get (T := (Mc, M20, Mo)) (o := 30) (k := 26) (v := .ref (adr G 46)) hx hb hown hts hX hP (by decide) rfl rfl inX11g (by decide) q_1218 rfl dX11_mixVerses_118 ?_
          refine lv_iconst (v := 0) hx hb dX11_mixVerses_121 rfl ?_
          obtain ⟨v23, hv23, h⟩ := hy_bind h
          obtain ⟨nv23, hv23⟩ := ldE_some hv23
          refine hy_iald (T := (Mc, M20, Mo)) hx hb hX hP 46 80 (M20.1 46) (by decide) rfl nv23 dX11_mixVerses_122 ?_
          rw [hv23]
          obtain ⟨v24, hv24, h⟩ := hy_bind h
          obtain ⟨nv24, hv24⟩ := ldE_some hv24
          refine hy_iald (T := (Mc, M20, Mo)) hx hb hX hP 43 40 (M20.1 43) (by decide) rfl nv24 dX11_mixVerses_123 ?_
          rw [hv24]
          refine lv_iload_n hx hb dX11_mixVerses_124 rfl (lv_at hl 2 rfl) ?_
          refine lv_iconst (v := 4) hx hb dX11_mixVerses_125 rfl ?_
          refine lv_idiv hx hb dX11_mixVerses_126 (by decide) ?_
          refine lv_iload_n hx hb dX11_mixVerses_127 rfl (lv_at hl 1 rfl) ?_
          obtain ⟨v25, hv25, h⟩ := hy_bind h
          obtain ⟨nv25, hv25⟩ := jrm_some hv25
          refine lv_irem hx hb dX11_mixVerses_128 nv25 ?_
          rw [hv25]
          refine lv_iadd hx hb dX11_mixVerses_129 ?_
          refine lv_iload_n hx hb dX11_mixVerses_130 rfl (lv_at hl 2 rfl) ?_
          refine lv_iconst (v := 4) hx hb dX11_mixVerses_131 rfl ?_
          refine lv_irem hx hb dX11_mixVerses_132 (by decide) ?_
          obtain ⟨v26, hv26, h⟩ := hy_bind h
          refine hy_ret (hy_rV0 (T := (Mc, M20, Mo)) (v := some (.int v26)) (T2 := (Mc, M20, Mo)) (As := [.int v22, .int 0, .int (v24 + v25), .int (x19 - x19 / 4 * 4)]) (rest := [.ref (adr G 30)]) (n := 0) hx hb hml hown hts hX hP hS hl (c_Rf_belowNow Mc Mo v22 0 (v24 + v25) (x19 - x19 / 4 * 4) M20 hv26) m_Rf_belowNow q_1597 (hy_recv hX hP 30 10 (by decide) rfl rfl) rfl rfl (Nat.le_of_ble_eq_true rfl) dX11_mixVerses_133 ⟨Nat.le_of_ble_eq_true rfl, Nat.le_of_ble_eq_true rfl⟩ ⟨Nat.zero_le _, Nat.zero_le _⟩) hS (fun H locs hP hS => ?_)
          refine lv_i2l (v := v26.toInt64) hx hb dX11_mixVerses_136 rfl ?_
          refine hy_ret (hy_rV0 (T := (Mc, M20, Mo)) (v := none) (T2 := (Mc, (Rf_mix v26.toInt64 M20), Mo)) (As := [.long v26.toInt64]) (rest := []) (n := 0) hx hb hml hown hts hX hP hS hl (c_Rf_mix Mc Mo v26.toInt64 M20 rfl) m_Rf_mix q_1650 (hy_recv hX hP 30 10 (by decide) rfl rfl) rfl rfl (Nat.le_of_ble_eq_true rfl) dX11_mixVerses_137 ⟨Nat.le_of_ble_eq_true rfl, Nat.le_of_ble_eq_true rfl⟩ ⟨Nat.zero_le _, Nat.zero_le _⟩) hS (fun H locs hP hS => ?_)
          obtain ⟨M27, hM27, h⟩ := hy_bind h
          rw [Option.some.inj hM27] at hP
          refine lv_iinc (v := (x19 + 1)) (lv' := [(2, .int (x19 + 1)), (0, .ref (adr G 30)), (1, .int ((v16 - v18) + 1))]) hx hb dX11_mixVerses_140 hl (k := 2) rfl rfl (by decide) rfl (fun ls hl => ?_)
          refine lv_goto (tgt := 96) hx hb dX11_mixVerses_143 (by decide) ?_
          exact ih (x19 + 1) M27 _ h  _ _ ls hP hS (lv_sub hl [1, 2, 0] rfl) kk
    obtain ⟨q29, hq29, h⟩ := hy_bind h
    refine L28 hyFu 0 NM2 q29 hq29 _ _ ls hP hS (lv_sub hl [2, 1, 0] rfl) ?_
    intro y19 NM20 e9 H locs ls hP hS hl
    subst e9
    try dsimp only at h
    exact hy_vret (T := (Mc, NM20, Mo)) hx hb hr hlocks hP hS (Nat.zero_le _) (Nat.zero_le _) (by rw [← (Option.some.inj h)] <;> rfl) dX11_mixVerses_146
  · rw [if_pos (c14)] at h
    refine lv_iconst (v := 0) hx hb dX11_mixVerses_64 rfl ?_
    refine lv_goto (tgt := 93) hx hb dX11_mixVerses_65 (by decide) ?_
    refine lv_istore_n (lv' := [(1, .int 0), (0, .ref (adr G 30))]) hx hb dX11_mixVerses_93 rfl hl (by decide) rfl (fun ls hl => ?_)
    refine lv_iconst (v := 0) hx hb dX11_mixVerses_94 rfl ?_
    refine lv_istore_n (lv' := [(2, .int 0), (1, .int 0), (0, .ref (adr G 30))]) hx hb dX11_mixVerses_95 rfl hl (by decide) rfl (fun ls hl => ?_)
    have L39 : ∀ (f : Nat) (x30 : Int32) (M31 : hyM) (qL : (Int32 × hyM)) (h : Rf_mixVerses_L96b  f x30 M31 = some qL) (H : Heap) (locs : List Loc) (ls : Array Slot) (hP : va_P G.1 vwCl (wld G (Mc, M31, Mo)) H) (hS : va_S (hyA G) s.heap H locs) (hl : lv_has ls 3 [(0, .ref (adr G 30)), (1, .int 0), (2, .int x30)]) (kk : ∀ (y30 : Int32) (NM31 : hyM), qL = (y30, NM31) → ∀ (H : Heap) (locs : List Loc) (ls : Array Slot), va_P G.1 vwCl (wld G (Mc, NM31, Mo)) H → va_S (hyA G) s.heap H locs → lv_has ls 3 [(0, .ref (adr G 30)), (1, .int 0), (2, .int y30)] → W p l e { frames := 5, cells := 0, slots := 6 * 0, locals := 118 } s m ([.ref (adr G 30)] : List Value).toArray below meth c H locs 0 0 (vx_MQ below (hyQ G (.inr none, (Mc, res, Mo))) (hyXQ G (.inr none, (Mc, res, Mo))) ([.ref (adr G 30)] : List Value).toArray s 0 (6 * 0) (hyA G)) (F0 m 146 ls [])), W p l e { frames := 5, cells := 0, slots := 6 * 0, locals := 118 } s m ([.ref (adr G 30)] : List Value).toArray below meth c H locs 0 0 (vx_MQ below (hyQ G (.inr none, (Mc, res, Mo))) (hyXQ G (.inr none, (Mc, res, Mo))) ([.ref (adr G 30)] : List Value).toArray s 0 (6 * 0) (hyA G)) (F0 m 96 ls []) := by
      intro f
      induction f with
      | zero =>
        intro x30 M31 qL h H locs ls hP hS hl kk
        rw [Rf_mixVerses_L96b] at h
        cases h
      | succ f ih =>
        intro x30 M31 qL h H locs ls hP hS hl kk
        rw [Rf_mixVerses_L96b] at h
        refine lv_iload_n hx hb dX11_mixVerses_96 rfl (lv_at hl 2 rfl) ?_
        refine lv_iconst (v := 4) hx hb dX11_mixVerses_97 rfl ?_
        refine lv_iload_n hx hb dX11_mixVerses_98 rfl (lv_at hl 1 rfl) ?_
        refine lv_imul hx hb dX11_mixVerses_99 ?_
        refine lv_iconst (v := 4) hx hb dX11_mixVerses_100 rfl ?_
        refine lv_imul hx hb dX11_mixVerses_101 ?_
        refine lv_icmp_ge (tgt := 146) hx hb dX11_mixVerses_102 (by decide) (fun c32 => ?_) (fun c32 => ?_)
        · rw [if_pos c32] at h
          exact kk x30 M31 (Option.some.inj h).symm _ _ ls hP hS (lv_sub hl [0, 1, 2] rfl)
        · rw [if_neg c32] at h
          refine lv_aload_n hx hb dX11_mixVerses_105 rfl (lv_at hl 0 rfl) ?_
          refine lv_aload_n hx hb dX11_mixVerses_106 rfl (lv_at hl 0 rfl) ?_
          refine lv_iload_n hx hb dX11_mixVerses_107 rfl (lv_at hl 2 rfl) ?_
          refine lv_iconst (v := 4) hx hb dX11_mixVerses_108 rfl ?_
          refine lv_idiv hx hb dX11_mixVerses_109 (by decide) ?_
          refine lv_iload_n hx hb dX11_mixVerses_110 rfl (lv_at hl 1 rfl) ?_
          obtain ⟨v33, hv33, h⟩ := hy_bind h
          obtain ⟨nv33, hv33⟩ := jdv_some hv33
          refine lv_idiv hx hb dX11_mixVerses_111 nv33 ?_
          rw [hv33]
          refine lv_iconst (v := 0) hx hb dX11_mixVerses_112 rfl ?_
          refine lv_aload_n hx hb dX11_mixVerses_113 rfl (lv_at hl 0 rfl) ?_
          refine hy_get (T := (Mc, M31, Mo)) (o := 30) (k := 22) (v := .ref (adr G 43)) hx hb hown hts hX hP (by decide) rfl rfl inX11g (by decide) q_1214 rfl dX11_mixVerses_114 ?_
          refine lv_aload_n hx hb dX11_mixVerses_117 rfl (lv_at hl 0 rfl) ?_
          refine hy_get (T := (Mc, M31, Mo)) (o := 30) (k := 26) (v := .ref (adr G 46)) hx hb hown hts hX hP (by decide) rfl rfl inX11g (by decide) q_1218 rfl dX11_mixVerses_118 ?_
          refine lv_iconst (v := 0) hx hb dX11_mixVerses_121 rfl ?_
          obtain ⟨v34, hv34, h⟩ := hy_bind h
          obtain ⟨nv34, hv34⟩ := ldE_some hv34
          refine hy_iald (T := (Mc, M31, Mo)) hx hb hX hP 46 80 (M31.1 46) (by decide) rfl nv34 dX11_mixVerses_122 ?_
          rw [hv34]
          obtain ⟨v35, hv35, h⟩ := hy_bind h
          obtain ⟨nv35, hv35⟩ := ldE_some hv35
          refine hy_iald (T := (Mc, M31, Mo)) hx hb hX hP 43 40 (M31.1 43) (by decide) rfl nv35 dX11_mixVerses_123 ?_
          rw [hv35]
          refine lv_iload_n hx hb dX11_mixVerses_124 rfl (lv_at hl 2 rfl) ?_
          refine lv_iconst (v := 4) hx hb dX11_mixVerses_125 rfl ?_
          refine lv_idiv hx hb dX11_mixVerses_126 (by decide) ?_
          refine lv_iload_n hx hb dX11_mixVerses_127 rfl (lv_at hl 1 rfl) ?_
          obtain ⟨v36, hv36, h⟩ := hy_bind h
          obtain ⟨nv36, hv36⟩ := jrm_some hv36
          refine lv_irem hx hb dX11_mixVerses_128 nv36 ?_
          rw [hv36]
          refine lv_iadd hx hb dX11_mixVerses_129 ?_
          refine lv_iload_n hx hb dX11_mixVerses_130 rfl (lv_at hl 2 rfl) ?_
          refine lv_iconst (v := 4) hx hb dX11_mixVerses_131 rfl ?_
          refine lv_irem hx hb dX11_mixVerses_132 (by decide) ?_
          obtain ⟨v37, hv37, h⟩ := hy_bind h
          refine hy_ret (hy_rV0 (T := (Mc, M31, Mo)) (v := some (.int v37)) (T2 := (Mc, M31, Mo)) (As := [.int v33, .int 0, .int (v35 + v36), .int (x30 - x30 / 4 * 4)]) (rest := [.ref (adr G 30)]) (n := 0) hx hb hml hown hts hX hP hS hl (c_Rf_belowNow Mc Mo v33 0 (v35 + v36) (x30 - x30 / 4 * 4) M31 hv37) m_Rf_belowNow q_1597 (hy_recv hX hP 30 10 (by decide) rfl rfl) rfl rfl (Nat.le_of_ble_eq_true rfl) dX11_mixVerses_133 ⟨Nat.le_of_ble_eq_true rfl, Nat.le_of_ble_eq_true rfl⟩ ⟨Nat.zero_le _, Nat.zero_le _⟩) hS (fun H locs hP hS => ?_)
          refine lv_i2l (v := v37.toInt64) hx hb dX11_mixVerses_136 rfl ?_
          refine hy_ret (hy_rV0 (T := (Mc, M31, Mo)) (v := none) (T2 := (Mc, (Rf_mix v37.toInt64 M31), Mo)) (As := [.long v37.toInt64]) (rest := []) (n := 0) hx hb hml hown hts hX hP hS hl (c_Rf_mix Mc Mo v37.toInt64 M31 rfl) m_Rf_mix q_1650 (hy_recv hX hP 30 10 (by decide) rfl rfl) rfl rfl (Nat.le_of_ble_eq_true rfl) dX11_mixVerses_137 ⟨Nat.le_of_ble_eq_true rfl, Nat.le_of_ble_eq_true rfl⟩ ⟨Nat.zero_le _, Nat.zero_le _⟩) hS (fun H locs hP hS => ?_)
          obtain ⟨M38, hM38, h⟩ := hy_bind h
          rw [Option.some.inj hM38] at hP
          refine lv_iinc (v := (x30 + 1)) (lv' := [(2, .int (x30 + 1)), (0, .ref (adr G 30)), (1, .int 0)]) hx hb dX11_mixVerses_140 hl (k := 2) rfl rfl (by decide) rfl (fun ls hl => ?_)
          refine lv_goto (tgt := 96) hx hb dX11_mixVerses_143 (by decide) ?_
          exact ih (x30 + 1) M38 _ h  _ _ ls hP hS (lv_sub hl [1, 2, 0] rfl) kk
    obtain ⟨q40, hq40, h⟩ := hy_bind h
    refine L39 hyFu 0 NM2 q40 hq40 _ _ ls hP hS (lv_sub hl [2, 1, 0] rfl) ?_
    intro y30 NM31 e9 H locs ls hP hS hl
    subst e9
    try dsimp only at h
    exact hy_vret (T := (Mc, NM31, Mo)) hx hb hr hlocks hP hS (Nat.zero_le _) (Nat.zero_le _) (by rw [← (Option.some.inj h)] <;> rfl) dX11_mixVerses_146
set_option maxHeartbeats 1000000 in
set_option maxRecDepth 100000 in
theorem c_Jd_isNaN {l : Launch} {G : hyG} (Mc Mo : hyM) (a1 : UInt64) (M : hyM) {res : Bool} (h : Jd_isNaN a1 M = res) : hyC l yJxe99ae_isNaN_b9ae7 (.code yJxe99ae_isNaN_b9ae7 cJxe99ae_isNaN_b9ae7 2 (some .boolean)) 0 0 (0) G [.double a1] (Mc, M, Mo) (.inr (some (.int (bI res))), (Mc, M, Mo)) := by
  refine hy_of (by decide +kernel) (Nat.le_of_ble_eq_true rfl) ?_
  intro p e s m below meth c hx hb hml hown hts hr hlocks ht hX hP hS ls hl
  have hl : lv_has ls 2 [(0, .double a1)] := hl
  rw [Jd_isNaN] at h
  refine lv_dload_n hx hb dJxe99ae_isNaN_b9ae7_0 rfl (lv_at hl 0 rfl) ?_
  refine lv_dload_n hx hb dJxe99ae_isNaN_b9ae7_1 rfl (lv_at hl 0 rfl) ?_
  refine lv_dcmp hx hb dJxe99ae_isNaN_b9ae7_2 ?_
  have J2 : ∀ (H : Heap) (locs : List Loc) (ls : Array Slot) (u1 : Int32), u1 = (bI (!decide ((Op.cmpValue (FP.dcmp a1 a1) .l) = 0))) → va_P G.1 vwCl (wld G (Mc, M, Mo)) H → va_S (hyA G) s.heap H locs → lv_has ls 2 [(0, .double a1)] → W p l e { frames := 0, cells := 0, slots := 6 * 0, locals := 0 } s m ([.double a1] : List Value).toArray below meth c H locs 0 0 (vx_MQ below (hyQ G (.inr (some (.int (bI res))), (Mc, M, Mo))) (hyXQ G (.inr (some (.int (bI res))), (Mc, M, Mo))) ([.double a1] : List Value).toArray s 0 (6 * 0) (hyA G)) (F0 m 11 ls [.int u1]) := by
    intro H locs ls u1 eu1 hP hS hl
    subst eu1
    exact hy_zret (T := (Mc, M, Mo)) hx hb hr hlocks hP hS (Nat.zero_le _) (Nat.zero_le _) (bI_nar (!decide ((Op.cmpValue (FP.dcmp a1 a1) .l) = 0))) (by rw [← h] <;> rfl) dJxe99ae_isNaN_b9ae7_11
  refine lv_if_eq (tgt := 10) hx hb dJxe99ae_isNaN_b9ae7_3 (by decide) (fun c1 => ?_) (fun c1 => ?_)
  · refine lv_iconst (v := 0) hx hb dJxe99ae_isNaN_b9ae7_10 rfl ?_
    exact J2 _ _ ls 0 (by rw [decide_eq_true c1] <;> rfl) hP hS (lv_sub hl [0] rfl)
  · refine lv_iconst (v := 1) hx hb dJxe99ae_isNaN_b9ae7_6 rfl ?_
    refine lv_goto (tgt := 11) hx hb dJxe99ae_isNaN_b9ae7_7 (by decide) ?_
    exact J2 _ _ ls 1 (by rw [decide_eq_false c1] <;> rfl) hP hS (lv_sub hl [0] rfl)
